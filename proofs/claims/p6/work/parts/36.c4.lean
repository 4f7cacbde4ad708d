theorem sX12_place__11 {g : Gs} (hS : Shp g) {b : Nat → Int} {x0 : Nat} (hx0 : cls x0 = 11) {d : Ds} (hB : Bnd b d) : ok (fX12_place 10000 g x0 d) (fun u d' => d' = d ∧ (u = (dI d x0 16))) := by
  unfold fX12_place
  refine ok_gd (kd_11 hS hx0) ?_
  exact ok_some ⟨rfl, rfl⟩
theorem sX12_has {g : Gs} (hS : Shp g) {b : Nat → Int} {x0 : Int32} {x1 : Int32} {d : Ds} (hB : Bnd b d) : ok (fX12_has 10000 g x0 x1 d) (fun u d' => d' = d ∧ (u = 1 ∧ (((x0 >>> (x1 &&& 31)) &&& 1) = (1 : Int32)) ∨ u = 0 ∧ ¬ (((x0 >>> (x1 &&& 31)) &&& 1) = (1 : Int32)))) := by
  unfold fX12_has
  refine ok_if (fun c_1 => ?_) (fun c_1 => ?_)
  · have h_2 := iv.w (c := 1) (e := 1) (eq_l c_1 (by decide : iv (1 : Int32) 1 1)) (by decide)
    unfold fX12_has_J14
    refine ok_gd (iv_b (by decide : iv (1 : Int32) 1 1) (by decide)) ?_
    exact ok_some ⟨rfl, Or.inl ⟨rfl, c_1⟩⟩
  · have h_3 := iv.w (c := 0) (e := 0) (ne_hi c_1 (iv_and (by decide : iv (1 : Int32) 1 1) (by decide)) (by decide : iv (1 : Int32) 1 1)) (by decide)
    unfold fX12_has_J14
    refine ok_gd (iv_b (by decide : iv (0 : Int32) 0 0) (by decide)) ?_
    exact ok_some ⟨rfl, Or.inr (⟨rfl, c_1⟩)⟩
theorem sX12_keysMany__11 {g : Gs} (hS : Shp g) {b : Nat → Int} {x0 : Nat} (hx0 : cls x0 = 11) {d : Ds} (hB : Bnd b d) : ok (fX12_keysMany 10000 g x0 d) (fun u d' => d' = d ∧ (u = ((dI d 336 (0 : Int32).toNatClampNeg) * (dI d 336 (1 : Int32).toNatClampNeg)))) := by
  unfold fX12_keysMany
  refine ok_gd (kd_11 hS hx0) ?_
  obtain ⟨r2, e_1, k_2, k_2o⟩ := sh_11_17 hS hx0
  refine ok_ob e_1 ?_
  have u_3 := un_55 k_2
  subst u_3
  refine ok_gd (kd_55 hS k_2) ?_
  refine ok_gd (ixg (by decide : iv (0 : Int32) 0 0) (ln_55 hS k_2) (by decide)) ?_
  refine ok_gd (ixg (by decide : iv (1 : Int32) 1 1) (ln_55 hS k_2) (by decide)) ?_
  exact ok_some ⟨rfl, rfl⟩
theorem sX12_isKey__11 {g : Gs} (hS : Shp g) {b : Nat → Int} {x0 : Nat} (hx0 : cls x0 = 11) {x1 : Int32} {d : Ds} (hB : Bnd b d) : ok (fX12_isKey 10000 g x0 x1 d) (fun u d' => d' = d ∧ (u = 0 ∨ u = 1 ∧ ¬ (x1 < 0) ∧ ¬ ((((dI d 336 (0 : Int32).toNatClampNeg) * (dI d 336 (1 : Int32).toNatClampNeg)) - 1) < x1))) := by
  unfold fX12_isKey
  refine ok_gd (kd_11 hS hx0) ?_
  refine ok_cb (sX12_keysMany__11 hS hx0 hB) ?_
  rintro _ _ ⟨rfl, rfl⟩
  refine ok_cb (sX12_in hS (iv.w (by decide : iv (0 : Int32) 0 0) (by decide)) hB) ?_
  rintro _ _ ⟨rfl, rfl | ⟨rfl, c_1, c_2⟩⟩
  · refine ok_gd (iv_b (by decide : iv (0 : Int32) 0 0) (by decide)) ?_
    exact ok_some ⟨rfl, Or.inl rfl⟩
  · have h_3 := iv.w (c := 0) (e := 2147483647) (le_r (nlt c_1) (by decide : iv (0 : Int32) 0 0) (ivT _)) (by decide)
    have h_4 := iv.w (c := 0) (e := 23) (le_l (nlt c_2) h_3 (iv_sub (l := (-1)) (h := 23) (iv_mul (l := 0) (h := 24) (rdN_0 hB (by decide +kernel : cls 336 = 55)) (rdN_1 hB (by decide +kernel : cls 336 = 55)) (by decide)) (by decide : iv (1 : Int32) 1 1) (by decide))) (by decide)
    have h_5 := iv.w (c := 0) (e := 23) (le_r (nlt c_2) h_3 (iv_sub (l := (-1)) (h := 23) (iv_mul (l := 0) (h := 24) (rdN_0 hB (by decide +kernel : cls 336 = 55)) (rdN_1 hB (by decide +kernel : cls 336 = 55)) (by decide)) (by decide : iv (1 : Int32) 1 1) (by decide))) (by decide)
    refine ok_gd (iv_b (by decide : iv (1 : Int32) 1 1) (by decide)) ?_
    exact ok_some ⟨rfl, Or.inr (⟨rfl, c_1, c_2⟩)⟩
def m_sX12_press__11 : Nat := 0x20000000000000000000000000000000000000000000000000000000000000000000000000000000000000000000000000000000000000000000000000000000000000000000000000000000000000000000000000000000000000000000000000000000000000000000000000000000000000000000000000000000000000000000000000000000000000000000000000000000000000000000000000000000000000000000000000000000000000000000000000000000000000000000000000000000000000000000000000000000000000000000000000000000000000000000000000000000000000000000000000000000000000000000000000000000000000000000000000000000000000000000000000000000000000000000000000000000000000000000000000000000000000000000000000000000000000000000000000000000000000000000000000000000000000000000000000000000000000000000000000000000000000000000000000000000000000000000000000000000000000000000000000000000000000000000000000000000000000000000000000000000000000000000000000000000000000000
theorem sX12_press_J24__11 {g : Gs} (hS : Shp g) {b : Nat → Int} {d0 : Ds} {x0 : Nat} (hx0 : cls x0 = 11) {x1 : Int32} {x2 : Int32} (hx2 : iv x2 0 1) {d : Ds} (hI : Inv m_sX12_press__11 b d0 d) : ok (fX12_press_J24 10000 g x0 x1 x2 d) (fun u d' => Inv m_sX12_press__11 b d0 d' ∧ iv u 0 1) := by
  unfold fX12_press_J24
  exact ok_some ⟨hI, (iv.w (by decide : iv (0 : Int32) 0 0) (by decide))⟩
theorem sX12_press__11 {g : Gs} (hS : Shp g) {b : Nat → Int} {x0 : Nat} (hx0 : cls x0 = 11) {x1 : Int32} {x2 : Int32} (hx2 : iv x2 0 1) {d : Ds} (hB : Bnd b d) : ok (fX12_press 10000 g x0 x1 x2 d) (fun u d' => Inv m_sX12_press__11 b d d' ∧ iv u 0 1) := by
  have hI : Inv m_sX12_press__11 b d d := Inv.rf hB
  unfold fX12_press
  refine ok_gd (kd_11 hS hx0) ?_
  refine ok_cb (sX12_isKey__11 hS hx0 hI.1) ?_
  rintro _ _ ⟨rfl, rfl | ⟨rfl, c_1, c_2⟩⟩
  · refine ok_if (fun c_3 => ?_) (fun c_3 => ?_)
    · exact sX12_press_J24__11 hS hx0 hx2 hI
    · exact (ne_no c_3 (by decide : iv (0 : Int32) 0 0) (by decide : iv (0 : Int32) 0 0))
  · have h_4 := iv.w (c := 0) (e := 2147483647) (le_r (nlt c_1) (by decide : iv (0 : Int32) 0 0) (ivT _)) (by decide)
    have h_5 := iv.w (c := 0) (e := 23) (le_l (nlt c_2) h_4 (iv_sub (l := (-1)) (h := 23) (iv_mul (l := 0) (h := 24) (rdN_0 hI.1 (by decide +kernel : cls 336 = 55)) (rdN_1 hI.1 (by decide +kernel : cls 336 = 55)) (by decide)) (by decide : iv (1 : Int32) 1 1) (by decide))) (by decide)
    have h_6 := iv.w (c := 0) (e := 23) (le_r (nlt c_2) h_4 (iv_sub (l := (-1)) (h := 23) (iv_mul (l := 0) (h := 24) (rdN_0 hI.1 (by decide +kernel : cls 336 = 55)) (rdN_1 hI.1 (by decide +kernel : cls 336 = 55)) (by decide)) (by decide : iv (1 : Int32) 1 1) (by decide))) (by decide)
    refine ok_if (fun c_7 => ?_) (fun c_7 => ?_)
    · exact (eq_no c_7 (by decide : iv (1 : Int32) 1 1) (by decide : iv (0 : Int32) 0 0) (by decide))
    · obtain ⟨r6, e_8, k_9, k_9o⟩ := sh_11_17 hS hx0
      refine ok_ob e_8 ?_
      have u_10 := un_55 k_9
      subst u_10
      refine ok_gd (kd_55 hS k_9) ?_
      refine ok_gd (ixg (by decide : iv (352 : Int32) 352 352) (ln_55 hS k_9) (by decide)) ?_
      refine ok_cb (sX12_has hS hI.1) ?_
      rintro _ _ ⟨rfl, ⟨rfl, c_11⟩ | ⟨rfl, c_12⟩⟩
      · have h_13 := iv.w (c := 1) (e := 1) (eq_l c_11 (by decide : iv (1 : Int32) 1 1)) (by decide)
        refine ok_if (fun c_14 => ?_) (fun c_14 => ?_)
        · have h_15 := iv.w (c := 1) (e := 1) (eq_r c_14 (by decide : iv (1 : Int32) 1 1)) (by decide)
          exact sX12_press_J24__11 hS hx0 (iv.w h_15 (by decide)) hI
        · refine ok_bd (fun d13 e_16 => ?_)
          have h_17 := Inv.set e_16 hI (by rw [k_9]; exact (okN_a (by decide : iv (352 : Int32) 352 352) (by decide))) (mN (n := 1) k_9 (by decide : iv (352 : Int32) 352 352) (by decide) (by decide +kernel)) (nN k_9 (by decide : iv (352 : Int32) 352 352) (by decide +kernel))
          exact ok_some ⟨h_17, (iv.w (by decide : iv (1 : Int32) 1 1) (by decide))⟩
      · have h_18 := iv.w (c := 0) (e := 0) (ne_hi c_12 (iv_and (by decide : iv (1 : Int32) 1 1) (by decide)) (by decide : iv (1 : Int32) 1 1)) (by decide)
        refine ok_if (fun c_19 => ?_) (fun c_19 => ?_)
        · have h_20 := iv.w (c := 0) (e := 0) (eq_r c_19 (by decide : iv (0 : Int32) 0 0)) (by decide)
          exact sX12_press_J24__11 hS hx0 (iv.w h_20 (by decide)) hI
        · refine ok_bd (fun d13 e_21 => ?_)
          have h_22 := Inv.set e_21 hI (by rw [k_9]; exact (okN_a (by decide : iv (352 : Int32) 352 352) (by decide))) (mN (n := 1) k_9 (by decide : iv (352 : Int32) 352 352) (by decide) (by decide +kernel)) (nN k_9 (by decide : iv (352 : Int32) 352 352) (by decide +kernel))
          exact ok_some ⟨h_22, (iv.w (by decide : iv (1 : Int32) 1 1) (by decide))⟩
def m_sX12_tick__11 : Nat := 0x100000000000000010000000000000000000000000000000000000000000000000000000000001ffc0000000000000000000000000000000000000000000000000000000000000000000000000000000000000000000000000000000000000000000000000000000000000000000000000000000000000000000000000000000000000000000000000000000000000000000000000000000000000000000000000000000000000000000000000000000000000000000000000000000000000000000000000000000000000000000000000000000000000000000000000000000000000000000000000000000000000000000000000000000000000000000000000000000000000000000000000000000000000000000000000000000000000000000000000000000000000000000000000000000000000000000000000000000000000000000000000000000000000000000000000000000000000000000000000000000000000000000000000000000000000000000000000000000000000000000000000600000000000000000000000000000000000000000000000000000000000000000000000000000000000000000000000000000000000000000000000000000000000000000000000000000000000000000000000000000000000000
-- by hand
theorem sX12_barredBy_J54__11 {g : Gs} (hS : Shp g) {b : Nat → Int} {x0 : Nat} (hx0 : cls x0 = 11) {x1 : Int32} {y2 : Int32} {y3 : Int32} (hy3 : iv y3 0 23) {d : Ds} (hB : Bnd b d) {K16 : Int32 × Int32 × Ds → Option (Int32 × Ds)} {μ16 : Nat} (hK16 : ∀ a, a.2.2 = d ∧ iv a.2.1 0 24 ∧ True → (24 - a.2.1.toInt).toNat < μ16 → ok (K16 a) (fun u d' => d' = d ∧ True)) (hm16 : (24 - y3.toInt).toNat ≤ μ16) : ok (fX12_barredBy_J54 10000 g x0 x1 K16 y2 y3 d) (fun u d' => d' = d ∧ True) := by
  unfold fX12_barredBy_J54
  refine ok_bd (fun u19 e_1 => ?_)
  have h_2 := iv_e e_1 (iv_add (l := 1) (h := 24) hy3 (by decide : iv (1 : Int32) 1 1) (by decide))
  exact hK16 _ ⟨rfl, (iv.w h_2 (by decide)), trivial⟩ (Nat.lt_of_lt_of_le (ms_up (H := 24) e_1 hy3 (by decide : iv (1 : Int32) 1 1) (by decide)) hm16)
theorem sX12_isCornered_J105__11 {g : Gs} (hS : Shp g) {b : Nat → Int} {x0 : Nat} (hx0 : cls x0 = 11) {x1 : Int32} {x2 : Int32} (hx2 : iv x2 0 3) {x3 : Int32} (hx3 : iv x3 0 5) {y4 : Int32} (hy4 : iv y4 1 6) {y5 : Int32} (hy5 : iv y5 0 3) {y6 : Int32} (hy6 : iv y6 0 5) {d : Ds} (hB : Bnd b d) (hr_336_0 : iv (dI d 336 (0 : Int32).toNatClampNeg) 1 4) {K11 : Int32 × Int32 × Ds → Option (Int32 × Ds)} {μ11 : Nat} (hK11 : ∀ a, a.2.2 = d ∧ iv a.1 0 6 ∧ iv a.2.1 0 4 ∧ True → (4 - a.2.1.toInt).toNat < μ11 → ok (K11 a) (fun u d' => d' = d ∧ iv u 0 1)) (hm11 : (4 - y5.toInt).toNat ≤ μ11) {K25 : Int32 × Int32 × Int32 × Ds → Option (Int32 × Ds)} {μ25 : Nat} (hK25 : ∀ a, a.2.2.2 = d ∧ iv a.1 0 6 ∧ iv a.2.1 0 3 ∧ iv a.2.2.1 0 6 ∧ (4 - a.2.1.toInt).toNat ≤ μ11 ∧ iv (dI a.2.2.2 336 (0 : Int32).toNatClampNeg) 1 4 ∧ True → (6 - a.2.2.1.toInt).toNat < μ25 → ok (K25 a) (fun u d' => d' = d ∧ iv u 0 1)) (hm25 : (6 - y6.toInt).toNat ≤ μ25) : ok (fX12_isCornered_J105 10000 g x0 x1 x2 x3 K11 K25 y4 y5 y6 d) (fun u d' => d' = d ∧ iv u 0 1) := by
  unfold fX12_isCornered_J105
  refine ok_bd (fun u14 e_1 => ?_)
  have h_2 := iv_e e_1 (iv_add (l := 1) (h := 6) hy6 (by decide : iv (1 : Int32) 1 1) (by decide))
  exact hK25 _ ⟨rfl, (iv.w hy4 (by decide)), hy5, (iv.w h_2 (by decide)), hm11, hr_336_0, trivial⟩ (Nat.lt_of_lt_of_le (ms_up (H := 6) e_1 hy6 (by decide : iv (1 : Int32) 1 1) (by decide)) hm25)
theorem sX12_isCornered_L25__11 {g : Gs} (hS : Shp g) {b : Nat → Int} {x0 : Nat} (hx0 : cls x0 = 11) {x1 : Int32} {x2 : Int32} (hx2 : iv x2 0 3) {x3 : Int32} (hx3 : iv x3 0 5) {y4 : Int32} (hy4 : iv y4 0 6) {y5 : Int32} (hy5 : iv y5 0 3) {y6 : Int32} (hy6 : iv y6 0 6) {d : Ds} (hB : Bnd b d) (hr_336_0 : iv (dI d 336 (0 : Int32).toNatClampNeg) 1 4) {K11 : Int32 × Int32 × Ds → Option (Int32 × Ds)} {μ11 : Nat} (hK11 : ∀ a, a.2.2 = d ∧ iv a.1 0 6 ∧ iv a.2.1 0 4 ∧ True → (4 - a.2.1.toInt).toNat < μ11 → ok (K11 a) (fun u d' => d' = d ∧ iv u 0 1)) (hm11 : (4 - y5.toInt).toNat ≤ μ11) : ok (fX12_isCornered_L25 10000 g x0 x1 x2 x3 K11 (y4, y5, y6, d)) (fun u d' => d' = d ∧ iv u 0 1) := by
  unfold fX12_isCornered_L25
  refine ok_lp (fun a => a.2.2.2 = d ∧ iv a.1 0 6 ∧ iv a.2.1 0 3 ∧ iv a.2.2.1 0 6 ∧ (4 - a.2.1.toInt).toNat ≤ μ11 ∧ iv (dI a.2.2.2 336 (0 : Int32).toNatClampNeg) 1 4 ∧ True) (fun a => (6 - a.2.2.1.toInt).toNat) ?_ 10000 _ ⟨rfl, hy4, hy5, hy6, hm11, hr_336_0, trivial⟩ (ms_b hy6 (by decide))
  · rintro K25 ⟨y4, y5, y6, d⟩ ⟨rfl, hy4, hy5, hy6, hm11, hr_336_0, -⟩ hK25
    (try dsimp only at hy4 hy5 hy6 hm11 hr_336_0 hK25 ⊢)
    unfold fX12_isCornered_B25
    refine ok_if (fun c_1 => ?_) (fun c_1 => ?_)
    · refine ok_bd (fun u12 e_2 => ?_)
      have h_3 := iv_e e_2 (iv_add (l := 1) (h := 4) hy5 (by decide : iv (1 : Int32) 1 1) (by decide))
      exact hK11 _ ⟨rfl, hy4, (iv.w h_3 (by decide)), trivial⟩ (Nat.lt_of_lt_of_le (ms_up (H := 4) e_2 hy5 (by decide : iv (1 : Int32) 1 1) (by decide)) hm11)
    · have h_4 := iv.w (c := 0) (e := 5) (lt_l (nle c_1) hy6 hy4) (by decide)
      have h_5 := iv.w (c := 1) (e := 6) (lt_r (nle c_1) hy6 hy4) (by decide)
      refine ok_if (fun c_6 => ?_) (fun c_6 => ?_)
      · exact sX12_isCornered_J105__11 hS hx0 hx2 hx3 h_5 hy5 h_4 hB hr_336_0 hK11 hm11 hK25 (Nat.le_refl _)
      · refine ok_if (fun c_7 => ?_) (fun c_7 => ?_)
        · exact sX12_isCornered_J105__11 hS hx0 hx2 hx3 h_5 hy5 h_4 hB hr_336_0 hK11 hm11 hK25 (Nat.le_refl _)
        · refine ok_cb (sX12_has hS hB) ?_
          rintro _ _ ⟨rfl, ⟨rfl, c_8⟩ | ⟨rfl, c_9⟩⟩
          · have h_10 := iv.w (c := 1) (e := 1) (eq_l c_8 (by decide : iv (1 : Int32) 1 1)) (by decide)
            refine ok_if (fun c_11 => ?_) (fun c_11 => ?_)
            · exact (eq_no c_11 (by decide : iv (1 : Int32) 1 1) (by decide : iv (0 : Int32) 0 0) (by decide))
            · refine ok_cb (sX12_has hS hB) ?_
              rintro _ _ ⟨rfl, ⟨rfl, c_12⟩ | ⟨rfl, c_13⟩⟩
              · have h_14 := iv.w (c := 1) (e := 1) (eq_l c_12 (by decide : iv (1 : Int32) 1 1)) (by decide)
                refine ok_if (fun c_15 => ?_) (fun c_15 => ?_)
                · exact (eq_no c_15 (by decide : iv (1 : Int32) 1 1) (by decide : iv (0 : Int32) 0 0) (by decide))
                · refine ok_cb (sX12_has hS hB) ?_
                  rintro _ _ ⟨rfl, ⟨rfl, c_16⟩ | ⟨rfl, c_17⟩⟩
                  · have h_18 := iv.w (c := 1) (e := 1) (eq_l c_16 (by decide : iv (1 : Int32) 1 1)) (by decide)
                    refine ok_if (fun c_19 => ?_) (fun c_19 => ?_)
                    · exact (eq_no c_19 (by decide : iv (1 : Int32) 1 1) (by decide : iv (0 : Int32) 0 0) (by decide))
                    · refine ok_cb (sX12_has hS hB) ?_
                      rintro _ _ ⟨rfl, ⟨rfl, c_20⟩ | ⟨rfl, c_21⟩⟩
                      · have h_22 := iv.w (c := 1) (e := 1) (eq_l c_20 (by decide : iv (1 : Int32) 1 1)) (by decide)
                        refine ok_if (fun c_23 => ?_) (fun c_23 => ?_)
                        · exact (eq_no c_23 (by decide : iv (1 : Int32) 1 1) (by decide : iv (0 : Int32) 0 0) (by decide))
                        · exact ok_some ⟨rfl, (iv.w (by decide : iv (1 : Int32) 1 1) (by decide))⟩
                      · have h_24 := iv.w (c := 0) (e := 0) (ne_hi c_21 (iv_and (by decide : iv (1 : Int32) 1 1) (by decide)) (by decide : iv (1 : Int32) 1 1)) (by decide)
                        refine ok_if (fun c_25 => ?_) (fun c_25 => ?_)
                        · exact sX12_isCornered_J105__11 hS hx0 hx2 hx3 h_5 hy5 h_4 hB hr_336_0 hK11 hm11 hK25 (Nat.le_refl _)
                        · exact (ne_no c_25 (by decide : iv (0 : Int32) 0 0) (by decide : iv (0 : Int32) 0 0))
                  · have h_26 := iv.w (c := 0) (e := 0) (ne_hi c_17 (iv_and (by decide : iv (1 : Int32) 1 1) (by decide)) (by decide : iv (1 : Int32) 1 1)) (by decide)
                    refine ok_if (fun c_27 => ?_) (fun c_27 => ?_)
                    · exact sX12_isCornered_J105__11 hS hx0 hx2 hx3 h_5 hy5 h_4 hB hr_336_0 hK11 hm11 hK25 (Nat.le_refl _)
                    · exact (ne_no c_27 (by decide : iv (0 : Int32) 0 0) (by decide : iv (0 : Int32) 0 0))
              · have h_28 := iv.w (c := 0) (e := 0) (ne_hi c_13 (iv_and (by decide : iv (1 : Int32) 1 1) (by decide)) (by decide : iv (1 : Int32) 1 1)) (by decide)
                refine ok_if (fun c_29 => ?_) (fun c_29 => ?_)
                · exact sX12_isCornered_J105__11 hS hx0 hx2 hx3 h_5 hy5 h_4 hB hr_336_0 hK11 hm11 hK25 (Nat.le_refl _)
                · exact (ne_no c_29 (by decide : iv (0 : Int32) 0 0) (by decide : iv (0 : Int32) 0 0))
          · have h_30 := iv.w (c := 0) (e := 0) (ne_hi c_9 (iv_and (by decide : iv (1 : Int32) 1 1) (by decide)) (by decide : iv (1 : Int32) 1 1)) (by decide)
            refine ok_if (fun c_31 => ?_) (fun c_31 => ?_)
            · exact sX12_isCornered_J105__11 hS hx0 hx2 hx3 h_5 hy5 h_4 hB hr_336_0 hK11 hm11 hK25 (Nat.le_refl _)
            · exact (ne_no c_31 (by decide : iv (0 : Int32) 0 0) (by decide : iv (0 : Int32) 0 0))
theorem sX12_isCornered_L11__11 {g : Gs} (hS : Shp g) {b : Nat → Int} {x0 : Nat} (hx0 : cls x0 = 11) {x1 : Int32} {x2 : Int32} (hx2 : iv x2 0 3) {x3 : Int32} (hx3 : iv x3 0 5) {y4 : Int32} (hy4 : iv y4 0 6) {y5 : Int32} (hy5 : iv y5 0 4) {d : Ds} (hB : Bnd b d) : ok (fX12_isCornered_L11 10000 g x0 x1 x2 x3 (y4, y5, d)) (fun u d' => d' = d ∧ iv u 0 1) := by
  unfold fX12_isCornered_L11
  refine ok_lp (fun a => a.2.2 = d ∧ iv a.1 0 6 ∧ iv a.2.1 0 4 ∧ True) (fun a => (4 - a.2.1.toInt).toNat) ?_ 10000 _ ⟨rfl, hy4, hy5, trivial⟩ (ms_b hy5 (by decide))
  · rintro K11 ⟨y4, y5, d⟩ ⟨rfl, hy4, hy5, -⟩ hK11
    (try dsimp only at hy4 hy5 hK11 ⊢)
    unfold fX12_isCornered_B11
    refine ok_gd (kd_11 hS hx0) ?_
    obtain ⟨r7, e_1, k_2, k_2o⟩ := sh_11_17 hS hx0
    refine ok_ob e_1 ?_
    have u_3 := un_55 k_2
    subst u_3
    refine ok_gd (kd_55 hS k_2) ?_
    refine ok_gd (ixg (by decide : iv (0 : Int32) 0 0) (ln_55 hS k_2) (by decide)) ?_
    refine ok_if (fun c_4 => ?_) (fun c_4 => ?_)
    · exact ok_some ⟨rfl, (iv.w (by decide : iv (0 : Int32) 0 0) (by decide))⟩
    · have h_5 := iv.w (c := 0) (e := 3) (lt_l (nle c_4) hy5 (rdN_0 hB k_2)) (by decide)
      have h_6 := iv.w (c := 1) (e := 4) (lt_r (nle c_4) hy5 (rdN_0 hB k_2)) (by decide)
      exact sX12_isCornered_L25__11 hS hx0 hx2 hx3 hy4 h_5 (iv.w (by decide : iv (0 : Int32) 0 0) (by decide)) hB h_6 hK11 (Nat.le_refl _)
theorem sX12_isCornered__11 {g : Gs} (hS : Shp g) {b : Nat → Int} {x0 : Nat} (hx0 : cls x0 = 11) {x1 : Int32} {x2 : Int32} (hx2 : iv x2 0 3) {x3 : Int32} (hx3 : iv x3 0 5) {d : Ds} (hB : Bnd b d) : ok (fX12_isCornered 10000 g x0 x1 x2 x3 d) (fun u d' => d' = d ∧ iv u 0 1) := by
  unfold fX12_isCornered
  refine ok_gd (kd_11 hS hx0) ?_
  obtain ⟨r2, e_1, k_2, k_2o⟩ := sh_11_17 hS hx0
  refine ok_ob e_1 ?_
  have u_3 := un_55 k_2
  subst u_3
  refine ok_gd (kd_55 hS k_2) ?_
  refine ok_gd (ixg (by decide : iv (1 : Int32) 1 1) (ln_55 hS k_2) (by decide)) ?_
  refine ok_bd (fun u5 e_4 => ?_)
  have h_5 := iv_e e_4 (rdN_1 hB k_2)
  exact sX12_isCornered_L11__11 hS hx0 hx2 hx3 h_5 (iv.w (by decide : iv (0 : Int32) 0 0) (by decide)) hB
theorem sX12_barredBy_L16__11 {g : Gs} (hS : Shp g) {b : Nat → Int} {x0 : Nat} (hx0 : cls x0 = 11) {x1 : Int32} {y2 : Int32} {y3 : Int32} (hy3 : iv y3 0 24) {d : Ds} (hB : Bnd b d) : ok (fX12_barredBy_L16 10000 g x0 x1 (y2, y3, d)) (fun u d' => d' = d ∧ True) := by
  unfold fX12_barredBy_L16
  refine ok_lp (fun a => a.2.2 = d ∧ iv a.2.1 0 24 ∧ True) (fun a => (24 - a.2.1.toInt).toNat) ?_ 10000 _ ⟨rfl, hy3, trivial⟩ (ms_b hy3 (by decide))
  · rintro K16 ⟨y2, y3, d⟩ ⟨rfl, hy3, -⟩ hK16
    (try dsimp only at hy3 hK16 ⊢)
    unfold fX12_barredBy_B16
    refine ok_gd (kd_11 hS hx0) ?_
    refine ok_cb (sX12_keysMany__11 hS hx0 hB) ?_
    rintro _ _ ⟨rfl, rfl⟩
    refine ok_if (fun c_1 => ?_) (fun c_1 => ?_)
    · exact ok_some ⟨rfl, trivial⟩
    · have h_2 := iv.w (c := 0) (e := 23) (lt_l (nle c_1) hy3 (iv_mul (l := 0) (h := 24) (rdN_0 hB (by decide +kernel : cls 336 = 55)) (rdN_1 hB (by decide +kernel : cls 336 = 55)) (by decide))) (by decide)
      have h_3 := iv.w (c := 1) (e := 24) (lt_r (nle c_1) hy3 (iv_mul (l := 0) (h := 24) (rdN_0 hB (by decide +kernel : cls 336 = 55)) (rdN_1 hB (by decide +kernel : cls 336 = 55)) (by decide))) (by decide)
      obtain ⟨r11, e_4, k_5, k_5o⟩ := sh_11_17 hS hx0
      refine ok_ob e_4 ?_
      have u_6 := un_55 k_5
      subst u_6
      refine ok_gd (kd_55 hS k_5) ?_
      refine ok_gd (ixg (by decide : iv (1 : Int32) 1 1) (ln_55 hS k_5) (by decide)) ?_
      refine ok_gd (iv_nz (iv_row (nle c_1) h_2 (rdN_0 hB k_5) (rdN_1 hB k_5) (by decide)).2 (by decide)) ?_
      refine ok_cb (sX12_isCornered__11 hS hx0 (iv_row (nle c_1) h_2 (rdN_0 hB k_5) (rdN_1 hB k_5) (by decide)).1 (iv.w (c := 0) (e := 5) (iv_rem h_2 (iv_row (nle c_1) h_2 (rdN_0 hB k_5) (rdN_1 hB k_5) (by decide)).2 (by decide)) (by decide)) hB) (fun u17 d15 r_7 => ?_)
      obtain ⟨rfl, h_9⟩ := r_7
      refine ok_if (fun c_10 => ?_) (fun c_10 => ?_)
      · have h_11 := iv.w (c := 0) (e := 0) (eq_l c_10 (by decide : iv (0 : Int32) 0 0)) (by decide)
        exact sX12_barredBy_J54__11 hS hx0 h_2 hB hK16 (Nat.le_refl _)
      · have h_12 := iv.w (c := 1) (e := 1) (ne_lo c_10 h_9 (by decide : iv (0 : Int32) 0 0)) (by decide)
        refine ok_bd (fun u20 e_13 => ?_)
        exact sX12_barredBy_J54__11 hS hx0 h_2 hB hK16 (Nat.le_refl _)
theorem sX12_barredBy__11 {g : Gs} (hS : Shp g) {b : Nat → Int} {x0 : Nat} (hx0 : cls x0 = 11) {x1 : Int32} {d : Ds} (hB : Bnd b d) : ok (fX12_barredBy 10000 g x0 x1 d) (fun u d' => d' = d ∧ True) := by
  unfold fX12_barredBy
  refine ok_gd (kd_11 hS hx0) ?_
  obtain ⟨r2, e_1, k_2, k_2o⟩ := sh_11_17 hS hx0
  refine ok_ob e_1 ?_
  have u_3 := un_55 k_2
  subst u_3
  refine ok_gd (kd_55 hS k_2) ?_
  refine ok_gd (ixg (by decide : iv (2 : Int32) 2 2) (ln_55 hS k_2) (by decide)) ?_
  refine ok_if (fun c_4 => ?_) (fun c_4 => ?_)
  · have h_5 := iv.w (c := 1) (e := 1) (eq_l c_4 (by decide : iv (1 : Int32) 1 1)) (by decide)
    exact ok_some ⟨rfl, trivial⟩
  · exact sX12_barredBy_L16__11 hS hx0 (iv.w (by decide : iv (0 : Int32) 0 0) (by decide)) hB
def m_sX12_laysParts__11 : Nat := 0x100000000000000000000000000000000000000000000000000000000000000000000000000000000000000000000000000000000000000000000000000000000000000000000000000000000000000000000000000000000000000000000000000000000000000000000000000000000000000000000000000000000000000000000000000000000000000000000000000000000000000000000000000000000000000000000000000000000000000000000000000000000000000000000000000000000000000000000000000000000000000000000000000000000000000000000000000000000000000000000000000000000000000000000000000000000000000000000000000000000000000000000000000000000000000000000000000000000000000000000000000000000000000000000000000000000000000000000000000000000000000000000000000000000000000000000000000000000000000000000000000000000000000000000000000000000000000000000000000000000000000000000000000000000000000000000000000000000000000000000000000000000000000000000000000000000000000000000000000000000000000000000000000000000000000000000000000000000
theorem sX12_laysParts_J148__11 {g : Gs} (hS : Shp g) {b : Nat → Int} {d0 : Ds} {x0 : Nat} (hx0 : cls x0 = 11) {x1 : Int32} {y2 : Int32} (hy2 : iv y2 0 10) {y3 : Int32} {y4 : Int32} (hy4 : iv y4 0 23) {d : Ds} (hI : Inv m_sX12_laysParts__11 b d0 d) {K39 : Int32 × Int32 × Int32 × Ds → Option (Int32 × Ds)} {μ39 : Nat} (hK39 : ∀ a, Inv m_sX12_laysParts__11 b d0 a.2.2.2 ∧ iv a.1 0 10 ∧ iv a.2.2.1 0 24 ∧ True → (24 - a.2.2.1.toInt).toNat < μ39 → ok (K39 a) (fun u d' => Inv m_sX12_laysParts__11 b d0 d' ∧ True)) (hm39 : (24 - y4.toInt).toNat ≤ μ39) : ok (fX12_laysParts_J148 10000 g x0 x1 K39 y2 y3 y4 d) (fun u d' => Inv m_sX12_laysParts__11 b d0 d' ∧ True) := by
  unfold fX12_laysParts_J148
  refine ok_bd (fun u32 e_1 => ?_)
  have h_2 := iv_e e_1 (iv_add (l := 1) (h := 24) hy4 (by decide : iv (1 : Int32) 1 1) (by decide))
  exact hK39 _ ⟨hI, hy2, (iv.w h_2 (by decide)), trivial⟩ (Nat.lt_of_lt_of_le (ms_up (H := 24) e_1 hy4 (by decide : iv (1 : Int32) 1 1) (by decide)) hm39)
theorem sX12_laysParts_J142__11 {g : Gs} (hS : Shp g) {b : Nat → Int} {d0 : Ds} {x0 : Nat} (hx0 : cls x0 = 11) {x1 : Int32} {y2 : Int32} (hy2 : iv y2 1 10) {y3 : Int32} {y4 : Int32} (hy4 : iv y4 0 23) {y5 : Int32} {y6 : Int32} {y7 : Int32} (hy7 : iv y7 0 9) {d : Ds} (hI : Inv m_sX12_laysParts__11 b d0 d) {K39 : Int32 × Int32 × Int32 × Ds → Option (Int32 × Ds)} {μ39 : Nat} (hK39 : ∀ a, Inv m_sX12_laysParts__11 b d0 a.2.2.2 ∧ iv a.1 0 10 ∧ iv a.2.2.1 0 24 ∧ True → (24 - a.2.2.1.toInt).toNat < μ39 → ok (K39 a) (fun u d' => Inv m_sX12_laysParts__11 b d0 d' ∧ True)) (hm39 : (24 - y4.toInt).toNat ≤ μ39) {K115 : Int32 × Int32 × Int32 × Int32 × Int32 × Int32 × Ds → Option (Int32 × Ds)} {μ115 : Nat} (hK115 : ∀ a, Inv m_sX12_laysParts__11 b d0 a.2.2.2.2.2.2 ∧ iv a.1 0 10 ∧ iv a.2.2.1 0 23 ∧ iv a.2.2.2.2.2.1 0 10 ∧ (24 - a.2.2.1.toInt).toNat ≤ μ39 ∧ True → (10 - a.2.2.2.2.2.1.toInt).toNat < μ115 → ok (K115 a) (fun u d' => Inv m_sX12_laysParts__11 b d0 d' ∧ True)) (hm115 : (10 - y7.toInt).toNat ≤ μ115) : ok (fX12_laysParts_J142 10000 g x0 x1 K39 K115 y2 y3 y4 y5 y6 y7 d) (fun u d' => Inv m_sX12_laysParts__11 b d0 d' ∧ True) := by
  unfold fX12_laysParts_J142
  refine ok_bd (fun u38 e_1 => ?_)
  have h_2 := iv_e e_1 (iv_add (l := 1) (h := 10) hy7 (by decide : iv (1 : Int32) 1 1) (by decide))
  exact hK115 _ ⟨hI, (iv.w hy2 (by decide)), hy4, (iv.w h_2 (by decide)), hm39, trivial⟩ (Nat.lt_of_lt_of_le (ms_up (H := 10) e_1 hy7 (by decide : iv (1 : Int32) 1 1) (by decide)) hm115)
theorem sX12_laysParts_L115__11 {g : Gs} (hS : Shp g) {b : Nat → Int} {d0 : Ds} {x0 : Nat} (hx0 : cls x0 = 11) {x1 : Int32} {y2 : Int32} (hy2 : iv y2 0 10) {y3 : Int32} {y4 : Int32} (hy4 : iv y4 0 23) {y5 : Int32} {y6 : Int32} {y7 : Int32} (hy7 : iv y7 0 10) {d : Ds} (hI : Inv m_sX12_laysParts__11 b d0 d) {K39 : Int32 × Int32 × Int32 × Ds → Option (Int32 × Ds)} {μ39 : Nat} (hK39 : ∀ a, Inv m_sX12_laysParts__11 b d0 a.2.2.2 ∧ iv a.1 0 10 ∧ iv a.2.2.1 0 24 ∧ True → (24 - a.2.2.1.toInt).toNat < μ39 → ok (K39 a) (fun u d' => Inv m_sX12_laysParts__11 b d0 d' ∧ True)) (hm39 : (24 - y4.toInt).toNat ≤ μ39) : ok (fX12_laysParts_L115 10000 g x0 x1 K39 (y2, y3, y4, y5, y6, y7, d)) (fun u d' => Inv m_sX12_laysParts__11 b d0 d' ∧ True) := by
  unfold fX12_laysParts_L115
  refine ok_lp (fun a => Inv m_sX12_laysParts__11 b d0 a.2.2.2.2.2.2 ∧ iv a.1 0 10 ∧ iv a.2.2.1 0 23 ∧ iv a.2.2.2.2.2.1 0 10 ∧ (24 - a.2.2.1.toInt).toNat ≤ μ39 ∧ True) (fun a => (10 - a.2.2.2.2.2.1.toInt).toNat) ?_ 10000 _ ⟨hI, hy2, hy4, hy7, hm39, trivial⟩ (ms_b hy7 (by decide))
  · rintro K115 ⟨y2, y3, y4, y5, y6, y7, d⟩ ⟨hI, hy2, hy4, hy7, hm39, -⟩ hK115
    (try dsimp only at hI hy2 hy4 hy7 hm39 hK115 ⊢)
    unfold fX12_laysParts_B115
    refine ok_if (fun c_1 => ?_) (fun c_1 => ?_)
    · exact sX12_laysParts_J148__11 hS hx0 hy2 hy4 hI hK39 hm39
    · have h_2 := iv.w (c := 0) (e := 9) (lt_l (nle c_1) hy7 hy2) (by decide)
      have h_3 := iv.w (c := 1) (e := 10) (lt_r (nle c_1) hy7 hy2) (by decide)
      refine ok_gd (kd_11 hS hx0) ?_
      obtain ⟨r34, e_4, k_5⟩ := sh_11_24 hS hx0
      refine ok_ob e_4 ?_
      have u_6 := un_59 k_5
      subst u_6
      refine ok_gd (kd_59 hS k_5) ?_
      refine ok_gd (ixg h_2 (ln_59 hS k_5) (by decide)) ?_
      refine ok_if (fun c_7 => ?_) (fun c_7 => ?_)
      · refine ok_bd (fun d39 e_8 => ?_)
        have h_9 := Inv.set e_8 hI (by rw [k_5]; exact trivial) (mA k_5 (by decide) (by decide +kernel)) (nA k_5 (by decide) (by decide +kernel))
        exact sX12_laysParts_J142__11 hS hx0 h_3 hy4 h_2 h_9 hK39 hm39 hK115 (Nat.le_refl _)
      · exact sX12_laysParts_J142__11 hS hx0 h_3 hy4 h_2 hI hK39 hm39 hK115 (Nat.le_refl _)
theorem sX12_laysParts_L39__11 {g : Gs} (hS : Shp g) {b : Nat → Int} {d0 : Ds} {x0 : Nat} (hx0 : cls x0 = 11) {x1 : Int32} {y2 : Int32} (hy2 : iv y2 0 10) {y3 : Int32} {y4 : Int32} (hy4 : iv y4 0 24) {d : Ds} (hI : Inv m_sX12_laysParts__11 b d0 d) : ok (fX12_laysParts_L39 10000 g x0 x1 (y2, y3, y4, d)) (fun u d' => Inv m_sX12_laysParts__11 b d0 d' ∧ True) := by
  unfold fX12_laysParts_L39
  refine ok_lp (fun a => Inv m_sX12_laysParts__11 b d0 a.2.2.2 ∧ iv a.1 0 10 ∧ iv a.2.2.1 0 24 ∧ True) (fun a => (24 - a.2.2.1.toInt).toNat) ?_ 10000 _ ⟨hI, hy2, hy4, trivial⟩ (ms_b hy4 (by decide))
  · rintro K39 ⟨y2, y3, y4, d⟩ ⟨hI, hy2, hy4, -⟩ hK39
    (try dsimp only at hI hy2 hy4 hK39 ⊢)
    unfold fX12_laysParts_B39
    refine ok_gd (kd_11 hS hx0) ?_
    refine ok_cb (sX12_keysMany__11 hS hx0 hI.1) ?_
    rintro _ _ ⟨rfl, rfl⟩
    refine ok_if (fun c_1 => ?_) (fun c_1 => ?_)
    · exact ok_some ⟨hI, trivial⟩
    · have h_2 := iv.w (c := 0) (e := 23) (lt_l (nle c_1) hy4 (iv_mul (l := 0) (h := 24) (rdN_0 hI.1 (by decide +kernel : cls 336 = 55)) (rdN_1 hI.1 (by decide +kernel : cls 336 = 55)) (by decide))) (by decide)
      have h_3 := iv.w (c := 1) (e := 24) (lt_r (nle c_1) hy4 (iv_mul (l := 0) (h := 24) (rdN_0 hI.1 (by decide +kernel : cls 336 = 55)) (rdN_1 hI.1 (by decide +kernel : cls 336 = 55)) (by decide))) (by decide)
      refine ok_cb (sX12_has hS hI.1) ?_
      rintro _ _ ⟨rfl, ⟨rfl, c_4⟩ | ⟨rfl, c_5⟩⟩
      · have h_6 := iv.w (c := 1) (e := 1) (eq_l c_4 (by decide : iv (1 : Int32) 1 1)) (by decide)
        refine ok_if (fun c_7 => ?_) (fun c_7 => ?_)
        · exact (eq_no c_7 (by decide : iv (1 : Int32) 1 1) (by decide : iv (0 : Int32) 0 0) (by decide))
        · obtain ⟨r17, e_8, k_9⟩ := sh_11_24 hS hx0
          refine ok_ob e_8 ?_
          have u_10 := un_59 k_9
          subst u_10
          obtain ⟨r18, e_11, k_12, k_12o⟩ := sh_11_17 hS hx0
          refine ok_ob e_11 ?_
          have u_13 := un_55 k_12
          subst u_13
          refine ok_gd (kd_55 hS k_12) ?_
          refine ok_gd (ixg (by decide : iv (1 : Int32) 1 1) (ln_55 hS k_12) (by decide)) ?_
          refine ok_gd (iv_nz (iv_row (nle c_1) h_2 (rdN_0 hI.1 k_12) (rdN_1 hI.1 k_12) (by decide)).2 (by decide)) ?_
          refine ok_gd (kd_59 hS k_9) ?_
          refine ok_gd (ixg (iv_row (nle c_1) h_2 (rdN_0 hI.1 k_12) (rdN_1 hI.1 k_12) (by decide)).1 (ln_59 hS k_9) (by decide)) ?_
          refine ok_bd (fun u24 e_14 => ?_)
          refine ok_gd (ixg (by decide : iv (0 : Int32) 0 0) (ln_55 hS k_12) (by decide)) ?_
          refine ok_bd (fun u26 e_16 => ?_)
          have h_17 := iv_e e_16 (iv_add (l := 0) (h := 9) (rdN_0 hI.1 k_12) (iv.w (c := 0) (e := 5) (iv_rem h_2 (iv_row (nle c_1) h_2 (rdN_0 hI.1 k_12) (rdN_1 hI.1 k_12) (by decide)).2 (by decide)) (by decide)) (by decide))
          refine ok_gd (ixg h_17 (ln_59 hS k_9) (by decide)) ?_
          refine ok_bd (fun u28 e_18 => ?_)
          refine ok_if (fun c_20 => ?_) (fun c_20 => ?_)
          · exact sX12_laysParts_J148__11 hS hx0 hy2 h_2 hI hK39 (Nat.le_refl _)
          · refine ok_bd (fun u30 e_21 => ?_)
            exact sX12_laysParts_L115__11 hS hx0 hy2 h_2 (iv.w (by decide : iv (0 : Int32) 0 0) (by decide)) hI hK39 (Nat.le_refl _)
      · have h_23 := iv.w (c := 0) (e := 0) (ne_hi c_5 (iv_and (by decide : iv (1 : Int32) 1 1) (by decide)) (by decide : iv (1 : Int32) 1 1)) (by decide)
        refine ok_if (fun c_24 => ?_) (fun c_24 => ?_)
        · exact sX12_laysParts_J148__11 hS hx0 hy2 h_2 hI hK39 (Nat.le_refl _)
        · exact (ne_no c_24 (by decide : iv (0 : Int32) 0 0) (by decide : iv (0 : Int32) 0 0))
theorem sX12_laysParts_L16__11 {g : Gs} (hS : Shp g) {b : Nat → Int} {d0 : Ds} {x0 : Nat} (hx0 : cls x0 = 11) {x1 : Int32} {y2 : Int32} (hy2 : iv y2 0 10) {y3 : Int32} (hy3 : iv y3 0 10) {d : Ds} (hI : Inv m_sX12_laysParts__11 b d0 d) : ok (fX12_laysParts_L16 10000 g x0 x1 (y2, y3, d)) (fun u d' => Inv m_sX12_laysParts__11 b d0 d' ∧ True) := by
  unfold fX12_laysParts_L16
  refine ok_lp (fun a => Inv m_sX12_laysParts__11 b d0 a.2.2 ∧ iv a.1 0 10 ∧ iv a.2.1 0 10 ∧ True) (fun a => (10 - a.2.1.toInt).toNat) ?_ 10000 _ ⟨hI, hy2, hy3, trivial⟩ (ms_b hy3 (by decide))
  · rintro K16 ⟨y2, y3, d⟩ ⟨hI, hy2, hy3, -⟩ hK16
    (try dsimp only at hI hy2 hy3 hK16 ⊢)
    unfold fX12_laysParts_B16
    refine ok_if (fun c_1 => ?_) (fun c_1 => ?_)
    · exact sX12_laysParts_L39__11 hS hx0 hy2 (iv.w (by decide : iv (0 : Int32) 0 0) (by decide)) hI
    · have h_2 := iv.w (c := 0) (e := 9) (lt_l (nle c_1) hy3 hy2) (by decide)
      have h_3 := iv.w (c := 1) (e := 10) (lt_r (nle c_1) hy3 hy2) (by decide)
      refine ok_gd (kd_11 hS hx0) ?_
      obtain ⟨r41, e_4, k_5⟩ := sh_11_24 hS hx0
      refine ok_ob e_4 ?_
      have u_6 := un_59 k_5
      subst u_6
      refine ok_gd (kd_59 hS k_5) ?_
      refine ok_gd (ixg h_2 (ln_59 hS k_5) (by decide)) ?_
      refine ok_bd (fun d44 e_7 => ?_)
      have h_8 := Inv.set e_7 hI (by rw [k_5]; exact trivial) (mA k_5 (by decide) (by decide +kernel)) (nA k_5 (by decide) (by decide +kernel))
      refine ok_bd (fun u45 e_9 => ?_)
      have h_10 := iv_e e_9 (iv_add (l := 1) (h := 10) h_2 (by decide : iv (1 : Int32) 1 1) (by decide))
      exact hK16 _ ⟨h_8, (iv.w h_3 (by decide)), (iv.w h_10 (by decide)), trivial⟩ (ms_up (H := 10) e_9 h_2 (by decide : iv (1 : Int32) 1 1) (by decide))
theorem sX12_laysParts__11 {g : Gs} (hS : Shp g) {b : Nat → Int} {x0 : Nat} (hx0 : cls x0 = 11) {x1 : Int32} {d : Ds} (hB : Bnd b d) : ok (fX12_laysParts 10000 g x0 x1 d) (fun u d' => Inv m_sX12_laysParts__11 b d d' ∧ True) := by
  have hI : Inv m_sX12_laysParts__11 b d d := Inv.rf hB
  unfold fX12_laysParts
  refine ok_gd (kd_11 hS hx0) ?_
  obtain ⟨r2, e_1, k_2, k_2o⟩ := sh_11_17 hS hx0
  refine ok_ob e_1 ?_
  have u_3 := un_55 k_2
  subst u_3
  refine ok_gd (kd_55 hS k_2) ?_
  refine ok_gd (ixg (by decide : iv (0 : Int32) 0 0) (ln_55 hS k_2) (by decide)) ?_
  refine ok_gd (ixg (by decide : iv (1 : Int32) 1 1) (ln_55 hS k_2) (by decide)) ?_
  refine ok_bd (fun u6 e_4 => ?_)
  have h_5 := iv_e e_4 (iv_add (l := 0) (h := 10) (rdN_0 hI.1 k_2) (rdN_1 hI.1 k_2) (by decide))
  exact sX12_laysParts_L16__11 hS hx0 h_5 (iv.w (by decide : iv (0 : Int32) 0 0) (by decide)) hI
def m_sX12_seenBy__11 : Nat := 0x100000000000000000000000000000000000000000000000000000000000000000000000000000000000000000000000000000000000000000000000000000000000000000000000000000000000000000000000000000000000000000000000000000000000000000000000000000000000000000000000000000000000000000000000000000000000000000000000000000000000000000000000000000000000000000000000000000000000000000000000000000000000000000000000000000000000000000000000000000000000000000000000000000000000000000000000000000000000000000000000000000000000000000000000000000000000000000000000000000000000000000000000000000000000000000000000000000000000000000000000000000000000000000000000000000000000000000000000000000000000000000000000000000000000000000000000000000000000000000000000000000000000000000000000000000000000000000000000000000000000000000000000000000000000000000000000000000000000000000000000000000000000000000000000000000000000000000000000000000000000000000000000000000000000000000000000000000000
theorem sX12_seenBy_J77__11 {g : Gs} (hS : Shp g) {b : Nat → Int} {d0 : Ds} {x0 : Nat} (hx0 : cls x0 = 11) {x1 : Int32} {y3 : Int32} {y4 : Int32} (hy4 : iv y4 0 23) {d : Ds} (hI : Inv m_sX12_seenBy__11 b d0 d) {K23 : Int32 × Int32 × Ds → Option (Int32 × Ds)} {μ23 : Nat} (hK23 : ∀ a, Inv m_sX12_seenBy__11 b d0 a.2.2 ∧ iv a.2.1 0 24 ∧ True → (24 - a.2.1.toInt).toNat < μ23 → ok (K23 a) (fun u d' => Inv m_sX12_seenBy__11 b d0 d' ∧ True)) (hm23 : (24 - y4.toInt).toNat ≤ μ23) : ok (fX12_seenBy_J77 10000 g x0 x1 K23 y3 y4 d) (fun u d' => Inv m_sX12_seenBy__11 b d0 d' ∧ True) := by
  unfold fX12_seenBy_J77
  refine ok_bd (fun u25 e_1 => ?_)
  have h_2 := iv_e e_1 (iv_add (l := 1) (h := 24) hy4 (by decide : iv (1 : Int32) 1 1) (by decide))
  exact hK23 _ ⟨hI, (iv.w h_2 (by decide)), trivial⟩ (Nat.lt_of_lt_of_le (ms_up (H := 24) e_1 hy4 (by decide : iv (1 : Int32) 1 1) (by decide)) hm23)
theorem sX12_seenBy_L23__11 {g : Gs} (hS : Shp g) {b : Nat → Int} {d0 : Ds} {x0 : Nat} (hx0 : cls x0 = 11) {x1 : Int32} {y3 : Int32} {y4 : Int32} (hy4 : iv y4 0 24) {d : Ds} (hI : Inv m_sX12_seenBy__11 b d0 d) : ok (fX12_seenBy_L23 10000 g x0 x1 (y3, y4, d)) (fun u d' => Inv m_sX12_seenBy__11 b d0 d' ∧ True) := by
  unfold fX12_seenBy_L23
  refine ok_lp (fun a => Inv m_sX12_seenBy__11 b d0 a.2.2 ∧ iv a.2.1 0 24 ∧ True) (fun a => (24 - a.2.1.toInt).toNat) ?_ 10000 _ ⟨hI, hy4, trivial⟩ (ms_b hy4 (by decide))
  · rintro K23 ⟨y3, y4, d⟩ ⟨hI, hy4, -⟩ hK23
    (try dsimp only at hI hy4 hK23 ⊢)
    unfold fX12_seenBy_B23
    refine ok_gd (kd_11 hS hx0) ?_
    refine ok_cb (sX12_keysMany__11 hS hx0 hI.1) ?_
    rintro _ _ ⟨rfl, rfl⟩
    refine ok_if (fun c_1 => ?_) (fun c_1 => ?_)
    · exact ok_some ⟨hI, trivial⟩
    · have h_2 := iv.w (c := 0) (e := 23) (lt_l (nle c_1) hy4 (iv_mul (l := 0) (h := 24) (rdN_0 hI.1 (by decide +kernel : cls 336 = 55)) (rdN_1 hI.1 (by decide +kernel : cls 336 = 55)) (by decide))) (by decide)
      have h_3 := iv.w (c := 1) (e := 24) (lt_r (nle c_1) hy4 (iv_mul (l := 0) (h := 24) (rdN_0 hI.1 (by decide +kernel : cls 336 = 55)) (rdN_1 hI.1 (by decide +kernel : cls 336 = 55)) (by decide))) (by decide)
      obtain ⟨r14, e_4, k_5⟩ := sh_11_24 hS hx0
      refine ok_ob e_4 ?_
      have u_6 := un_59 k_5
      subst u_6
      obtain ⟨r15, e_7, k_8, k_8o⟩ := sh_11_17 hS hx0
      refine ok_ob e_7 ?_
      have u_9 := un_55 k_8
      subst u_9
      refine ok_gd (kd_55 hS k_8) ?_
      refine ok_gd (ixg (by decide : iv (1 : Int32) 1 1) (ln_55 hS k_8) (by decide)) ?_
      refine ok_gd (iv_nz (iv_row (nle c_1) h_2 (rdN_0 hI.1 k_8) (rdN_1 hI.1 k_8) (by decide)).2 (by decide)) ?_
      refine ok_gd (kd_59 hS k_5) ?_
      refine ok_gd (ixg (iv_row (nle c_1) h_2 (rdN_0 hI.1 k_8) (rdN_1 hI.1 k_8) (by decide)).1 (ln_59 hS k_5) (by decide)) ?_
      refine ok_gd (ixg (by decide : iv (0 : Int32) 0 0) (ln_55 hS k_8) (by decide)) ?_
      refine ok_bd (fun u22 e_10 => ?_)
      have h_11 := iv_e e_10 (iv_add (l := 0) (h := 9) (rdN_0 hI.1 k_8) (iv.w (c := 0) (e := 5) (iv_rem h_2 (iv_row (nle c_1) h_2 (rdN_0 hI.1 k_8) (rdN_1 hI.1 k_8) (by decide)).2 (by decide)) (by decide)) (by decide))
      refine ok_gd (ixg h_11 (ln_59 hS k_5) (by decide)) ?_
      refine ok_if (fun c_12 => ?_) (fun c_12 => ?_)
      · refine ok_bd (fun u26 e_13 => ?_)
        exact sX12_seenBy_J77__11 hS hx0 h_2 hI hK23 (Nat.le_refl _)
      · exact sX12_seenBy_J77__11 hS hx0 h_2 hI hK23 (Nat.le_refl _)
theorem sX12_seenBy__11 {g : Gs} (hS : Shp g) {b : Nat → Int} {x0 : Nat} (hx0 : cls x0 = 11) {x1 : Int32} {d : Ds} (hB : Bnd b d) : ok (fX12_seenBy 10000 g x0 x1 d) (fun u d' => Inv m_sX12_seenBy__11 b d d' ∧ True) := by
  have hI : Inv m_sX12_seenBy__11 b d d := Inv.rf hB
  unfold fX12_seenBy
  refine ok_gd (kd_11 hS hx0) ?_
  obtain ⟨r2, e_1, k_2, k_2o⟩ := sh_11_17 hS hx0
  refine ok_ob e_1 ?_
  have u_3 := un_55 k_2
  subst u_3
  refine ok_gd (kd_55 hS k_2) ?_
  refine ok_gd (ixg (by decide : iv (2 : Int32) 2 2) (ln_55 hS k_2) (by decide)) ?_
  refine ok_if (fun c_4 => ?_) (fun c_4 => ?_)
  · have h_5 := iv.w (c := 1) (e := 1) (eq_l c_4 (by decide : iv (1 : Int32) 1 1)) (by decide)
    exact ok_some ⟨hI, trivial⟩
  · refine ok_cb (sX12_laysParts__11 hS hx0 hI.1) (fun u8 d6 r_6 => ?_)
    obtain ⟨h_7, h_8⟩ := r_6
    have h_9 := Inv.call hI h_7 (by decide +kernel)
    exact sX12_seenBy_L23__11 hS hx0 (iv.w (by decide : iv (0 : Int32) 0 0) (by decide)) h_9
def m_sX12_changes__11 : Nat := 0x16940000000000000000000000000000000000000000000000000000000000000000000000000000000000000000000000000000000000000000000000000000000000000000000000000000000000000000000000000000000000000000000000000000000000000000000000000000000000000000000000000000000000000000000000000000000000000000000000000000000000000000000000000000000000000000000000000000000000000000000000000000000000000000000000000000000000000000000000000000000000000000000000000000000000000000000000000000000000000000000000000000000000000000000000000000000000000000000000000000000000000000000000000000000000000000000000000000000000000000000000000000000000000000000000000000000000000000000000000000000000000000000000000000000000000000000000000000000000000000000000000000000000000000000000000000000000000000000000000000000000000000000000000000000000000000000000000000000000000000000000000000000000000000000000000000000000000000
-- by hand
-- by hand
-- by hand
-- by hand
def m_sX12_ticks__11 : Nat := 0x100000000000000010000000000000000000000000000000000000000000000000000000000001ffc0000000000000000000000000000000000000000000000000000000000000000000000000000000000000000000000000000000000000000000000000000000000000000000000000000000000000000000000000000000000000000000000000000000000000000000000000000000000000000000000000000000000000000000000000000000000000000000000000000000000000000000000000000000000000000000000000000000000000000000000000000000000000000000000000000000000000000000000000000000000000000000000000000000000000000000000000000000000000000000000000000000000000000000000000000000000000000000000000000000000000000000000000000000000000000000000000000000000000000000000000000000000000000000000000000000000000000000000000000000000000000000000000000000000000000000000000600000000000000000000000000000000000000000000000000000000000000000000000000000000000000000000000000000000000000000000000000000000000000000000000000000000000000000000000000000000000000
-- by hand
-- by hand
-- by hand
-- by hand
def m_sX12_repeats__11 : Nat := 0x400000000000000000000000000000000000000000000000000000000000000000000000000000000000000000000000000000000000000000000000000000000000000000000000000000000000000000000000000000000000000000000000000000000000000000000000000000000000000000000000000000000000000000000000000000000000000000000000000000000000000000000000000000000000000000000000000000000000000000000000000000000000000000000000000000000000000000000000000000000000000000000000000000000000000000000000000000000000000000000000000000000000000000000000000000000000000000000000000000000000000000000000000000000000000000000000000000000000000000000000000000000000000000000000000000000000000000000000000000000000000000000000000000000000000000000000000000000000000000000000000000000000000000000000000000000000000000000000000000000000000000000000000000000000000000000000000000000000000000000000000000000000000000000000000000000000000000
-- by hand
-- by hand
-- by hand
-- by hand
-- by hand
theorem sX12_chordOf_J47__11 {g : Gs} (hS : Shp g) {b : Nat → Int} {x0 : Nat} (hx0 : cls x0 = 11) {x1 : Int32} (hx1 : iv x1 0 23) {y2 : Int32} (hy2 : iv y2 0 3) {d : Ds} (hB : Bnd b d) (hr_336_10 : iv (dI d 336 (10 : Int32).toNatClampNeg) 1 4) : ok (fX12_chordOf_J47 10000 g x0 x1 y2 d) (fun u d' => d' = d ∧ iv u (-1) 3) := by
  unfold fX12_chordOf_J47
  exact ok_some ⟨rfl, (iv.w hy2 (by decide))⟩
theorem sX12_chordOf_L2__11 {g : Gs} (hS : Shp g) {b : Nat → Int} {x0 : Nat} (hx0 : cls x0 = 11) {x1 : Int32} (hx1 : iv x1 0 23) {y2 : Int32} (hy2 : iv y2 0 4) {d : Ds} (hB : Bnd b d) : ok (fX12_chordOf_L2 10000 g x0 x1 (y2, d)) (fun u d' => d' = d ∧ iv u (-1) 3) := by
  unfold fX12_chordOf_L2
  refine ok_lp (fun a => a.2 = d ∧ iv a.1 0 4 ∧ True) (fun a => (4 - a.1.toInt).toNat) ?_ 10000 _ ⟨rfl, hy2, trivial⟩ (ms_b hy2 (by decide))
  · rintro K2 ⟨y2, d⟩ ⟨rfl, hy2, -⟩ hK2
    (try dsimp only at hy2 hK2 ⊢)
    unfold fX12_chordOf_B2
    refine ok_gd (kd_11 hS hx0) ?_
    obtain ⟨r2, e_1, k_2, k_2o⟩ := sh_11_17 hS hx0
    refine ok_ob e_1 ?_
    have u_3 := un_55 k_2
    subst u_3
    refine ok_gd (kd_55 hS k_2) ?_
    refine ok_gd (ixg (by decide : iv (10 : Int32) 10 10) (ln_55 hS k_2) (by decide)) ?_
    refine ok_if (fun c_4 => ?_) (fun c_4 => ?_)
    · exact ok_some ⟨rfl, (iv.w (by decide : iv ((-1) : Int32) (-1) (-1)) (by decide))⟩
    · have h_5 := iv.w (c := 0) (e := 3) (lt_l (nle c_4) hy2 (rdN_10 hB k_2)) (by decide)
      have h_6 := iv.w (c := 1) (e := 4) (lt_r (nle c_4) hy2 (rdN_10 hB k_2)) (by decide)
      refine ok_gd (ixg (iv_add (l := 300) (h := 312) (by decide : iv (300 : Int32) 300 300) (iv_mul (l := 0) (h := 12) (by decide : iv (4 : Int32) 4 4) h_5 (by decide)) (by decide)) (ln_55 hS k_2) (by decide)) ?_
      refine ok_if (fun c_7 => ?_) (fun c_7 => ?_)
      · exact sX12_chordOf_J47__11 hS hx0 hx1 h_5 hB h_6
      · refine ok_gd (ixg (iv_add (l := 301) (h := 313) (iv_add (l := 300) (h := 312) (by decide : iv (300 : Int32) 300 300) (iv_mul (l := 0) (h := 12) (by decide : iv (4 : Int32) 4 4) h_5 (by decide)) (by decide)) (by decide : iv (1 : Int32) 1 1) (by decide)) (ln_55 hS k_2) (by decide)) ?_
        refine ok_if (fun c_8 => ?_) (fun c_8 => ?_)
        · exact sX12_chordOf_J47__11 hS hx0 hx1 h_5 hB h_6
        · refine ok_bd (fun u10 e_9 => ?_)
          have h_10 := iv_e e_9 (iv_add (l := 1) (h := 4) h_5 (by decide : iv (1 : Int32) 1 1) (by decide))
          exact hK2 _ ⟨rfl, (iv.w h_10 (by decide)), trivial⟩ (ms_up (H := 4) e_9 h_5 (by decide : iv (1 : Int32) 1 1) (by decide))
theorem sX12_chordOf__11 {g : Gs} (hS : Shp g) {b : Nat → Int} {x0 : Nat} (hx0 : cls x0 = 11) {x1 : Int32} (hx1 : iv x1 0 23) {d : Ds} (hB : Bnd b d) : ok (fX12_chordOf 10000 g x0 x1 d) (fun u d' => d' = d ∧ iv u (-1) 3) := by
  unfold fX12_chordOf
  exact sX12_chordOf_L2__11 hS hx0 hx1 (iv.w (by decide : iv (0 : Int32) 0 0) (by decide)) hB
def m_sX12_drops__11 : Nat := 0x14000000000000000000000000000000000000000000000000000000000000000000000000000000000000000000000000000000000000000000000000000000000000000000000000000000000000000000000000000000000000000000000000000000000000000000000000000000000000000000000000000000000000000000000000000000000000000000000000000000000000000000000000000000000000000000000000000000000000000000000000000000000000000000000000000000000000000000000000000000000000000000000000000000000000000000000000000000000000000000000000000000000000000000000000000000000000000000000000000000000000000000000000000000000000000000000000000000000000000000000000000000000000000000000000000000000000000000000000000000000000000000000000000000000000000000000000000000000000000000000000000000000000000000000000000000000000000000000000000000000000000000000000000000000000000000000000000000000000000000000000000000000000000000000000000000000000000000
-- by hand
-- by hand
def m_sX12_stops__11 : Nat := 0x200000000000000000000000000000000000000000000000000000000000000000000000000000000000000000000000000000000000000000000000000000000000000000000000000000000000000000000000000000000000000000000000000000000000000000000000000000000000000000000000000000000000000000000000000000000000000000000000000000000000000000000000000000000000000000000000000000000000000000000000000000000000000000000000000000000000000000000000000000000000000000000000000000000000000000000000000000000000000000000000000000000000000000000000000000000000000000000000000000000000000000000000000000000000000000000000000000000000000000000000000000000000000000000000000000000000000000000000000000000000000000000000000000000000000000000000000000000000000000000000000000000000000000000000000000000000000000000000000000000000000000000000000000000000000000000000000000000000000000000000000000000000000000000000000000000000000000
theorem sX12_stops__11 {g : Gs} (hS : Shp g) {b : Nat → Int} {x0 : Nat} (hx0 : cls x0 = 11) {x1 : Int32} (hx1 : iv x1 0 23) {d : Ds} (hB : Bnd b d) : ok (fX12_stops 10000 g x0 x1 d) (fun u d' => Inv m_sX12_stops__11 b d d' ∧ True) := by
  have hI : Inv m_sX12_stops__11 b d d := Inv.rf hB
  unfold fX12_stops
  refine ok_gd (kd_11 hS hx0) ?_
  obtain ⟨r2, e_1, k_2, k_2o⟩ := sh_11_17 hS hx0
  refine ok_ob e_1 ?_
  have u_3 := un_55 k_2
  subst u_3
  refine ok_gd (kd_55 hS k_2) ?_
  refine ok_gd (ixg (iv_add (l := 379) (h := 448) (by decide : iv (379 : Int32) 379 379) (iv_mul (l := 0) (h := 69) (by decide : iv (3 : Int32) 3 3) hx1 (by decide)) (by decide)) (ln_55 hS k_2) (by decide)) ?_
  refine ok_bd (fun d5 e_4 => ?_)
  have h_5 := Inv.set e_4 hI (by rw [k_2]; exact (okN_b (iv_add (l := 379) (h := 448) (by decide : iv (379 : Int32) 379 379) (iv_mul (l := 0) (h := 69) (by decide : iv (3 : Int32) 3 3) hx1 (by decide)) (by decide)) (by decide))) (mN (n := 5) k_2 (iv_add (l := 379) (h := 448) (by decide : iv (379 : Int32) 379 379) (iv_mul (l := 0) (h := 69) (by decide : iv (3 : Int32) 3 3) hx1 (by decide)) (by decide)) (by decide) (by decide +kernel)) (nN k_2 (iv_add (l := 379) (h := 448) (by decide : iv (379 : Int32) 379 379) (iv_mul (l := 0) (h := 69) (by decide : iv (3 : Int32) 3 3) hx1 (by decide)) (by decide)) (by decide +kernel))
  refine ok_gd (ixg (iv_add (l := 380) (h := 449) (iv_add (l := 379) (h := 448) (by decide : iv (379 : Int32) 379 379) (iv_mul (l := 0) (h := 69) (by decide : iv (3 : Int32) 3 3) hx1 (by decide)) (by decide)) (by decide : iv (1 : Int32) 1 1) (by decide)) (ln_55 hS k_2) (by decide)) ?_
  refine ok_bd (fun d7 e_6 => ?_)
  have h_7 := Inv.set e_6 h_5 (by rw [k_2]; exact (okN_b (iv_add (l := 380) (h := 449) (iv_add (l := 379) (h := 448) (by decide : iv (379 : Int32) 379 379) (iv_mul (l := 0) (h := 69) (by decide : iv (3 : Int32) 3 3) hx1 (by decide)) (by decide)) (by decide : iv (1 : Int32) 1 1) (by decide)) (by decide))) (mN (n := 5) k_2 (iv_add (l := 380) (h := 449) (iv_add (l := 379) (h := 448) (by decide : iv (379 : Int32) 379 379) (iv_mul (l := 0) (h := 69) (by decide : iv (3 : Int32) 3 3) hx1 (by decide)) (by decide)) (by decide : iv (1 : Int32) 1 1) (by decide)) (by decide) (by decide +kernel)) (nN k_2 (iv_add (l := 380) (h := 449) (iv_add (l := 379) (h := 448) (by decide : iv (379 : Int32) 379 379) (iv_mul (l := 0) (h := 69) (by decide : iv (3 : Int32) 3 3) hx1 (by decide)) (by decide)) (by decide : iv (1 : Int32) 1 1) (by decide)) (by decide +kernel))
  exact ok_some ⟨h_7, trivial⟩
def m_sX12_ends__11 : Nat := 0x200000000000000000000000000000000000000000000000000000000000000000000000000000000000000000000000000000000000000000000000000000000000000000000000000000000000000000000000000000000000000000000000000000000000000000000000000000000000000000000000000000000000000000000000000000000000000000000000000000000000000000000000000000000000000000000000000000000000000000000000000000000000000000000000000000000000000000000000000000000000000000000000000000000000000000000000000000000000000000000000000000000000000000000000000000000000000000000000000000000000000000000000000000000000000000000000000000000000000000000000000000000000000000000000000000000000000000000000000000000000000000000000000000000000000000000000000000000000000000000000000000000000000000000000000000000000000000000000000000000000000000000000000000000000000000000000000000000000000000000000000000000000000000000000000000000000000000
theorem sX12_ends_J73__11 {g : Gs} (hS : Shp g) {b : Nat → Int} {d0 : Ds} {x0 : Nat} (hx0 : cls x0 = 11) {x1 : Int32} (hx1 : iv x1 0 23) {d : Ds} (hI : Inv m_sX12_ends__11 b d0 d) : ok (fX12_ends_J73 10000 g x0 x1 d) (fun u d' => Inv m_sX12_ends__11 b d0 d' ∧ True) := by
  unfold fX12_ends_J73
  refine ok_gd (kd_11 hS hx0) ?_
  refine ok_cv (sX12_stops__11 hS hx0 hx1 hI.1) (fun d7 r_1 => ?_)
  obtain ⟨h_2, h_3⟩ := r_1
  have h_4 := Inv.call hI h_2 (by decide +kernel)
  exact ok_some ⟨h_4, trivial⟩
theorem sX12_ends__11 {g : Gs} (hS : Shp g) {b : Nat → Int} {x0 : Nat} (hx0 : cls x0 = 11) {x1 : Int32} (hx1 : iv x1 0 23) {d : Ds} (hB : Bnd b d) : ok (fX12_ends 10000 g x0 x1 d) (fun u d' => Inv m_sX12_ends__11 b d d' ∧ True) := by
  have hI : Inv m_sX12_ends__11 b d d := Inv.rf hB
  unfold fX12_ends
  refine ok_gd (kd_11 hS hx0) ?_
  refine ok_cb (sX12_chordOf__11 hS hx0 hx1 hI.1) (fun u4 d2 r_1 => ?_)
  obtain ⟨rfl, h_3⟩ := r_1
  refine ok_if (fun c_4 => ?_) (fun c_4 => ?_)
  · have h_5 := iv.w (c := (-1)) (e := (-1)) (lt_l c_4 h_3 (by decide : iv (0 : Int32) 0 0)) (by decide)
    exact sX12_ends_J73__11 hS hx0 hx1 hI
  · have h_6 := iv.w (c := 0) (e := 3) (le_r (nlt c_4) (by decide : iv (0 : Int32) 0 0) h_3) (by decide)
    obtain ⟨r9, e_7, k_8, k_8o⟩ := sh_11_17 hS hx0
    refine ok_ob e_7 ?_
    have u_9 := un_55 k_8
    subst u_9
    refine ok_gd (kd_55 hS k_8) ?_
    refine ok_gd (ixg (by decide : iv (453 : Int32) 453 453) (ln_55 hS k_8) (by decide)) ?_
    refine ok_cb (sX12_has hS hI.1) ?_
    rintro _ _ ⟨rfl, ⟨rfl, c_10⟩ | ⟨rfl, c_11⟩⟩
    · have h_12 := iv.w (c := 1) (e := 1) (eq_l c_10 (by decide : iv (1 : Int32) 1 1)) (by decide)
      refine ok_if (fun c_13 => ?_) (fun c_13 => ?_)
      · exact (eq_no c_13 (by decide : iv (1 : Int32) 1 1) (by decide : iv (0 : Int32) 0 0) (by decide))
      · refine ok_bd (fun d16 e_14 => ?_)
        have h_15 := Inv.set e_14 hI (by rw [k_8]; exact (okN_b (by decide : iv (453 : Int32) 453 453) (by decide))) (mN (n := 5) k_8 (by decide : iv (453 : Int32) 453 453) (by decide) (by decide +kernel)) (nN k_8 (by decide : iv (453 : Int32) 453 453) (by decide +kernel))
        refine ok_gd (ixg (iv_add (l := 300) (h := 312) (by decide : iv (300 : Int32) 300 300) (iv_mul (l := 0) (h := 12) (by decide : iv (4 : Int32) 4 4) h_6 (by decide)) (by decide)) (ln_55 hS k_8) (by decide)) ?_
        refine ok_cv (sX12_stops__11 hS hx0 (rdN_ck0 h_15.1 k_8 h_6) h_15.1) (fun d18 r_16 => ?_)
        obtain ⟨h_17, h_18⟩ := r_16
        have h_19 := Inv.call h_15 h_17 (by decide +kernel)
        refine ok_gd (ixg (iv_add (l := 301) (h := 313) (iv_add (l := 300) (h := 312) (by decide : iv (300 : Int32) 300 300) (iv_mul (l := 0) (h := 12) (by decide : iv (4 : Int32) 4 4) h_6 (by decide)) (by decide)) (by decide : iv (1 : Int32) 1 1) (by decide)) (ln_55 hS k_8) (by decide)) ?_
        refine ok_cv (sX12_stops__11 hS hx0 (rdN_ck1 h_19.1 k_8 h_6) h_19.1) (fun d21 r_20 => ?_)
        obtain ⟨h_21, h_22⟩ := r_20
        have h_23 := Inv.call h_19 h_21 (by decide +kernel)
        exact sX12_ends_J73__11 hS hx0 hx1 h_23
    · have h_24 := iv.w (c := 0) (e := 0) (ne_hi c_11 (iv_and (by decide : iv (1 : Int32) 1 1) (by decide)) (by decide : iv (1 : Int32) 1 1)) (by decide)
      refine ok_if (fun c_25 => ?_) (fun c_25 => ?_)
      · exact sX12_ends_J73__11 hS hx0 hx1 hI
      · exact (ne_no c_25 (by decide : iv (0 : Int32) 0 0) (by decide : iv (0 : Int32) 0 0))
def m_sX12_adds__11 : Nat := 0x1000000000000000000000000000000000000000000000000000000000000000000000000000000000000000000000000000000000000000000000000000000000000000000000000000000000000000000000000000000000000000000000000000000000000000000000000000000000000000000000000000000000000000000000000000000000000000000000000000000000000000000000000000000000000000000000000000000000000000000000000000000000000000000000000000000000000000000000000000000000000000000000000000000000000000000000000000000000000000000000000000000000000000000000000000000000000000000000000000000000000000000000000000000000000000000000000000000000000000000000000000000000000000000000000000000000000000000000000000000000000000000000000000000000000000000000000000000000000000000000000000000000000000000000000000000000000000000000000000000000400000000000000000000000000000000000000000000000000000000000000000000000000000000000000000000000000000000000000000000000000000000000000000000000000000000000000000000000000000000000000
-- within sX12_laysSent__11
-- within sX12_laysSent__11
def m_sX12_laysSent__11 : Nat := 0x1000000000000000000000000000000000000000000000000000000000000000000000000000000000000000000000000000000000000000000000000000000000000000000000000000000000000000000000000000000000000000000000000000000000000000000000000000000000000000000000000000000000000000000000000000000000000000000000000000000000000000000000000000000000000000000000000000000000000000000000000000000000000000000000000000000000000000000000000000000000000000000000000000000000000000000000000000000000000000000000000000000000000000000000000000000000000000000000000000000000000000000000000000000000000000000000000000000000000000000000000000000000000000000000000000000000000000000000000000000000000000000000000000000000000000000000000000000000000000000000000000000000000000000000000000000000000000000000000000000000600000000000000000000000000000000000000000000000000000000000000000000000000000000000000000000000000000000000000000000000000000000000000000000000000000000000000000000000000000000000000
theorem sX12_laysSent_J121__11 {g : Gs} (hS : Shp g) {b : Nat → Int} {d0 : Ds} {x0 : Nat} (hx0 : cls x0 = 11) {d : Ds} (hI : Inv m_sX12_laysSent__11 b d0 d) : ok (fX12_laysSent_J121 10000 g x0 d) (fun u d' => Inv m_sX12_laysSent__11 b d0 d' ∧ True) := by
  unfold fX12_laysSent_J121
  exact ok_some ⟨hI, trivial⟩
theorem sX12_nextBegun_J83__11 {g : Gs} (hS : Shp g) {b : Nat → Int} {x0 : Nat} (hx0 : cls x0 = 11) {x1 : Int32} {y2 : Int32} (hy2 : iv y2 (-1) 23) {y3 : Int32} (hy3 : iv y3 0 23) {d : Ds} (hB : Bnd b d) {K4 : Int32 × Int32 × Ds → Option (Int32 × Ds)} {μ4 : Nat} (hK4 : ∀ a, a.2.2 = d ∧ iv a.1 (-1) 23 ∧ iv a.2.1 0 24 ∧ True → (24 - a.2.1.toInt).toNat < μ4 → ok (K4 a) (fun u d' => d' = d ∧ iv u (-1) 23)) (hm4 : (24 - y3.toInt).toNat ≤ μ4) : ok (fX12_nextBegun_J83 10000 g x0 x1 K4 y2 y3 d) (fun u d' => d' = d ∧ iv u (-1) 23) := by
  unfold fX12_nextBegun_J83
  refine ok_bd (fun u7 e_1 => ?_)
  have h_2 := iv_e e_1 (iv_add (l := 1) (h := 24) hy3 (by decide : iv (1 : Int32) 1 1) (by decide))
  exact hK4 _ ⟨rfl, hy2, (iv.w h_2 (by decide)), trivial⟩ (Nat.lt_of_lt_of_le (ms_up (H := 24) e_1 hy3 (by decide : iv (1 : Int32) 1 1) (by decide)) hm4)
theorem sX12_nextBegun_J81__11 {g : Gs} (hS : Shp g) {b : Nat → Int} {x0 : Nat} (hx0 : cls x0 = 11) {x1 : Int32} {y3 : Int32} (hy3 : iv y3 0 23) {d : Ds} (hB : Bnd b d) {K4 : Int32 × Int32 × Ds → Option (Int32 × Ds)} {μ4 : Nat} (hK4 : ∀ a, a.2.2 = d ∧ iv a.1 (-1) 23 ∧ iv a.2.1 0 24 ∧ True → (24 - a.2.1.toInt).toNat < μ4 → ok (K4 a) (fun u d' => d' = d ∧ iv u (-1) 23)) (hm4 : (24 - y3.toInt).toNat ≤ μ4) : ok (fX12_nextBegun_J81 10000 g x0 x1 K4 y3 d) (fun u d' => d' = d ∧ iv u (-1) 23) := by
  unfold fX12_nextBegun_J81
  exact sX12_nextBegun_J83__11 hS hx0 (iv.w hy3 (by decide)) hy3 hB hK4 hm4
theorem sX12_nextBegun_L4__11 {g : Gs} (hS : Shp g) {b : Nat → Int} {x0 : Nat} (hx0 : cls x0 = 11) {x1 : Int32} {y2 : Int32} (hy2 : iv y2 (-1) 23) {y3 : Int32} (hy3 : iv y3 0 24) {d : Ds} (hB : Bnd b d) : ok (fX12_nextBegun_L4 10000 g x0 x1 (y2, y3, d)) (fun u d' => d' = d ∧ iv u (-1) 23) := by
  unfold fX12_nextBegun_L4
  refine ok_lp (fun a => a.2.2 = d ∧ iv a.1 (-1) 23 ∧ iv a.2.1 0 24 ∧ True) (fun a => (24 - a.2.1.toInt).toNat) ?_ 10000 _ ⟨rfl, hy2, hy3, trivial⟩ (ms_b hy3 (by decide))
  · rintro K4 ⟨y2, y3, d⟩ ⟨rfl, hy2, hy3, -⟩ hK4
    (try dsimp only at hy2 hy3 hK4 ⊢)
    unfold fX12_nextBegun_B4
    refine ok_if (fun c_1 => ?_) (fun c_1 => ?_)
    · have h_2 := iv.w (c := 24) (e := 24) (le_r c_1 (by decide : iv (24 : Int32) 24 24) hy3) (by decide)
      exact ok_some ⟨rfl, hy2⟩
    · have h_3 := iv.w (c := 0) (e := 23) (lt_l (nle c_1) hy3 (by decide : iv (24 : Int32) 24 24)) (by decide)
      refine ok_gd (kd_11 hS hx0) ?_
      obtain ⟨r3, e_4, k_5, k_5o⟩ := sh_11_17 hS hx0
      refine ok_ob e_4 ?_
      have u_6 := un_55 k_5
      subst u_6
      refine ok_gd (kd_55 hS k_5) ?_
      refine ok_gd (ixg (iv_add (l := 379) (h := 448) (by decide : iv (379 : Int32) 379 379) (iv_mul (l := 0) (h := 69) (by decide : iv (3 : Int32) 3 3) h_3 (by decide)) (by decide)) (ln_55 hS k_5) (by decide)) ?_
      refine ok_if (fun c_7 => ?_) (fun c_7 => ?_)
      · have h_8 := iv.w (c := (-2147483648)) (e := (-1)) (lt_l c_7 (ivT _) (by decide : iv (0 : Int32) 0 0)) (by decide)
        exact sX12_nextBegun_J83__11 hS hx0 hy2 h_3 hB hK4 (Nat.le_refl _)
      · have h_9 := iv.w (c := 0) (e := 2147483647) (le_r (nlt c_7) (by decide : iv (0 : Int32) 0 0) (ivT _)) (by decide)
        refine ok_gd (ixg (iv_add (l := 381) (h := 450) (iv_add (l := 379) (h := 448) (by decide : iv (379 : Int32) 379 379) (iv_mul (l := 0) (h := 69) (by decide : iv (3 : Int32) 3 3) h_3 (by decide)) (by decide)) (by decide : iv (2 : Int32) 2 2) (by decide)) (ln_55 hS k_5) (by decide)) ?_
        refine ok_if (fun c_10 => ?_) (fun c_10 => ?_)
        · have h_11 := iv.w (c := (-2147483648)) (e := 2147483646) (lt_l c_10 (ivT _) (ivT _)) (by decide)
          have h_12 := iv.w (c := (-2147483647)) (e := 2147483647) (lt_r c_10 (ivT _) (ivT _)) (by decide)
          refine ok_if (fun c_13 => ?_) (fun c_13 => ?_)
          · have h_14 := iv.w (c := (-1)) (e := (-1)) (lt_l c_13 hy2 (by decide : iv (0 : Int32) 0 0)) (by decide)
            exact sX12_nextBegun_J81__11 hS hx0 h_3 hB hK4 (Nat.le_refl _)
          · have h_15 := iv.w (c := 0) (e := 23) (le_r (nlt c_13) (by decide : iv (0 : Int32) 0 0) hy2) (by decide)
            refine ok_gd (ixg (iv_add (l := 381) (h := 450) (iv_add (l := 379) (h := 448) (by decide : iv (379 : Int32) 379 379) (iv_mul (l := 0) (h := 69) (by decide : iv (3 : Int32) 3 3) h_15 (by decide)) (by decide)) (by decide : iv (2 : Int32) 2 2) (by decide)) (ln_55 hS k_5) (by decide)) ?_
            refine ok_if (fun c_16 => ?_) (fun c_16 => ?_)
            · exact sX12_nextBegun_J83__11 hS hx0 (iv.w h_15 (by decide)) h_3 hB hK4 (Nat.le_refl _)
            · have h_17 := iv.w (c := (-2147483647)) (e := 2147483646) (lt_l (nle c_16) h_12 (ivT _)) (by decide)
              have h_18 := iv.w (c := (-2147483646)) (e := 2147483647) (lt_r (nle c_16) h_12 (ivT _)) (by decide)
              exact sX12_nextBegun_J81__11 hS hx0 h_3 hB hK4 (Nat.le_refl _)
        · exact sX12_nextBegun_J83__11 hS hx0 hy2 h_3 hB hK4 (Nat.le_refl _)
theorem sX12_nextBegun__11 {g : Gs} (hS : Shp g) {b : Nat → Int} {x0 : Nat} (hx0 : cls x0 = 11) {x1 : Int32} {d : Ds} (hB : Bnd b d) : ok (fX12_nextBegun 10000 g x0 x1 d) (fun u d' => d' = d ∧ iv u (-1) 23) := by
  unfold fX12_nextBegun
  exact sX12_nextBegun_L4__11 hS hx0 (iv.w (by decide : iv ((-1) : Int32) (-1) (-1)) (by decide)) (iv.w (by decide : iv (0 : Int32) 0 0) (by decide)) hB
-- within sX12_laysSent__11
-- within sX12_laysSent__11
-- within sX12_laysSent__11
/-! how many keys were begun behind a given one -/
def nbk (d : Ds) (i : Nat) : Int := (dI d 336 (379 + 3 * i)).toInt
def nbb (d : Ds) (i : Nat) : Int := (dI d 336 (379 + 3 * i + 2)).toInt
def nbc (d : Ds) (v : Int) : Nat := (List.range 24).countP (fun i => decide (0 ≤ nbk d i ∧ v < nbb d i))
theorem cP_le {p q : Nat → Bool} {l : List Nat} (h : ∀ i, p i = true → q i = true) : l.countP p ≤ l.countP q := by
  induction l with
  | nil => exact Nat.le_refl _
  | cons a l ih =>
    rw [List.countP_cons, List.countP_cons]
    by_cases hp : p a = true
    · rw [if_pos hp, if_pos (h a hp)]; omega
    · rw [if_neg hp]; split <;> omega
theorem cP_lt {p q : Nat → Bool} {l : List Nat} (h : ∀ i, p i = true → q i = true) {a : Nat} (ha : a ∈ l) (h1 : q a = true) (h2 : ¬ p a = true) : l.countP p + 1 ≤ l.countP q := by
  induction l with
  | nil => cases ha
  | cons c l ih =>
    rw [List.countP_cons, List.countP_cons]
    by_cases hc : c = a
    · subst hc
      rw [if_neg h2, if_pos h1]
      have := cP_le (l := l) h
      omega
    · have hl : a ∈ l := by
        cases ha with
        | head => exact absurd rfl hc
        | tail _ z => exact z
      have := ih hl
      by_cases hp : p c = true
      · rw [if_pos hp, if_pos (h c hp)]; omega
      · rw [if_neg hp]; split <;> omega
theorem nbc_24 (d : Ds) (v : Int) : nbc d v ≤ 24 := by
  unfold nbc
  exact Nat.le_trans List.countP_le_length (Nat.le_of_eq List.length_range)
theorem nbc_lt {d : Ds} {v : Int} {i : Nat} (hi : i < 24) (hk : 0 ≤ nbk d i) (hv : v < nbb d i) : nbc d (nbb d i) + 1 ≤ nbc d v := by
  refine cP_lt (a := i) (fun j hj => ?_) (List.mem_range.mpr hi) (decide_eq_true ⟨hk, hv⟩) (fun h => ?_)
  · have := of_decide_eq_true hj
    exact decide_eq_true ⟨this.1, by omega⟩
  · have := (of_decide_eq_true h).2
    omega
theorem nbc_eq {d d' : Ds} (h : ∀ j, dI d' 336 j = dI d 336 j) (v : Int) : nbc d' v = nbc d v := by
  unfold nbc nbk nbb
  simp only [h]
def nbp (d : Ds) (x1 u : Int32) : Prop := 0 ≤ u.toInt → 0 ≤ nbk d u.toInt.toNat ∧ x1.toInt < nbb d u.toInt.toNat
theorem nb_ix {x : Int32} (hx : iv x 0 23) : ((379 : Int32) + ((3 : Int32) * x)).toNatClampNeg = 379 + 3 * x.toInt.toNat ∧ (((379 : Int32) + ((3 : Int32) * x)) + 2).toNatClampNeg = 379 + 3 * x.toInt.toNat + 2 := by
  have k1 := z_mul (x := (3 : Int32)) (y := x) (show (3 : Int32).toInt = 3 by decide) rfl (by have := hx.1; omega) (by have := hx.2; omega)
  have k2 := z_add (x := (379 : Int32)) (y := (3 : Int32) * x) (show (379 : Int32).toInt = 379 by decide) k1 (by have := hx.1; omega) (by have := hx.2; omega)
  have k3 := z_add (x := (379 : Int32) + (3 : Int32) * x) (y := 2) k2 (show (2 : Int32).toInt = 2 by decide) (by have := hx.1; omega) (by have := hx.2; omega)
  have h1 := hx.1
  have h2 := hx.2
  refine ⟨?_, ?_⟩
  · show ((379 : Int32) + ((3 : Int32) * x)).toInt.toNat = _
    rw [k2]; omega
  · show (((379 : Int32) + ((3 : Int32) * x)) + 2).toInt.toNat = _
    rw [k3]; omega
theorem nb_L4 {g : Gs} (hS : Shp g) {b : Nat → Int} {x0 : Nat} (hx0 : cls x0 = 11) {x1 : Int32} {y2 : Int32} (hy2 : iv y2 (-1) 23) {y3 : Int32} (hy3 : iv y3 0 24) {d : Ds} (hp : nbp d x1 y2) (hB : Bnd b d) : ok (fX12_nextBegun_L4 10000 g x0 x1 (y2, y3, d)) (fun u d' => d' = d ∧ iv u (-1) 23 ∧ nbp d x1 u) := by
  unfold fX12_nextBegun_L4
  refine ok_lp (fun a => a.2.2 = d ∧ iv a.1 (-1) 23 ∧ iv a.2.1 0 24 ∧ nbp d x1 a.1) (fun a => (24 - a.2.1.toInt).toNat) ?_ 10000 _ ⟨rfl, hy2, hy3, hp⟩ (ms_b hy3 (by decide))
  · rintro K4 ⟨y2, y3, d⟩ ⟨rfl, hy2, hy3, hp⟩ hK4
    dsimp only at hy2 hy3 hK4 hp ⊢
    unfold fX12_nextBegun_B4
    refine ok_if (fun c_1 => ?_) (fun c_1 => ?_)
    · exact ok_some ⟨rfl, hy2, hp⟩
    · have h_3 := iv.w (c := 0) (e := 23) (lt_l (nle c_1) hy3 (by decide : iv (24 : Int32) 24 24)) (by decide)
      have j83 : ∀ y : Int32, iv y (-1) 23 → nbp d x1 y → ok (fX12_nextBegun_J83 10000 g x0 x1 K4 y y3 d) (fun u d' => d' = d ∧ iv u (-1) 23 ∧ nbp d x1 u) := by
        intro y hy hq
        unfold fX12_nextBegun_J83
        refine ok_bd (fun u7 e_1 => ?_)
        have h_2 := iv_e e_1 (iv_add (l := 1) (h := 24) h_3 (by decide : iv (1 : Int32) 1 1) (by decide))
        exact hK4 _ ⟨rfl, hy, (iv.w h_2 (by decide)), hq⟩ (ms_up (H := 24) e_1 h_3 (by decide : iv (1 : Int32) 1 1) (by decide))
      refine ok_gd (kd_11 hS hx0) ?_
      obtain ⟨r3, e_4, k_5, k_5o⟩ := sh_11_17 hS hx0
      refine ok_ob e_4 ?_
      have u_6 := un_55 k_5
      subst u_6
      refine ok_gd (kd_55 hS k_5) ?_
      refine ok_gd (ixg (iv_add (l := 379) (h := 448) (by decide : iv (379 : Int32) 379 379) (iv_mul (l := 0) (h := 69) (by decide : iv (3 : Int32) 3 3) h_3 (by decide)) (by decide)) (ln_55 hS k_5) (by decide)) ?_
      refine ok_if (fun c_7 => ?_) (fun c_7 => ?_)
      · exact j83 _ hy2 hp
      · have h_9 := iv.w (c := 0) (e := 2147483647) (le_r (nlt c_7) (by decide : iv (0 : Int32) 0 0) (ivT _)) (by decide)
        refine ok_gd (ixg (iv_add (l := 381) (h := 450) (iv_add (l := 379) (h := 448) (by decide : iv (379 : Int32) 379 379) (iv_mul (l := 0) (h := 69) (by decide : iv (3 : Int32) 3 3) h_3 (by decide)) (by decide)) (by decide : iv (2 : Int32) 2 2) (by decide)) (ln_55 hS k_5) (by decide)) ?_
        refine ok_if (fun c_10 => ?_) (fun c_10 => ?_)
        · have hn : nbp d x1 y3 := by
            intro _
            obtain ⟨i1, i2⟩ := nb_ix h_3
            have q1 := h_9.1
            have q2 := Int32.lt_iff_toInt_lt.mp c_10
            rw [i1] at q1
            rw [i2] at q2
            exact ⟨q1, q2⟩
          have j81 : ok (fX12_nextBegun_J81 10000 g x0 x1 K4 y3 d) (fun u d' => d' = d ∧ iv u (-1) 23 ∧ nbp d x1 u) := by
            unfold fX12_nextBegun_J81
            exact j83 _ (iv.w h_3 (by decide)) hn
          refine ok_if (fun c_13 => ?_) (fun c_13 => ?_)
          · exact j81
          · have h_15 := iv.w (c := 0) (e := 23) (le_r (nlt c_13) (by decide : iv (0 : Int32) 0 0) hy2) (by decide)
            refine ok_gd (ixg (iv_add (l := 381) (h := 450) (iv_add (l := 379) (h := 448) (by decide : iv (379 : Int32) 379 379) (iv_mul (l := 0) (h := 69) (by decide : iv (3 : Int32) 3 3) h_15 (by decide)) (by decide)) (by decide : iv (2 : Int32) 2 2) (by decide)) (ln_55 hS k_5) (by decide)) ?_
            refine ok_if (fun c_16 => ?_) (fun c_16 => ?_)
            · exact j83 _ hy2 hp
            · exact j81
        · exact j83 _ hy2 hp
theorem nb_all {g : Gs} (hS : Shp g) {b : Nat → Int} {x0 : Nat} (hx0 : cls x0 = 11) {x1 : Int32} {d : Ds} (hB : Bnd b d) : ok (fX12_nextBegun 10000 g x0 x1 d) (fun u d' => d' = d ∧ iv u (-1) 23 ∧ nbp d x1 u) := by
  unfold fX12_nextBegun
  exact nb_L4 hS hx0 (iv.w (by decide : iv ((-1) : Int32) (-1) (-1)) (by decide)) (iv.w (by decide : iv (0 : Int32) 0 0) (by decide)) (fun h => absurd h (by decide)) hB
theorem sX12_adds_L2n {g : Gs} (hS : Shp g) {b : Nat → Int} {d0 : Ds} {x0 : Nat} (hx0 : cls x0 = 11) {x1 : Int32} {y2 : Int32} (hy2 : iv y2 0 25) {d : Ds} (h26 : iv (dI d x0 26) 0 24) (hI : Inv m_sX12_adds__11 b d0 d) : ok (fX12_adds_L2 10000 g x0 x1 (y2, d)) (fun u d' => Inv m_sX12_adds__11 b d0 d' ∧ (dI d' x0 26).toInt ≤ (dI d x0 26).toInt + 1) := by
  unfold fX12_adds_L2
  refine ok_lp (fun a => a.2 = d ∧ iv a.1 0 25) (fun a => (25 - a.1.toInt).toNat) ?_ 10000 _ ⟨rfl, hy2⟩ (ms_b hy2 (by decide))
  · rintro K2 ⟨y2, d⟩ ⟨rfl, hy2⟩ hK2
    dsimp only at hy2 hK2 h26 hI ⊢
    unfold fX12_adds_B2
    refine ok_gd (kd_11 hS hx0) ?_
    refine ok_if (fun c_1 => ?_) (fun c_1 => ?_)
    · obtain ⟨r3, e_2, k_3⟩ := sh_11_27 hS hx0
      refine ok_ob e_2 ?_
      refine ok_gd (kd_60 hS k_3) ?_
      refine ok_gd (ixg h26 (ln_60 hS k_3) (by decide)) ?_
      refine ok_bd (fun d6 e_5 => ?_)
      have h_6 := Inv.set e_5 hI (by rw [k_3]; exact trivial) (mA k_3 (by decide) (by decide +kernel)) (nA k_3 (by decide) (by decide +kernel))
      have h66 : dI d6 x0 26 = dI d x0 26 := rdq e_5 (Or.inl (cl_ne k_3 hx0 (by decide)))
      refine ok_bd (fun d7 e_7 => ?_)
      have h_8 := Inv.set e_7 h_6 (by rw [hx0, h66]; exact iv.w (iv_add (l := 1) (h := 25) h26 (by decide : iv (1 : Int32) 1 1) (by decide)) (by decide)) (mO hx0 (by decide) (by decide +kernel)) (nO hx0 (by decide) (by decide +kernel))
      refine ok_some ⟨h_8, ?_⟩
      rw [e_7, sI_rd, if_pos ⟨rfl, rfl⟩, h66, z_add (x := dI d x0 26) (y := 1) rfl (by decide : (1 : Int32).toInt = 1) (by have := h26.1; omega) (by have := h26.2; omega)]
      exact Int.le_refl _
    · have h_9 := iv.w (c := 0) (e := 24) (lt_l (nle c_1) hy2 (rd_11_26 hI.1 hx0)) (by decide)
      obtain ⟨r8, e_11, k_12⟩ := sh_11_27 hS hx0
      refine ok_ob e_11 ?_
      refine ok_gd (kd_60 hS k_12) ?_
      refine ok_gd (ixg h_9 (ln_60 hS k_12) (by decide)) ?_
      refine ok_if (fun c_14 => ?_) (fun c_14 => ?_)
      · exact ok_some ⟨hI, by omega⟩
      · refine ok_bd (fun u12 e_15 => ?_)
        have h_16 := iv_e e_15 (iv_add (l := 1) (h := 25) h_9 (by decide : iv (1 : Int32) 1 1) (by decide))
        exact hK2 _ ⟨rfl, (iv.w h_16 (by decide))⟩ (ms_up (H := 25) e_15 h_9 (by decide : iv (1 : Int32) 1 1) (by decide))
theorem sX12_adds_n {g : Gs} (hS : Shp g) {b : Nat → Int} {x0 : Nat} (hx0 : cls x0 = 11) {x1 : Int32} {d : Ds} (h26 : iv (dI d x0 26) 0 24) (hB : Bnd b d) : ok (fX12_adds 10000 g x0 x1 d) (fun u d' => Inv m_sX12_adds__11 b d d' ∧ (dI d' x0 26).toInt ≤ (dI d x0 26).toInt + 1) := by
  unfold fX12_adds
  exact sX12_adds_L2n hS hx0 (iv.w (by decide : iv (0 : Int32) 0 0) (by decide)) h26 (Inv.rf hB)
def lsP (x0 : Nat) (d : Ds) (y : Int32) : Prop := (0 ≤ y.toInt → 0 ≤ nbk d y.toInt.toNat ∧ (dI d x0 26).toInt + nbc d (nbb d y.toInt.toNat) + 1 ≤ 24) ∧ (dI d x0 26).toInt ≤ 24
def lsM (d : Ds) (y : Int32) : Nat := if y.toInt < 0 then 0 else nbc d (nbb d y.toInt.toNat) + 1
theorem ls_now {b : Nat → Int} {d d' : Ds} (h : Inv m_sX12_adds__11 b d d') (j : Nat) : dI d' 336 j = dI d 336 j := by
  refine h.2.1 336 j ?_
  have hc : cls 336 = 55 := by decide +kernel
  have hm : (List.range 13).all (fun n => !Nat.testBit m_sX12_adds__11 (3520 + n)) = true := by decide +kernel
  rw [hc, cdn, if_neg (by decide), if_pos rfl]
  have := List.all_eq_true.mp hm _ (List.mem_range.mpr (reg_12 j))
  simpa using this
theorem sX12_laysSent_J80n {g : Gs} (hS : Shp g) {b : Nat → Int} {d0 : Ds} {x0 : Nat} (hx0 : cls x0 = 11) {y2 : Int32} (hy2 : iv y2 0 23) {d : Ds} (hI : Inv m_sX12_laysSent__11 b d0 d) {K18 : Int32 × Ds → Option (Unit × Ds)} {μ : Nat} (hK18 : ∀ a, Inv m_sX12_laysSent__11 b d0 a.2 ∧ iv a.1 (-1) 23 ∧ lsP x0 a.2 a.1 → lsM a.2 a.1 < μ → ok (K18 a) (fun u d' => Inv m_sX12_laysSent__11 b d0 d' ∧ True)) (hm : lsM d y2 ≤ μ) (h26 : (dI d x0 26).toInt + nbc d (nbb d y2.toInt.toNat) ≤ 24) : ok (fX12_laysSent_J80 10000 g x0 K18 ((379 : Int32) + ((3 : Int32) * y2)) d) (fun u d' => Inv m_sX12_laysSent__11 b d0 d' ∧ True) := by
  unfold fX12_laysSent_J80
  have hy3 : iv ((379 : Int32) + ((3 : Int32) * y2)) 379 448 := iv_add (l := 379) (h := 448) (by decide : iv (379 : Int32) 379 379) (iv_mul (l := 0) (h := 69) (by decide : iv (3 : Int32) 3 3) hy2 (by decide)) (by decide)
  refine ok_gd (kd_11 hS hx0) ?_
  obtain ⟨r27, e_1, k_2, k_2o⟩ := sh_11_17 hS hx0
  refine ok_ob e_1 ?_
  have u_3 := un_55 k_2
  subst u_3
  refine ok_gd (kd_55 hS k_2) ?_
  refine ok_gd (ixg (iv_add (l := 381) (h := 450) hy3 (by decide : iv (2 : Int32) 2 2) (by decide)) (ln_55 hS k_2) (by decide)) ?_
  refine ok_bd (fun u30 e_4 => ?_)
  refine ok_cb (nb_all hS hx0 hI.1) (fun u33 d31 r_6 => ?_)
  obtain ⟨rfl, h_8, hq⟩ := r_6
  have e5 : u30.toInt = nbb d31 y2.toInt.toNat := by rw [e_4, (nb_ix hy2).2]; rfl
  have hm2 : lsM d31 y2 = nbc d31 (nbb d31 y2.toInt.toNat) + 1 := if_neg (by have := hy2.1; omega)
  rw [hm2] at hm
  have key : ∀ h0 : 0 ≤ u33.toInt, nbc d31 (nbb d31 u33.toInt.toNat) + 1 ≤ nbc d31 (nbb d31 y2.toInt.toNat) := by
    intro h0
    obtain ⟨q1, q2⟩ := hq h0
    rw [e5] at q2
    exact nbc_lt (by have := h_8.2; omega) q1 q2
  refine hK18 _ ⟨hI, h_8, fun h0 => ?_, by dsimp only; omega⟩ ?_
  · have := key h0
    exact ⟨(hq h0).1, by dsimp only; omega⟩
  · dsimp only
    unfold lsM
    split
    · omega
    · have := key (by omega)
      omega
theorem sX12_laysSent_J59n {g : Gs} (hS : Shp g) {b : Nat → Int} {d0 : Ds} {x0 : Nat} (hx0 : cls x0 = 11) {y2 : Int32} (hy2 : iv y2 0 23) {d : Ds} (hI : Inv m_sX12_laysSent__11 b d0 d) {K18 : Int32 × Ds → Option (Unit × Ds)} {μ : Nat} (hK18 : ∀ a, Inv m_sX12_laysSent__11 b d0 a.2 ∧ iv a.1 (-1) 23 ∧ lsP x0 a.2 a.1 → lsM a.2 a.1 < μ → ok (K18 a) (fun u d' => Inv m_sX12_laysSent__11 b d0 d' ∧ True)) (hm : lsM d y2 ≤ μ) (h26 : (dI d x0 26).toInt + nbc d (nbb d y2.toInt.toNat) + 1 ≤ 24) : ok (fX12_laysSent_J59 10000 g x0 K18 ((379 : Int32) + ((3 : Int32) * y2)) d) (fun u d' => Inv m_sX12_laysSent__11 b d0 d' ∧ True) := by
  unfold fX12_laysSent_J59
  have hy3 : iv ((379 : Int32) + ((3 : Int32) * y2)) 379 448 := iv_add (l := 379) (h := 448) (by decide : iv (379 : Int32) 379 379) (iv_mul (l := 0) (h := 69) (by decide : iv (3 : Int32) 3 3) hy2 (by decide)) (by decide)
  refine ok_gd (kd_11 hS hx0) ?_
  obtain ⟨r22, e_1, k_2, k_2o⟩ := sh_11_17 hS hx0
  refine ok_ob e_1 ?_
  have u_3 := un_55 k_2
  subst u_3
  refine ok_gd (kd_55 hS k_2) ?_
  refine ok_gd (ixg hy3 (ln_55 hS k_2) (by decide)) ?_
  refine ok_if (fun c_4 => ?_) (fun c_4 => ?_)
  · refine ok_gd (ixg (iv_add (l := 380) (h := 449) hy3 (by decide : iv (1 : Int32) 1 1) (by decide)) (ln_55 hS k_2) (by decide)) ?_
    refine ok_cv (sX12_adds_n hS hx0 ⟨(rd_11_26 hI.1 hx0).1, by omega⟩ hI.1) (fun d35 r_6 => ?_)
    obtain ⟨h_7, h_8⟩ := r_6
    have h_9 := Inv.call hI h_7 (by decide +kernel)
    have hc := nbc_eq (ls_now h_7)
    have hb : ∀ i, nbb d35 i = nbb d i := fun i => by unfold nbb; rw [ls_now h_7]
    refine sX12_laysSent_J80n hS hx0 hy2 h_9 hK18 ?_ ?_
    · unfold lsM at hm ⊢
      rw [hb, hc]
      exact hm
    · rw [hb, hc]
      omega
  · exact sX12_laysSent_J80n hS hx0 hy2 hI hK18 hm (by omega)
theorem sX12_laysSent_L18n {g : Gs} (hS : Shp g) {b : Nat → Int} {d0 : Ds} {x0 : Nat} (hx0 : cls x0 = 11) {y2 : Int32} (hy2 : iv y2 (-1) 23) {d : Ds} (hp : lsP x0 d y2) (hI : Inv m_sX12_laysSent__11 b d0 d) : ok (fX12_laysSent_L18 10000 g x0 (y2, d)) (fun u d' => Inv m_sX12_laysSent__11 b d0 d' ∧ True) := by
  unfold fX12_laysSent_L18
  refine ok_lp (fun a => Inv m_sX12_laysSent__11 b d0 a.2 ∧ iv a.1 (-1) 23 ∧ lsP x0 a.2 a.1) (fun a => lsM a.2 a.1) ?_ 10000 _ ⟨hI, hy2, hp⟩ (by dsimp only; unfold lsM; have := nbc_24 d (nbb d y2.toInt.toNat); split <;> omega)
  · rintro K18 ⟨y2, d⟩ ⟨hI, hy2, hp⟩ hK18
    dsimp only at hI hy2 hK18 hp ⊢
    unfold fX12_laysSent_B18
    refine ok_if (fun c_1 => ?_) (fun c_1 => ?_)
    · refine ok_gd (kd_11 hS hx0) ?_
      obtain ⟨r9, e_3, k_4, k_4o⟩ := sh_11_17 hS hx0
      refine ok_ob e_3 ?_
      have u_5 := un_55 k_4
      subst u_5
      refine ok_gd (kd_55 hS k_4) ?_
      refine ok_gd (ixg (by decide : iv (454 : Int32) 454 454) (ln_55 hS k_4) (by decide)) ?_
      refine ok_if (fun c_6 => ?_) (fun c_6 => ?_)
      · unfold fX12_laysSent_J121
        exact ok_some ⟨hI, trivial⟩
      · refine ok_cv (sX12_adds_n hS hx0 ⟨(rd_11_26 hI.1 hx0).1, hp.2⟩ hI.1) (fun d13 r_9 => ?_)
        obtain ⟨h_10, h_11⟩ := r_9
        have h_12 := Inv.call hI h_10 (by decide +kernel)
        unfold fX12_laysSent_J121
        exact ok_some ⟨h_12, trivial⟩
    · have h_13 := iv.w (c := 0) (e := 23) (le_r (nlt c_1) (by decide : iv (0 : Int32) 0 0) hy2) (by decide)
      refine ok_bd (fun u15 e_14 => ?_)
      have h_15 := iv_e e_14 (iv_add (l := 379) (h := 448) (by decide : iv (379 : Int32) 379 379) (iv_mul (l := 0) (h := 69) (by decide : iv (3 : Int32) 3 3) h_13 (by decide)) (by decide))
      refine ok_gd (kd_11 hS hx0) ?_
      obtain ⟨r17, e_16, k_17, k_17o⟩ := sh_11_17 hS hx0
      refine ok_ob e_16 ?_
      have u_18 := un_55 k_17
      subst u_18
      refine ok_gd (kd_55 hS k_17) ?_
      refine ok_gd (ixg h_15 (ln_55 hS k_17) (by decide)) ?_
      refine ok_if (fun c_19 => ?_) (fun c_19 => ?_)
      · refine ok_gd (ixg (iv_add (l := 380) (h := 449) h_15 (by decide : iv (1 : Int32) 1 1) (by decide)) (ln_55 hS k_17) (by decide)) ?_
        refine ok_bd (fun d38 e_21 => ?_)
        have h_22 := Inv.set e_21 hI (by rw [hx0]; exact trivial) (mO hx0 (by decide) (by decide +kernel)) (nO hx0 (by decide) (by decide +kernel))
        have hn : ∀ j, dI d38 336 j = dI d 336 j := fun j => rdq e_21 (Or.inl (cl_ne hx0 k_17 (by decide)))
        have h26 : dI d38 x0 26 = dI d x0 26 := rdq e_21 (Or.inr (by decide))
        have hc := nbc_eq hn
        have hb : ∀ i, nbb d38 i = nbb d i := fun i => by unfold nbb; rw [hn]
        have hm : lsM d38 y2 = lsM d y2 := by unfold lsM; rw [hb, hc]
        subst e_14
        refine sX12_laysSent_J59n hS hx0 h_13 h_22 hK18 (Nat.le_of_eq hm) ?_
        rw [h26, hb, hc]
        exact (hp.1 h_13.1).2
      · subst e_14
        exact sX12_laysSent_J59n hS hx0 h_13 hI hK18 (Nat.le_refl _) (hp.1 h_13.1).2
theorem sX12_laysSent__11 {g : Gs} (hS : Shp g) {b : Nat → Int} {x0 : Nat} (hx0 : cls x0 = 11) {d : Ds} (hB : Bnd b d) : ok (fX12_laysSent 10000 g x0 d) (fun u d' => Inv m_sX12_laysSent__11 b d d' ∧ True) := by
  have hI : Inv m_sX12_laysSent__11 b d d := Inv.rf hB
  unfold fX12_laysSent
  refine ok_gd (kd_11 hS hx0) ?_
  refine ok_bd (fun d2 e_1 => ?_)
  have h_2 := Inv.set e_1 hI (by rw [hx0]; exact trivial) (mO hx0 (by decide) (by decide +kernel)) (nO hx0 (by decide) (by decide +kernel))
  refine ok_bd (fun d3 e_3 => ?_)
  have h_4 := Inv.set e_3 h_2 (by rw [hx0]; exact (iv.w (by decide : iv (0 : Int32) 0 0) (by decide))) (mO hx0 (by decide) (by decide +kernel)) (nO hx0 (by decide) (by decide +kernel))
  refine ok_cb (nb_all hS hx0 h_4.1) (fun u6 d4 r_5 => ?_)
  obtain ⟨rfl, h_7, hq⟩ := r_5
  have h26 : (dI d4 x0 26).toInt = 0 := by rw [e_3, sI_rd, if_pos ⟨rfl, rfl⟩]; rfl
  refine sX12_laysSent_L18n hS hx0 h_7 ⟨fun h0 => ?_, by omega⟩ h_4
  obtain ⟨q1, q2⟩ := hq h0
  have := nbc_lt (v := ((-1) : Int32).toInt) (by have := h_7.2; omega) q1 q2
  have := nbc_24 d4 ((-1) : Int32).toInt
  exact ⟨q1, by omega⟩

theorem sX12_isLatest_J27__11 {g : Gs} (hS : Shp g) {b : Nat → Int} {x0 : Nat} (hx0 : cls x0 = 11) {x1 : Int32} (hx1 : iv x1 (-2) 25) {z0 : Int32} (hz0 : iv z0 0 1) {d : Ds} (hB : Bnd b d) (hr_336_555 : iv (dI d 336 (555 : Int32).toNatClampNeg) 0 0) : ok (fX12_isLatest_J27 10000 g x0 x1 z0 d) (fun u d' => d' = d ∧ iv u 0 1) := by
  unfold fX12_isLatest_J27
  refine ok_gd (iv_b hz0 (by decide)) ?_
  exact ok_some ⟨rfl, hz0⟩
theorem sX12_isLatest_J26__11 {g : Gs} (hS : Shp g) {b : Nat → Int} {x0 : Nat} (hx0 : cls x0 = 11) {x1 : Int32} (hx1 : iv x1 (-2) 25) {d : Ds} (hB : Bnd b d) (hr_336_555 : iv (dI d 336 (555 : Int32).toNatClampNeg) 0 0) : ok (fX12_isLatest_J26 10000 g x0 x1 d) (fun u d' => d' = d ∧ iv u 0 1) := by
  unfold fX12_isLatest_J26
  exact sX12_isLatest_J27__11 hS hx0 hx1 (iv.w (by decide : iv (0 : Int32) 0 0) (by decide)) hB hr_336_555
theorem sX12_isLatest_J61__11 {g : Gs} (hS : Shp g) {b : Nat → Int} {x0 : Nat} (hx0 : cls x0 = 11) {x1 : Int32} (hx1 : iv x1 (-2) 25) {d : Ds} (hB : Bnd b d) (hr_336_555 : iv (dI d 336 (555 : Int32).toNatClampNeg) 1 2147483647) : ok (fX12_isLatest_J61 10000 g x0 x1 d) (fun u d' => d' = d ∧ iv u 0 1) := by
  unfold fX12_isLatest_J61
  exact ok_some ⟨rfl, (iv.w (by decide : iv (0 : Int32) 0 0) (by decide))⟩
theorem sX12_isLatest_L65__11 {g : Gs} (hS : Shp g) {b : Nat → Int} {x0 : Nat} (hx0 : cls x0 = 11) {x1 : Int32} (hx1 : iv x1 (-2) 25) {y2 : Int32} (hy2 : iv y2 558 1650) (gy2 : y2.toInt % 28 = 26) {y3 : Int32} (hy3 : iv y3 0 25) {d : Ds} (hB : Bnd b d) (hr_336_555 : iv (dI d 336 (555 : Int32).toNatClampNeg) 1 2147483647) : ok (fX12_isLatest_L65 10000 g x0 x1 (y2, y3, d)) (fun u d' => d' = d ∧ iv u 0 1) := by
  unfold fX12_isLatest_L65
  refine ok_lp (fun a => a.2.2 = d ∧ iv a.1 558 1650 ∧ a.1.toInt % 28 = 26 ∧ iv a.2.1 0 25 ∧ iv (dI a.2.2 336 (555 : Int32).toNatClampNeg) 1 2147483647 ∧ True) (fun a => (25 - a.2.1.toInt).toNat) ?_ 10000 _ ⟨rfl, hy2, gy2, hy3, hr_336_555, trivial⟩ (ms_b hy3 (by decide))
  · rintro K65 ⟨y2, y3, d⟩ ⟨rfl, hy2, gy2, hy3, hr_336_555, -⟩ hK65
    (try dsimp only at hy2 gy2 hy3 hr_336_555 hK65 ⊢)
    unfold fX12_isLatest_B65
    refine ok_if (fun c_1 => ?_) (fun c_1 => ?_)
    · exact ok_some ⟨rfl, (iv.w (by decide : iv (1 : Int32) 1 1) (by decide))⟩
    · have h_2 := iv.w (c := 0) (e := 24) (lt_l (nle c_1) hy3 hx1) (by decide)
      have h_3 := iv.w (c := 1) (e := 25) (lt_r (nle c_1) hy3 hx1) (by decide)
      refine ok_gd (kd_11 hS hx0) ?_
      obtain ⟨r15, e_4, k_5, k_5o⟩ := sh_11_17 hS hx0
      refine ok_ob e_4 ?_
      have u_6 := un_55 k_5
      subst u_6
      refine ok_gd (kd_55 hS k_5) ?_
      refine ok_gd (ixg (iv_add (l := 561) (h := 1677) (iv_add (l := 561) (h := 1653) hy2 (by decide : iv (3 : Int32) 3 3) (by decide)) h_2 (by decide)) (ln_55 hS k_5) (by decide)) ?_
      obtain ⟨r18, e_7, k_8⟩ := sh_11_27 hS hx0
      refine ok_ob e_7 ?_
      have u_9 := un_60 k_8
      subst u_9
      refine ok_gd (kd_60 hS k_8) ?_
      refine ok_gd (ixg h_2 (ln_60 hS k_8) (by decide)) ?_
      refine ok_if (fun c_10 => ?_) (fun c_10 => ?_)
      · refine ok_bd (fun u22 e_11 => ?_)
        have h_12 := iv_e e_11 (iv_add (l := 1) (h := 25) h_2 (by decide : iv (1 : Int32) 1 1) (by decide))
        exact hK65 _ ⟨rfl, hy2, gy2, (iv.w h_12 (by decide)), hr_336_555, trivial⟩ (ms_up (H := 25) e_11 h_2 (by decide : iv (1 : Int32) 1 1) (by decide))
      · exact ok_some ⟨rfl, (iv.w (by decide : iv (0 : Int32) 0 0) (by decide))⟩
theorem sX12_reportAt {g : Gs} (hS : Shp g) {b : Nat → Int} {x0 : Nat} (hx0 : cls x0 = 11) {x1 : Int32} (hx1 : iv x1 0 39) {d : Ds} (hr : x1.toInt < (dI d 336 (555 : Int32).toNatClampNeg).toInt) (hB : Bnd b d) : ok (fX12_reportAt 10000 g x0 x1 d) (fun u d' => d' = d ∧ iv u 558 1650 ∧ u.toInt % 28 = 26) := by
  unfold fX12_reportAt
  refine ok_gd (kd_11 hS hx0) ?_
  obtain ⟨r2, e2, k2, k2o⟩ := sh_11_17 hS hx0
  refine ok_ob e2 ?_
  have q := un_55 k2
  subst q
  have hw := iv.w (c := 0) (e := 2147483647) (iv_lo (rdN_555 hB k2)) (by decide)
  have hw1 : iv (dI d 336 (555 : Int32).toNatClampNeg) 1 2147483647 := ⟨by have := hx1.1; omega, hw.2⟩
  have k1 := iv_sub (l := 0) (h := 2147483646) hw1 (by decide : iv (1 : Int32) 1 1) (by decide)
  have e1 := z_sub (x := dI d 336 (555 : Int32).toNatClampNeg) (y := 1) rfl (show (1 : Int32).toInt = 1 by decide) (by have := hw1.1; omega) (by have := hw1.2; omega)
  have e3 := z_sub (x := dI d 336 (555 : Int32).toNatClampNeg - 1) (y := x1) e1 rfl (by have := hw1.1; have := hx1.2; omega) (by have := hw1.2; have := hx1.1; omega)
  have k3 : iv (dI d 336 (555 : Int32).toNatClampNeg - 1 - x1) 0 2147483646 := ⟨by rw [e3]; omega, by rw [e3]; have := hx1.1; have := hw1.2; omega⟩
  have k4 := iv.w (c := 0) (e := 39) (iv_rem k3 (by decide : iv (40 : Int32) 40 40) (by decide)) (by decide)
  refine ok_gd (kd_55 hS k2) (ok_gd (ixg (by decide : iv (555 : Int32) 555 555) (ln_55 hS k2) (by decide)) (ok_gd (iv_nz (by decide : iv (40 : Int32) 40 40) (by decide)) ?_))
  generalize hz : (dI d 336 (555 : Int32).toNatClampNeg - 1 - x1 - (dI d 336 (555 : Int32).toNatClampNeg - 1 - x1) / 40 * 40) = z at k4 ⊢
  have m1 := z_mul (x := (28 : Int32)) (y := z) (show (28 : Int32).toInt = 28 by decide) rfl (by have := k4.1; omega) (by have := k4.2; omega)
  have m2 := z_add (x := (558 : Int32)) (y := (28 : Int32) * z) (show (558 : Int32).toInt = 558 by decide) m1 (by have := k4.1; omega) (by have := k4.2; omega)
  have h1 := k4.1
  have h2 := k4.2
  refine ok_some ⟨rfl, ⟨by rw [m2]; omega, by rw [m2]; omega⟩, by rw [m2]; omega⟩

theorem sX12_isLatest__11 {g : Gs} (hS : Shp g) {b : Nat → Int} {x0 : Nat} (hx0 : cls x0 = 11) {x1 : Int32} (hx1 : iv x1 (-2) 25) {d : Ds} (hB : Bnd b d) : ok (fX12_isLatest 10000 g x0 x1 d) (fun u d' => d' = d ∧ iv u 0 1) := by
  unfold fX12_isLatest
  refine ok_gd (kd_11 hS hx0) ?_
  obtain ⟨r2, e_1, k_2, k_2o⟩ := sh_11_17 hS hx0
  refine ok_ob e_1 ?_
  have u_3 := un_55 k_2
  subst u_3
  refine ok_gd (kd_55 hS k_2) ?_
  refine ok_gd (ixg (by decide : iv (555 : Int32) 555 555) (ln_55 hS k_2) (by decide)) ?_
  refine ok_if (fun c_4 => ?_) (fun c_4 => ?_)
  · have h_5 := iv.w (c := 0) (e := 0) (eq_l c_4 (by decide : iv (0 : Int32) 0 0)) (by decide)
    refine ok_if (fun c_6 => ?_) (fun c_6 => ?_)
    · have h_7 := iv.w (c := 0) (e := 0) (eq_l c_6 (by decide : iv (0 : Int32) 0 0)) (by decide)
      refine ok_if (fun c_8 => ?_) (fun c_8 => ?_)
      · have h_9 := iv.w (c := 0) (e := 0) (eq_l c_8 (by decide : iv (0 : Int32) 0 0)) (by decide)
        exact sX12_isLatest_J27__11 hS hx0 (iv.w h_9 (by decide)) (iv.w (by decide : iv (1 : Int32) 1 1) (by decide)) hB h_5
      · exact sX12_isLatest_J26__11 hS hx0 hx1 hB h_5
    · exact sX12_isLatest_J26__11 hS hx0 hx1 hB h_5
  · have h_10 := iv.w (c := 1) (e := 2147483647) (ne_lo c_4 (iv_lo (rdN_555 hB k_2)) (by decide : iv (0 : Int32) 0 0)) (by decide)
    refine ok_cb (sX12_reportAt hS hx0 (iv.w (by decide : iv (0 : Int32) 0 0) (by decide)) (Int.lt_of_le_of_lt (by decide : iv (0 : Int32) 0 0).2 (Int.lt_of_lt_of_le (by decide) h_10.1)) hB) (fun u8 d6 r_11 => ?_)
    obtain ⟨rfl, h_13, x_13⟩ := r_11
    refine ok_gd (ixg (iv_add (l := 559) (h := 1651) h_13 (by decide : iv (1 : Int32) 1 1) (by decide)) (ln_55 hS k_2) (by decide)) ?_
    refine ok_if (fun c_14 => ?_) (fun c_14 => ?_)
    · refine ok_gd (ixg (iv_add (l := 560) (h := 1652) h_13 (by decide : iv (2 : Int32) 2 2) (by decide)) (ln_55 hS k_2) (by decide)) ?_
      refine ok_if (fun c_15 => ?_) (fun c_15 => ?_)
      · exact sX12_isLatest_L65__11 hS hx0 hx1 h_13 x_13 (iv.w (by decide : iv (0 : Int32) 0 0) (by decide)) hB h_10
      · exact sX12_isLatest_J61__11 hS hx0 hx1 hB h_10
    · exact sX12_isLatest_J61__11 hS hx0 hx1 hB h_10
def m_sX12_hears__11 : Nat := 0x400000000000000000000000000000000000000000000000000000000000000000000000000000000000000000000000000000000000000000000000000000000000000000000000000000000000000000000000000000000000000000000000000000000000000000000000000000000000000000000000000000000000000000000000000000000000000000000000000000000000000000000000000000000000000000000000000000000000000000000000000000000000000000000000000000000000000000000000000000000000000000000000000000000000000000000000000000000000000000000000000000000000000000000000000000000000000000000000000000000000000000000000000000000000000000000000000000000000000000000000000000000000000000000000000000000000000000000000000000000000000000000000000000000000000000000000000000000000000000000000000000000000000000000000000000000000000000000000000000000000000000000000000000000000000000000000000000000000000000000000000000000000000000000000000000000000000000
theorem sX12_hears_J174__11 {g : Gs} (hS : Shp g) {b : Nat → Int} {d0 : Ds} {x0 : Nat} (hx0 : cls x0 = 11) {x1 : Int32} (hx1 : iv x1 558 1650) (gx1 : x1.toInt % 28 = 26) {d : Ds} (hI : Inv m_sX12_hears__11 b d0 d) : ok (fX12_hears_J174 10000 g x0 x1 d) (fun u d' => Inv m_sX12_hears__11 b d0 d' ∧ True) := by
  unfold fX12_hears_J174
  exact ok_some ⟨hI, trivial⟩
theorem sX12_hears_J73__11 {g : Gs} (hS : Shp g) {b : Nat → Int} {d0 : Ds} {x0 : Nat} (hx0 : cls x0 = 11) {x1 : Int32} (hx1 : iv x1 558 1650) (gx1 : x1.toInt % 28 = 26) {y2 : Int32} {y3 : Int32} (hy3 : iv y3 0 24) {d : Ds} (hI : Inv m_sX12_hears__11 b d0 d) {K4 : Int32 × Int32 × Ds → Option (Unit × Ds)} {μ4 : Nat} (hK4 : ∀ a, Inv m_sX12_hears__11 b d0 a.2.2 ∧ iv a.2.1 0 25 ∧ True → (25 - a.2.1.toInt).toNat < μ4 → ok (K4 a) (fun u d' => Inv m_sX12_hears__11 b d0 d' ∧ True)) (hm4 : (25 - y3.toInt).toNat ≤ μ4) : ok (fX12_hears_J73 10000 g x0 x1 K4 y2 y3 d) (fun u d' => Inv m_sX12_hears__11 b d0 d' ∧ True) := by
  unfold fX12_hears_J73
  refine ok_bd (fun u28 e_1 => ?_)
  have h_2 := iv_e e_1 (iv_add (l := 1) (h := 25) hy3 (by decide : iv (1 : Int32) 1 1) (by decide))
  exact hK4 _ ⟨hI, (iv.w h_2 (by decide)), trivial⟩ (Nat.lt_of_lt_of_le (ms_up (H := 25) e_1 hy3 (by decide : iv (1 : Int32) 1 1) (by decide)) hm4)
theorem sX12_hears_J55__11 {g : Gs} (hS : Shp g) {b : Nat → Int} {d0 : Ds} {x0 : Nat} (hx0 : cls x0 = 11) {x1 : Int32} (hx1 : iv x1 558 1650) (gx1 : x1.toInt % 28 = 26) {y2 : Int32} {y3 : Int32} (hy3 : iv y3 0 24) {z0 : Int32} (hz0 : iv z0 0 1) {d : Ds} (hI : Inv m_sX12_hears__11 b d0 d) {K4 : Int32 × Int32 × Ds → Option (Unit × Ds)} {μ4 : Nat} (hK4 : ∀ a, Inv m_sX12_hears__11 b d0 a.2.2 ∧ iv a.2.1 0 25 ∧ True → (25 - a.2.1.toInt).toNat < μ4 → ok (K4 a) (fun u d' => Inv m_sX12_hears__11 b d0 d' ∧ True)) (hm4 : (25 - y3.toInt).toNat ≤ μ4) : ok (fX12_hears_J55 10000 g x0 x1 K4 y2 y3 z0 d) (fun u d' => Inv m_sX12_hears__11 b d0 d' ∧ True) := by
  unfold fX12_hears_J55
  refine ok_if (fun c_1 => ?_) (fun c_1 => ?_)
  · have h_2 := iv.w (c := 0) (e := 0) (eq_l c_1 (by decide : iv (0 : Int32) 0 0)) (by decide)
    refine ok_gd (kd_11 hS hx0) ?_
    obtain ⟨r30, e_3, k_4, k_4o⟩ := sh_11_17 hS hx0
    refine ok_ob e_3 ?_
    have u_5 := un_55 k_4
    subst u_5
    refine ok_gd (kd_55 hS k_4) ?_
    refine ok_gd (ixg (iv_add (l := 561) (h := 1677) (iv_add (l := 561) (h := 1653) hx1 (by decide : iv (3 : Int32) 3 3) (by decide)) hy3 (by decide)) (ln_55 hS k_4) (by decide)) ?_
    refine ok_bd (fun u33 e_6 => ?_)
    exact sX12_hears_J73__11 hS hx0 hx1 gx1 hy3 hI hK4 hm4
  · have h_8 := iv.w (c := 1) (e := 1) (ne_lo c_1 hz0 (by decide : iv (0 : Int32) 0 0)) (by decide)
    exact sX12_hears_J73__11 hS hx0 hx1 gx1 hy3 hI hK4 hm4
theorem sX12_hears_J54__11 {g : Gs} (hS : Shp g) {b : Nat → Int} {d0 : Ds} {x0 : Nat} (hx0 : cls x0 = 11) {x1 : Int32} (hx1 : iv x1 558 1650) (gx1 : x1.toInt % 28 = 26) {y2 : Int32} {y3 : Int32} (hy3 : iv y3 0 24) {d : Ds} (hI : Inv m_sX12_hears__11 b d0 d) (hr_336_555 : iv (dI d 336 (555 : Int32).toNatClampNeg) 0 2147483647) {K4 : Int32 × Int32 × Ds → Option (Unit × Ds)} {μ4 : Nat} (hK4 : ∀ a, Inv m_sX12_hears__11 b d0 a.2.2 ∧ iv a.2.1 0 25 ∧ True → (25 - a.2.1.toInt).toNat < μ4 → ok (K4 a) (fun u d' => Inv m_sX12_hears__11 b d0 d' ∧ True)) (hm4 : (25 - y3.toInt).toNat ≤ μ4) : ok (fX12_hears_J54 10000 g x0 x1 K4 y2 y3 d) (fun u d' => Inv m_sX12_hears__11 b d0 d' ∧ True) := by
  unfold fX12_hears_J54
  exact sX12_hears_J55__11 hS hx0 hx1 gx1 hy3 (iv.w (by decide : iv (0 : Int32) 0 0) (by decide)) hI hK4 hm4
theorem sX12_reportHas_L2__11 {g : Gs} (hS : Shp g) {b : Nat → Int} {x0 : Nat} (hx0 : cls x0 = 11) {x1 : Int32} (hx1 : iv x1 558 1650) (gx1 : x1.toInt % 28 = 26) {x2 : Int32} {y3 : Int32} (hy3 : iv y3 0 25) {d : Ds} (hB : Bnd b d) : ok (fX12_reportHas_L2 10000 g x0 x1 x2 (y3, d)) (fun u d' => d' = d ∧ iv u 0 1) := by
  unfold fX12_reportHas_L2
  refine ok_lp (fun a => a.2 = d ∧ iv a.1 0 25 ∧ True) (fun a => (25 - a.1.toInt).toNat) ?_ 10000 _ ⟨rfl, hy3, trivial⟩ (ms_b hy3 (by decide))
  · rintro K2 ⟨y3, d⟩ ⟨rfl, hy3, -⟩ hK2
    (try dsimp only at hy3 hK2 ⊢)
    unfold fX12_reportHas_B2
    refine ok_gd (kd_11 hS hx0) ?_
    obtain ⟨r2, e_1, k_2, k_2o⟩ := sh_11_17 hS hx0
    refine ok_ob e_1 ?_
    have u_3 := un_55 k_2
    subst u_3
    refine ok_gd (kd_55 hS k_2) ?_
    refine ok_gd (ixg (iv_add (l := 560) (h := 1652) hx1 (by decide : iv (2 : Int32) 2 2) (by decide)) (ln_55 hS k_2) (by decide)) ?_
    refine ok_if (fun c_4 => ?_) (fun c_4 => ?_)
    · exact ok_some ⟨rfl, (iv.w (by decide : iv (0 : Int32) 0 0) (by decide))⟩
    · have h_5 := iv.w (c := 0) (e := 24) (lt_l (nle c_4) hy3 (rdN_rc hB k_2 hx1 gx1)) (by decide)
      have h_6 := iv.w (c := 1) (e := 25) (lt_r (nle c_4) hy3 (rdN_rc hB k_2 hx1 gx1)) (by decide)
      refine ok_gd (ixg (iv_add (l := 561) (h := 1677) (iv_add (l := 561) (h := 1653) hx1 (by decide : iv (3 : Int32) 3 3) (by decide)) h_5 (by decide)) (ln_55 hS k_2) (by decide)) ?_
      refine ok_if (fun c_7 => ?_) (fun c_7 => ?_)
      · exact ok_some ⟨rfl, (iv.w (by decide : iv (1 : Int32) 1 1) (by decide))⟩
      · refine ok_bd (fun u8 e_8 => ?_)
        have h_9 := iv_e e_8 (iv_add (l := 1) (h := 25) h_5 (by decide : iv (1 : Int32) 1 1) (by decide))
        exact hK2 _ ⟨rfl, (iv.w h_9 (by decide)), trivial⟩ (ms_up (H := 25) e_8 h_5 (by decide : iv (1 : Int32) 1 1) (by decide))
theorem sX12_reportHas__11 {g : Gs} (hS : Shp g) {b : Nat → Int} {x0 : Nat} (hx0 : cls x0 = 11) {x1 : Int32} (hx1 : iv x1 558 1650) (gx1 : x1.toInt % 28 = 26) {x2 : Int32} {d : Ds} (hB : Bnd b d) : ok (fX12_reportHas 10000 g x0 x1 x2 d) (fun u d' => d' = d ∧ iv u 0 1) := by
  unfold fX12_reportHas
  exact sX12_reportHas_L2__11 hS hx0 hx1 gx1 (iv.w (by decide : iv (0 : Int32) 0 0) (by decide)) hB
theorem sX12_hears_L4__11 {g : Gs} (hS : Shp g) {b : Nat → Int} {d0 : Ds} {x0 : Nat} (hx0 : cls x0 = 11) {x1 : Int32} (hx1 : iv x1 558 1650) (gx1 : x1.toInt % 28 = 26) {y2 : Int32} {y3 : Int32} (hy3 : iv y3 0 25) {d : Ds} (hI : Inv m_sX12_hears__11 b d0 d) : ok (fX12_hears_L4 10000 g x0 x1 (y2, y3, d)) (fun u d' => Inv m_sX12_hears__11 b d0 d' ∧ True) := by
  unfold fX12_hears_L4
  refine ok_lp (fun a => Inv m_sX12_hears__11 b d0 a.2.2 ∧ iv a.2.1 0 25 ∧ True) (fun a => (25 - a.2.1.toInt).toNat) ?_ 10000 _ ⟨hI, hy3, trivial⟩ (ms_b hy3 (by decide))
  · rintro K4 ⟨y2, y3, d⟩ ⟨hI, hy3, -⟩ hK4
    (try dsimp only at hI hy3 hK4 ⊢)
    unfold fX12_hears_B4
    refine ok_gd (kd_11 hS hx0) ?_
    obtain ⟨r2, e_1, k_2, k_2o⟩ := sh_11_17 hS hx0
    refine ok_ob e_1 ?_
    have u_3 := un_55 k_2
    subst u_3
    refine ok_gd (kd_55 hS k_2) ?_
    refine ok_gd (ixg (iv_add (l := 560) (h := 1652) hx1 (by decide : iv (2 : Int32) 2 2) (by decide)) (ln_55 hS k_2) (by decide)) ?_
    refine ok_if (fun c_4 => ?_) (fun c_4 => ?_)
    · refine ok_if (fun c_5 => ?_) (fun c_5 => ?_)
      · have h_6 := iv.w (c := (-2147483648)) (e := (-1)) (lt_l c_5 (ivT _) (by decide : iv (0 : Int32) 0 0)) (by decide)
        refine ok_gd (ixg (by decide : iv (455 : Int32) 455 455) (ln_55 hS k_2) (by decide)) ?_
        refine ok_if (fun c_7 => ?_) (fun c_7 => ?_)
        · have h_8 := iv.w (c := (-2147483648)) (e := (-1)) (lt_l c_7 (ivT _) (by decide : iv (0 : Int32) 0 0)) (by decide)
          exact sX12_hears_J174__11 hS hx0 hx1 gx1 hI
        · have h_9 := iv.w (c := 0) (e := 2147483647) (le_r (nlt c_7) (by decide : iv (0 : Int32) 0 0) (ivT _)) (by decide)
          refine ok_cb (sX12_reportHas__11 hS hx0 hx1 gx1 hI.1) (fun u11 d9 r_10 => ?_)
          obtain ⟨rfl, h_12⟩ := r_10
          refine ok_if (fun c_13 => ?_) (fun c_13 => ?_)
          · have h_14 := iv.w (c := 0) (e := 0) (eq_l c_13 (by decide : iv (0 : Int32) 0 0)) (by decide)
            refine ok_bd (fun d13 e_15 => ?_)
            have h_16 := Inv.set e_15 hI (by rw [k_2]; exact (okN_b (by decide : iv (455 : Int32) 455 455) (by decide))) (mN (n := 6) k_2 (by decide : iv (455 : Int32) 455 455) (by decide) (by decide +kernel)) (nN k_2 (by decide : iv (455 : Int32) 455 455) (by decide +kernel))
            refine ok_gd (ixg (by decide : iv (456 : Int32) 456 456) (ln_55 hS k_2) (by decide)) ?_
            refine ok_bd (fun d15 e_17 => ?_)
            have h_18 := Inv.set e_17 h_16 (by rw [k_2]; exact (okN_b (by decide : iv (456 : Int32) 456 456) (by decide))) (mN (n := 6) k_2 (by decide : iv (456 : Int32) 456 456) (by decide) (by decide +kernel)) (nN k_2 (by decide : iv (456 : Int32) 456 456) (by decide +kernel))
            refine ok_gd (ixg (by decide : iv (458 : Int32) 458 458) (ln_55 hS k_2) (by decide)) ?_
            refine ok_bd (fun d17 e_19 => ?_)
            have h_20 := Inv.set e_19 h_18 (by rw [k_2]; exact (okN_b (by decide : iv (458 : Int32) 458 458) (by decide))) (mN (n := 6) k_2 (by decide : iv (458 : Int32) 458 458) (by decide) (by decide +kernel)) (nN k_2 (by decide : iv (458 : Int32) 458 458) (by decide +kernel))
            exact sX12_hears_J174__11 hS hx0 hx1 gx1 h_20
          · have h_21 := iv.w (c := 1) (e := 1) (ne_lo c_13 h_12 (by decide : iv (0 : Int32) 0 0)) (by decide)
            exact sX12_hears_J174__11 hS hx0 hx1 gx1 hI
      · have h_22 := iv.w (c := 0) (e := 2147483647) (le_r (nlt c_5) (by decide : iv (0 : Int32) 0 0) (ivT _)) (by decide)
        refine ok_gd (ixg (by decide : iv (455 : Int32) 455 455) (ln_55 hS k_2) (by decide)) ?_
        refine ok_bd (fun d19 e_23 => ?_)
        have h_24 := Inv.set e_23 hI (by rw [k_2]; exact (okN_b (by decide : iv (455 : Int32) 455 455) (by decide))) (mN (n := 6) k_2 (by decide : iv (455 : Int32) 455 455) (by decide) (by decide +kernel)) (nN k_2 (by decide : iv (455 : Int32) 455 455) (by decide +kernel))
        refine ok_gd (ixg (by decide : iv (354 : Int32) 354 354) (ln_55 hS k_2) (by decide)) ?_
        refine ok_gd (ixg (by decide : iv (456 : Int32) 456 456) (ln_55 hS k_2) (by decide)) ?_
        refine ok_bd (fun d22 e_25 => ?_)
        have h_26 := Inv.set e_25 h_24 (by rw [k_2]; exact (okN_b (by decide : iv (456 : Int32) 456 456) (by decide))) (mN (n := 6) k_2 (by decide : iv (456 : Int32) 456 456) (by decide) (by decide +kernel)) (nN k_2 (by decide : iv (456 : Int32) 456 456) (by decide +kernel))
        refine ok_gd (ixg (by decide : iv (458 : Int32) 458 458) (ln_55 hS k_2) (by decide)) ?_
        refine ok_bd (fun d24 e_27 => ?_)
        have h_28 := Inv.set e_27 h_26 (by rw [k_2]; exact (okN_z (rdN_354 h_26.1 k_2))) (mN (n := 6) k_2 (by decide : iv (458 : Int32) 458 458) (by decide) (by decide +kernel)) (nN k_2 (by decide : iv (458 : Int32) 458 458) (by decide +kernel))
        exact sX12_hears_J174__11 hS hx0 hx1 gx1 h_28
    · have h_29 := iv.w (c := 0) (e := 24) (lt_l (nle c_4) hy3 (rdN_rc hI.1 k_2 hx1 gx1)) (by decide)
      have h_30 := iv.w (c := 1) (e := 25) (lt_r (nle c_4) hy3 (rdN_rc hI.1 k_2 hx1 gx1)) (by decide)
      refine ok_gd (ixg (by decide : iv (555 : Int32) 555 555) (ln_55 hS k_2) (by decide)) ?_
      refine ok_if (fun c_31 => ?_) (fun c_31 => ?_)
      · have h_32 := iv.w (c := 0) (e := 1) (le_l c_31 (iv_lo (rdN_555 hI.1 k_2)) (by decide : iv (1 : Int32) 1 1)) (by decide)
        exact sX12_hears_J54__11 hS hx0 hx1 gx1 h_29 hI (iv.w h_32 (by decide)) hK4 (Nat.le_refl _)
      · have h_33 := iv.w (c := 2) (e := 2147483647) (lt_r (nle c_31) (by decide : iv (1 : Int32) 1 1) (iv_lo (rdN_555 hI.1 k_2))) (by decide)
        refine ok_cb (sX12_reportAt hS hx0 (iv.w (by decide : iv (1 : Int32) 1 1) (by decide)) (Int.lt_of_le_of_lt (by decide : iv (1 : Int32) 1 1).2 (Int.lt_of_lt_of_le (by decide) h_33.1)) hI.1) (fun u36 d34 r_34 => ?_)
        obtain ⟨rfl, h_36, x_36⟩ := r_34
        refine ok_gd (ixg (iv_add (l := 561) (h := 1677) (iv_add (l := 561) (h := 1653) hx1 (by decide : iv (3 : Int32) 3 3) (by decide)) h_29 (by decide)) (ln_55 hS k_2) (by decide)) ?_
        refine ok_cb (sX12_reportHas__11 hS hx0 h_36 x_36 hI.1) (fun u40 d38 r_37 => ?_)
        obtain ⟨rfl, h_39⟩ := r_37
        refine ok_if (fun c_40 => ?_) (fun c_40 => ?_)
        · have h_41 := iv.w (c := 0) (e := 0) (eq_l c_40 (by decide : iv (0 : Int32) 0 0)) (by decide)
          exact sX12_hears_J54__11 hS hx0 hx1 gx1 h_29 hI (iv.w h_33 (by decide)) hK4 (Nat.le_refl _)
        · have h_42 := iv.w (c := 1) (e := 1) (ne_lo c_40 h_39 (by decide : iv (0 : Int32) 0 0)) (by decide)
          exact sX12_hears_J55__11 hS hx0 hx1 gx1 h_29 (iv.w (by decide : iv (1 : Int32) 1 1) (by decide)) hI hK4 (Nat.le_refl _)
theorem sX12_hears__11 {g : Gs} (hS : Shp g) {b : Nat → Int} {x0 : Nat} (hx0 : cls x0 = 11) {x1 : Int32} (hx1 : iv x1 558 1650) (gx1 : x1.toInt % 28 = 26) {d : Ds} (hB : Bnd b d) : ok (fX12_hears 10000 g x0 x1 d) (fun u d' => Inv m_sX12_hears__11 b d d' ∧ True) := by
  have hI : Inv m_sX12_hears__11 b d d := Inv.rf hB
  unfold fX12_hears
  exact sX12_hears_L4__11 hS hx0 hx1 gx1 (iv.w (by decide : iv (0 : Int32) 0 0) (by decide)) hI
def m_sX12_reports__11 : Nat := 0x1000000000000000000000000000000000000000000000000000000000000000000000000000009400000000000000000000000000000000000000000000000000000000000000000000000000000000000000000000000000000000000000000000000000000000000000000000000000000000000000000000000000000000000000000000000000000000000000000000000000000000000000000000000000000000000000000000000000000000000000000000000000000000000000000000000000000000000000000000000000000000000000000000000000000000000000000000000000000000000000000000000000000000000000000000000000000000000000000000000000000000000000000000000000000000000000000000000000000000000000000000000000000000000000000000000000000000000000000000000000000000000000000000000000000000000000000000000000000000000000000000000000000000000000000000000000000000000000000000000000600000000000000000000000000000000000000000000000000000000000000000000000000000000000000000000000000000000000000000000000000000000000000000000000000000000000000000000000000000000000000
theorem sX12_reports_L97__11 {g : Gs} (hS : Shp g) {b B : Nat → Int} {d0 : Ds} {x0 : Nat} (hlb : LeB b B (336) 0) (hx0 : cls x0 = 11) {y1 : Int32} (hy1 : iv y1 (-2) 25) {y2 : Int32} (hy2 : iv y2 558 1650) (gy2 : y2.toInt % 28 = 26) {y3 : Int32} (hy3 : iv y3 0 25) {d : Ds} (hI : Inv m_sX12_reports__11 b d0 d) : ok (fX12_reports_L97 10000 g x0 (y1, y2, y3, d)) (fun u d' => Inv m_sX12_reports__11 B d0 d' ∧ True) := by
  unfold fX12_reports_L97
  refine ok_lp (fun a => (∃ b1, Inv m_sX12_reports__11 b1 d0 a.2.2.2 ∧ LeB b1 B (336) (0 * (((25 - a.2.2.1.toInt).toNat : Nat) : Int) + 0)) ∧ iv a.1 (-2) 25 ∧ iv a.2.1 558 1650 ∧ a.2.1.toInt % 28 = 26 ∧ iv a.2.2.1 0 25 ∧ True) (fun a => (25 - a.2.2.1.toInt).toNat) ?_ 10000 _ ⟨⟨b, hI, LeB.w hlb (by have h1 := hy3.1; have h2 := hy3.2; dsimp only; omega)⟩, hy1, hy2, gy2, hy3, trivial⟩ (ms_b hy3 (by decide))
  · rintro K97 ⟨y1, y2, y3, d⟩ ⟨⟨b1, hI, hlb⟩, hy1, hy2, gy2, hy3, -⟩ hK97
    (try dsimp only at hI hlb hy1 hy2 gy2 hy3 hK97 ⊢)
    unfold fX12_reports_B97
    refine ok_if (fun c_1 => ?_) (fun c_1 => ?_)
    · refine ok_gd (kd_11 hS hx0) ?_
      refine ok_cv (sX12_hears__11 hS hx0 hy2 gy2 hI.1) (fun d30 r_2 => ?_)
      obtain ⟨h_3, h_4⟩ := r_2
      have h_5 := Inv.call hI h_3 (by decide +kernel)
      exact ok_some ⟨(Inv.mono hlb.1 h_5), trivial⟩
    · have h_6 := iv.w (c := 0) (e := 24) (lt_l (nle c_1) hy3 hy1) (by decide)
      have h_7 := iv.w (c := 1) (e := 25) (lt_r (nle c_1) hy3 hy1) (by decide)
      refine ok_gd (kd_11 hS hx0) ?_
      obtain ⟨r33, e_8, k_9, k_9o⟩ := sh_11_17 hS hx0
      refine ok_ob e_8 ?_
      have u_10 := un_55 k_9
      subst u_10
      obtain ⟨r34, e_11, k_12⟩ := sh_11_27 hS hx0
      refine ok_ob e_11 ?_
      have u_13 := un_60 k_12
      subst u_13
      refine ok_gd (kd_60 hS k_12) ?_
      refine ok_gd (ixg h_6 (ln_60 hS k_12) (by decide)) ?_
      refine ok_gd (kd_55 hS k_9) ?_
      refine ok_gd (ixg (iv_add (l := 561) (h := 1677) (iv_add (l := 561) (h := 1653) hy2 (by decide : iv (3 : Int32) 3 3) (by decide)) h_6 (by decide)) (ln_55 hS k_9) (by decide)) ?_
      refine ok_bd (fun d39 e_14 => ?_)
      have h_15 := Inv.set e_14 hI (by rw [k_9]; exact (okN_r3 hy2 gy2 h_6)) (mN (n := 11) k_9 (iv_add (l := 561) (h := 1677) (iv_add (l := 561) (h := 1653) hy2 (by decide : iv (3 : Int32) 3 3) (by decide)) h_6 (by decide)) (by decide) (by decide +kernel)) (nN k_9 (iv_add (l := 561) (h := 1677) (iv_add (l := 561) (h := 1653) hy2 (by decide : iv (3 : Int32) 3 3) (by decide)) h_6 (by decide)) (by decide +kernel))
      refine ok_bd (fun u40 e_16 => ?_)
      have h_17 := iv_e e_16 (iv_add (l := 1) (h := 25) h_6 (by decide : iv (1 : Int32) 1 1) (by decide))
      exact hK97 _ ⟨⟨_, h_15, LeB.w hlb (by have h3 := (ms_up (H := 25) e_16 h_6 (by decide : iv (1 : Int32) 1 1) (by decide)); have h4 : 0 ≤ (0 : Int) := Int.le_refl _; dsimp only at h3 ⊢; omega)⟩, (iv.w h_7 (by decide)), hy2, gy2, (iv.w h_17 (by decide)), trivial⟩ (ms_up (H := 25) e_16 h_6 (by decide : iv (1 : Int32) 1 1) (by decide))
theorem sX12_reports_J32__11 {g : Gs} (hS : Shp g) {b B : Nat → Int} {d0 : Ds} {x0 : Nat} (hlb : LeB b B (336) 1) (hx0 : cls x0 = 11) {z0 : Int32} (hz0 : iv z0 (-2) 25) {d : Ds} (hI : Inv m_sX12_reports__11 b d0 d) : ok (fX12_reports_J32 10000 g x0 z0 d) (fun u d' => Inv m_sX12_reports__11 B d0 d' ∧ True) := by
  unfold fX12_reports_J32
  refine ok_gd (kd_11 hS hx0) ?_
  refine ok_cb (sX12_isLatest__11 hS hx0 hz0 hI.1) (fun u12 d10 r_1 => ?_)
  obtain ⟨rfl, h_3⟩ := r_1
  refine ok_if (fun c_4 => ?_) (fun c_4 => ?_)
  · have h_5 := iv.w (c := 0) (e := 0) (eq_l c_4 (by decide : iv (0 : Int32) 0 0)) (by decide)
    obtain ⟨r14, e_6, k_7, k_7o⟩ := sh_11_17 hS hx0
    refine ok_ob e_6 ?_
    have u_8 := un_55 k_7
    subst u_8
    refine ok_gd (kd_55 hS k_7) ?_
    refine ok_gd (ixg (by decide : iv (555 : Int32) 555 555) (ln_55 hS k_7) (by decide)) ?_
    refine ok_bd (fun d17 e_9 => ?_)
    have c_12 := rdN_555 hI.1 k_7
    have lb_11 := LeB.rest (k' := 1) hlb (by omega)
    have h_13 := Inv.mono (bp_le (o := 336) (k := 1) (by decide)) hI
    have h_10 := Inv.set e_9 h_13 (by rw [k_7]; exact (okN_555 (cnt_w5 c_12 (by decide +kernel) hlb))) (mN (n := 8) k_7 (by decide : iv (555 : Int32) 555 555) (by decide) (by decide +kernel)) (nN k_7 (by decide : iv (555 : Int32) 555 555) (by decide +kernel))
    refine ok_cb (sX12_reportAt hS hx0 (iv.w (by decide : iv (0 : Int32) 0 0) (by decide)) (Int.lt_of_le_of_lt (by decide : iv (0 : Int32) 0 0).2 (Int.lt_of_lt_of_le (by decide) (rd_at e_9 (iv_add (l := 1) (h := 2147480001) (cnt_hi (rdN_555 h_13.1 k_7) (by decide +kernel) lb_11) (by decide : iv (1 : Int32) 1 1) (by decide))).1)) h_10.1) (fun u20 d18 r_14 => ?_)
    obtain ⟨rfl, h_16, x_16⟩ := r_14
    refine ok_gd (ixg (by decide : iv (354 : Int32) 354 354) (ln_55 hS k_7) (by decide)) ?_
    refine ok_gd (ixg h_16 (ln_55 hS k_7) (by decide)) ?_
    refine ok_bd (fun d23 e_17 => ?_)
    have h_18 := Inv.set e_17 h_10 (by rw [k_7]; exact (okN_r0 h_16 x_16)) (mN (n := 11) k_7 h_16 (by decide) (by decide +kernel)) (nN k_7 h_16 (by decide +kernel))
    refine ok_gd (ixg (iv_add (l := 559) (h := 1651) h_16 (by decide : iv (1 : Int32) 1 1) (by decide)) (ln_55 hS k_7) (by decide)) ?_
    refine ok_bd (fun d25 e_19 => ?_)
    have h_20 := Inv.set e_19 h_18 (by rw [k_7]; exact (okN_r1 h_16 x_16)) (mN (n := 11) k_7 (iv_add (l := 559) (h := 1651) h_16 (by decide : iv (1 : Int32) 1 1) (by decide)) (by decide) (by decide +kernel)) (nN k_7 (iv_add (l := 559) (h := 1651) h_16 (by decide : iv (1 : Int32) 1 1) (by decide)) (by decide +kernel))
    refine ok_gd (ixg (iv_add (l := 560) (h := 1652) h_16 (by decide : iv (2 : Int32) 2 2) (by decide)) (ln_55 hS k_7) (by decide)) ?_
    refine ok_bd (fun d27 e_21 => ?_)
    have h_22 := Inv.set e_21 h_20 (by rw [k_7]; exact (okN_r2 h_16 x_16 hz0)) (mN (n := 11) k_7 (iv_add (l := 560) (h := 1652) h_16 (by decide : iv (2 : Int32) 2 2) (by decide)) (by decide) (by decide +kernel)) (nN k_7 (iv_add (l := 560) (h := 1652) h_16 (by decide : iv (2 : Int32) 2 2) (by decide)) (by decide +kernel))
    exact sX12_reports_L97__11 hS (LeB.w (k' := 0) lb_11 (by omega)) hx0 hz0 h_16 x_16 (iv.w (by decide : iv (0 : Int32) 0 0) (by decide)) h_22
  · have h_23 := iv.w (c := 1) (e := 1) (ne_lo c_4 h_3 (by decide : iv (0 : Int32) 0 0)) (by decide)
    exact ok_some ⟨(Inv.mono hlb.1 hI), trivial⟩
theorem sX12_reports_J28__11 {g : Gs} (hS : Shp g) {b B : Nat → Int} {d0 : Ds} {x0 : Nat} (hlb : LeB b B (336) 1) (hx0 : cls x0 = 11) {d : Ds} (hI : Inv m_sX12_reports__11 b d0 d) : ok (fX12_reports_J28 10000 g x0 d) (fun u d' => Inv m_sX12_reports__11 B d0 d' ∧ True) := by
  unfold fX12_reports_J28
  refine ok_gd (kd_11 hS hx0) ?_
  exact sX12_reports_J32__11 hS (LeB.w (k' := 1) hlb (by omega)) hx0 (iv.w (rd_11_26 hI.1 hx0) (by decide)) hI
theorem sX12_reports__11 {g : Gs} (hS : Shp g) {b B : Nat → Int} {x0 : Nat} (hlb : LeB b B (336) 1) (hx0 : cls x0 = 11) {d : Ds} (hB : Bnd b d) : ok (fX12_reports 10000 g x0 d) (fun u d' => Inv m_sX12_reports__11 B d d' ∧ True) := by
  have hI : Inv m_sX12_reports__11 b d d := Inv.rf hB
  unfold fX12_reports
  refine ok_gd (kd_11 hS hx0) ?_
  refine ok_cv (sX12_laysSent__11 hS hx0 hI.1) (fun d2 r_1 => ?_)
  obtain ⟨h_2, h_3⟩ := r_1
  have h_4 := Inv.call hI h_2 (by decide +kernel)
  obtain ⟨r4, e_5, k_6, k_6o⟩ := sh_11_17 hS hx0
  refine ok_ob e_5 ?_
  have u_7 := un_55 k_6
  subst u_7
  refine ok_gd (kd_55 hS k_6) ?_
  refine ok_gd (ixg (by decide : iv (3 : Int32) 3 3) (ln_55 hS k_6) (by decide)) ?_
  refine ok_if (fun c_8 => ?_) (fun c_8 => ?_)
  · have h_9 := iv.w (c := 1) (e := 1) (eq_l c_8 (by decide : iv (1 : Int32) 1 1)) (by decide)
    refine ok_if (fun c_10 => ?_) (fun c_10 => ?_)
    · have h_11 := iv.w (c := 0) (e := 6) (le_l c_10 (rd_11_26 h_4.1 hx0) (by decide : iv (6 : Int32) 6 6)) (by decide)
      exact sX12_reports_J28__11 hS (LeB.w (k' := 1) hlb (by omega)) hx0 h_4
    · have h_12 := iv.w (c := 7) (e := 25) (lt_r (nle c_10) (by decide : iv (6 : Int32) 6 6) (rd_11_26 h_4.1 hx0)) (by decide)
      exact sX12_reports_J32__11 hS (LeB.w (k' := 1) hlb (by omega)) hx0 (iv.w (by decide : iv ((-2) : Int32) (-2) (-2)) (by decide)) h_4
  · exact sX12_reports_J28__11 hS (LeB.w (k' := 1) hlb (by omega)) hx0 h_4
def m_sX12_begin__11 : Nat := 0x200000000000000000000000000000000000000000000000000000000000000000000000000000000000000000000000000000000000000000000000000000000000000000000000000000000000000000000000000000000000000000000000000000000000000000000000000000000000000000000000000000000000000000000000000000000000000000000000000000000000000000000000000000000000000000000000000000000000000000000000000000000000000000000000000000000000000000000000000000000000000000000000000000000000000000000000000000000000000000000000000000000000000000000000000000000000000000000000000000000000000000000000000000000000000000000000000000000000000000000000000000000000000000000000000000000000000000000000000000000000000000000000000000000000000000000000000000000000000000000000000000000000000000000000000000000000000000000000000000000000000000000000000000000000000000000000000000000000000000000000000000000000000000000000000000000000000000
theorem sX12_begin__11 {g : Gs} (hS : Shp g) {b : Nat → Int} {x0 : Nat} (hx0 : cls x0 = 11) {x1 : Int32} (hx1 : iv x1 0 23) {x2 : Int32} {x3 : Int32} {d : Ds} (hB : Bnd b d) : ok (fX12_begin 10000 g x0 x1 x2 x3 d) (fun u d' => Inv m_sX12_begin__11 b d d' ∧ True) := by
  have hI : Inv m_sX12_begin__11 b d d := Inv.rf hB
  unfold fX12_begin
  refine ok_gd (kd_11 hS hx0) ?_
  obtain ⟨r2, e_1, k_2, k_2o⟩ := sh_11_17 hS hx0
  refine ok_ob e_1 ?_
  have u_3 := un_55 k_2
  subst u_3
  refine ok_gd (kd_55 hS k_2) ?_
  refine ok_gd (ixg (iv_add (l := 379) (h := 448) (by decide : iv (379 : Int32) 379 379) (iv_mul (l := 0) (h := 69) (by decide : iv (3 : Int32) 3 3) hx1 (by decide)) (by decide)) (ln_55 hS k_2) (by decide)) ?_
  refine ok_bd (fun d5 e_4 => ?_)
  have h_5 := Inv.set e_4 hI (by rw [k_2]; exact (okN_b (iv_add (l := 379) (h := 448) (by decide : iv (379 : Int32) 379 379) (iv_mul (l := 0) (h := 69) (by decide : iv (3 : Int32) 3 3) hx1 (by decide)) (by decide)) (by decide))) (mN (n := 5) k_2 (iv_add (l := 379) (h := 448) (by decide : iv (379 : Int32) 379 379) (iv_mul (l := 0) (h := 69) (by decide : iv (3 : Int32) 3 3) hx1 (by decide)) (by decide)) (by decide) (by decide +kernel)) (nN k_2 (iv_add (l := 379) (h := 448) (by decide : iv (379 : Int32) 379 379) (iv_mul (l := 0) (h := 69) (by decide : iv (3 : Int32) 3 3) hx1 (by decide)) (by decide)) (by decide +kernel))
  refine ok_gd (ixg (iv_add (l := 380) (h := 449) (iv_add (l := 379) (h := 448) (by decide : iv (379 : Int32) 379 379) (iv_mul (l := 0) (h := 69) (by decide : iv (3 : Int32) 3 3) hx1 (by decide)) (by decide)) (by decide : iv (1 : Int32) 1 1) (by decide)) (ln_55 hS k_2) (by decide)) ?_
  refine ok_bd (fun d7 e_6 => ?_)
  have h_7 := Inv.set e_6 h_5 (by rw [k_2]; exact (okN_b (iv_add (l := 380) (h := 449) (iv_add (l := 379) (h := 448) (by decide : iv (379 : Int32) 379 379) (iv_mul (l := 0) (h := 69) (by decide : iv (3 : Int32) 3 3) hx1 (by decide)) (by decide)) (by decide : iv (1 : Int32) 1 1) (by decide)) (by decide))) (mN (n := 5) k_2 (iv_add (l := 380) (h := 449) (iv_add (l := 379) (h := 448) (by decide : iv (379 : Int32) 379 379) (iv_mul (l := 0) (h := 69) (by decide : iv (3 : Int32) 3 3) hx1 (by decide)) (by decide)) (by decide : iv (1 : Int32) 1 1) (by decide)) (by decide) (by decide +kernel)) (nN k_2 (iv_add (l := 380) (h := 449) (iv_add (l := 379) (h := 448) (by decide : iv (379 : Int32) 379 379) (iv_mul (l := 0) (h := 69) (by decide : iv (3 : Int32) 3 3) hx1 (by decide)) (by decide)) (by decide : iv (1 : Int32) 1 1) (by decide)) (by decide +kernel))
  refine ok_gd (ixg (by decide : iv (451 : Int32) 451 451) (ln_55 hS k_2) (by decide)) ?_
  refine ok_gd (ixg (iv_add (l := 381) (h := 450) (iv_add (l := 379) (h := 448) (by decide : iv (379 : Int32) 379 379) (iv_mul (l := 0) (h := 69) (by decide : iv (3 : Int32) 3 3) hx1 (by decide)) (by decide)) (by decide : iv (2 : Int32) 2 2) (by decide)) (ln_55 hS k_2) (by decide)) ?_
  refine ok_bd (fun d10 e_8 => ?_)
  have h_9 := Inv.set e_8 h_7 (by rw [k_2]; exact (okN_b (iv_add (l := 381) (h := 450) (iv_add (l := 379) (h := 448) (by decide : iv (379 : Int32) 379 379) (iv_mul (l := 0) (h := 69) (by decide : iv (3 : Int32) 3 3) hx1 (by decide)) (by decide)) (by decide : iv (2 : Int32) 2 2) (by decide)) (by decide))) (mN (n := 5) k_2 (iv_add (l := 381) (h := 450) (iv_add (l := 379) (h := 448) (by decide : iv (379 : Int32) 379 379) (iv_mul (l := 0) (h := 69) (by decide : iv (3 : Int32) 3 3) hx1 (by decide)) (by decide)) (by decide : iv (2 : Int32) 2 2) (by decide)) (by decide) (by decide +kernel)) (nN k_2 (iv_add (l := 381) (h := 450) (iv_add (l := 379) (h := 448) (by decide : iv (379 : Int32) 379 379) (iv_mul (l := 0) (h := 69) (by decide : iv (3 : Int32) 3 3) hx1 (by decide)) (by decide)) (by decide : iv (2 : Int32) 2 2) (by decide)) (by decide +kernel))
  refine ok_bd (fun d11 e_10 => ?_)
  have h_11 := Inv.set e_10 h_9 (by rw [k_2]; exact (okN_b (by decide : iv (451 : Int32) 451 451) (by decide))) (mN (n := 5) k_2 (by decide : iv (451 : Int32) 451 451) (by decide) (by decide +kernel)) (nN k_2 (by decide : iv (451 : Int32) 451 451) (by decide +kernel))
  exact ok_some ⟨h_11, trivial⟩
def m_sX12_plays__11 : Nat := 0x1000000000000000000000000000000000000000000000000000000000000000000000000000009600000000000000000000000000000000000000000000000000000000000000000000000000000000000000000000000000000000000000000000000000000000000000000000000000000000000000000000000000000000000000000000000000000000000000000000000000000000000000000000000000000000000000000000000000000000000000000000000000000000000000000000000000000000000000000000000000000000000000000000000000000000000000000000000000000000000000000000000000000000000000000000000000000000000000000000000000000000000000000000000000000000000000000000000000000000000000000000000000000000000000000000000000000000000000000000000000000000000000000000000000000000000000000000000000000000000000000000000000000000000000000000000000000000000000000000000000600000000000000000000000000000000000000000000000000000000000000000000000000000000000000000000000000000000000000000000000000000000000000000000000000000000000000000000000000000000000000
-- by hand
-- by hand
def m_sX12_chords__11 : Nat := 0x1000000000000000000000000000000000000000000000000000000000000000000000000000009600000000000000000000000000000000000000000000000000000000000000000000000000000000000000000000000000000000000000000000000000000000000000000000000000000000000000000000000000000000000000000000000000000000000000000000000000000000000000000000000000000000000000000000000000000000000000000000000000000000000000000000000000000000000000000000000000000000000000000000000000000000000000000000000000000000000000000000000000000000000000000000000000000000000000000000000000000000000000000000000000000000000000000000000000000000000000000000000000000000000000000000000000000000000000000000000000000000000000000000000000000000000000000000000000000000000000000000000000000000000000000000000000000000000000000000000000600000000000000000000000000000000000000000000000000000000000000000000000000000000000000000000000000000000000000000000000000000000000000000000000000000000000000000000000000000000000000
-- by hand
def m_sX12_doesPlainly__11 : Nat := 0x1000000000000000000000000000000000000000000000000000000000000000000000000000009600000000000000000000000000000000000000000000000000000000000000000000000000000000000000000000000000000000000000000000000000000000000000000000000000000000000000000000000000000000000000000000000000000000000000000000000000000000000000000000000000000000000000000000000000000000000000000000000000000000000000000000000000000000000000000000000000000000000000000000000000000000000000000000000000000000000000000000000000000000000000000000000000000000000000000000000000000000000000000000000000000000000000000000000000000000000000000000000000000000000000000000000000000000000000000000000000000000000000000000000000000000000000000000000000000000000000000000000000000000000000000000000000000000000000000000000000600000000000000000000000000000000000000000000000000000000000000000000000000000000000000000000000000000000000000000000000000000000000000000000000000000000000000000000000000000000000000
-- by hand
-- by hand
-- by hand
-- by hand
def m_sX12_dropsTwo__11 : Nat := 0x14000000000000000000000000000000000000000000000000000000000000000000000000000000000000000000000000000000000000000000000000000000000000000000000000000000000000000000000000000000000000000000000000000000000000000000000000000000000000000000000000000000000000000000000000000000000000000000000000000000000000000000000000000000000000000000000000000000000000000000000000000000000000000000000000000000000000000000000000000000000000000000000000000000000000000000000000000000000000000000000000000000000000000000000000000000000000000000000000000000000000000000000000000000000000000000000000000000000000000000000000000000000000000000000000000000000000000000000000000000000000000000000000000000000000000000000000000000000000000000000000000000000000000000000000000000000000000000000000000000000000000000000000000000000000000000000000000000000000000000000000000000000000000000000000000000000000000000
-- by hand
-- by hand
-- by hand
-- by hand
-- by hand
theorem sX12_activeLayers_J54__11 {g : Gs} (hS : Shp g) {b : Nat → Int} {x0 : Nat} (hx0 : cls x0 = 11) {y1 : Int32} {y2 : Int32} (hy2 : iv y2 0 23) {d : Ds} (hB : Bnd b d) {K13 : Int32 × Int32 × Ds → Option (Int32 × Ds)} {μ13 : Nat} (hK13 : ∀ a, a.2.2 = d ∧ iv a.2.1 0 24 ∧ True → (24 - a.2.1.toInt).toNat < μ13 → ok (K13 a) (fun u d' => d' = d ∧ True)) (hm13 : (24 - y2.toInt).toNat ≤ μ13) : ok (fX12_activeLayers_J54 10000 g x0 K13 y1 y2 d) (fun u d' => d' = d ∧ True) := by
  unfold fX12_activeLayers_J54
  refine ok_bd (fun u12 e_1 => ?_)
  have h_2 := iv_e e_1 (iv_add (l := 1) (h := 24) hy2 (by decide : iv (1 : Int32) 1 1) (by decide))
  exact hK13 _ ⟨rfl, (iv.w h_2 (by decide)), trivial⟩ (Nat.lt_of_lt_of_le (ms_up (H := 24) e_1 hy2 (by decide : iv (1 : Int32) 1 1) (by decide)) hm13)
theorem sX12_activeLayers_L13__11 {g : Gs} (hS : Shp g) {b : Nat → Int} {x0 : Nat} (hx0 : cls x0 = 11) {y1 : Int32} {y2 : Int32} (hy2 : iv y2 0 24) {d : Ds} (hB : Bnd b d) : ok (fX12_activeLayers_L13 10000 g x0 (y1, y2, d)) (fun u d' => d' = d ∧ True) := by
  unfold fX12_activeLayers_L13
  refine ok_lp (fun a => a.2.2 = d ∧ iv a.2.1 0 24 ∧ True) (fun a => (24 - a.2.1.toInt).toNat) ?_ 10000 _ ⟨rfl, hy2, trivial⟩ (ms_b hy2 (by decide))
  · rintro K13 ⟨y1, y2, d⟩ ⟨rfl, hy2, -⟩ hK13
    (try dsimp only at hy2 hK13 ⊢)
    unfold fX12_activeLayers_B13
    refine ok_if (fun c_1 => ?_) (fun c_1 => ?_)
    · have h_2 := iv.w (c := 24) (e := 24) (le_r c_1 (by decide : iv (24 : Int32) 24 24) hy2) (by decide)
      exact ok_some ⟨rfl, trivial⟩
    · have h_3 := iv.w (c := 0) (e := 23) (lt_l (nle c_1) hy2 (by decide : iv (24 : Int32) 24 24)) (by decide)
      refine ok_gd (kd_11 hS hx0) ?_
      obtain ⟨r8, e_4, k_5, k_5o⟩ := sh_11_17 hS hx0
      refine ok_ob e_4 ?_
      have u_6 := un_55 k_5
      subst u_6
      refine ok_gd (kd_55 hS k_5) ?_
      refine ok_gd (ixg (iv_add (l := 379) (h := 448) (by decide : iv (379 : Int32) 379 379) (iv_mul (l := 0) (h := 69) (by decide : iv (3 : Int32) 3 3) h_3 (by decide)) (by decide)) (ln_55 hS k_5) (by decide)) ?_
      refine ok_if (fun c_7 => ?_) (fun c_7 => ?_)
      · have h_8 := iv.w (c := 2) (e := 2) (eq_l c_7 (by decide : iv (2 : Int32) 2 2)) (by decide)
        refine ok_gd (ixg (iv_add (l := 380) (h := 449) (iv_add (l := 379) (h := 448) (by decide : iv (379 : Int32) 379 379) (iv_mul (l := 0) (h := 69) (by decide : iv (3 : Int32) 3 3) h_3 (by decide)) (by decide)) (by decide : iv (1 : Int32) 1 1) (by decide)) (ln_55 hS k_5) (by decide)) ?_
        refine ok_bd (fun u14 e_9 => ?_)
        refine ok_bd (fun u15 e_11 => ?_)
        exact sX12_activeLayers_J54__11 hS hx0 h_3 hB hK13 (Nat.le_refl _)
      · exact sX12_activeLayers_J54__11 hS hx0 h_3 hB hK13 (Nat.le_refl _)
theorem sX12_activeLayers__11 {g : Gs} (hS : Shp g) {b : Nat → Int} {x0 : Nat} (hx0 : cls x0 = 11) {d : Ds} (hB : Bnd b d) : ok (fX12_activeLayers 10000 g x0 d) (fun u d' => d' = d ∧ True) := by
  unfold fX12_activeLayers
  refine ok_gd (kd_11 hS hx0) ?_
  obtain ⟨r2, e_1, k_2, k_2o⟩ := sh_11_17 hS hx0
  refine ok_ob e_1 ?_
  have u_3 := un_55 k_2
  subst u_3
  refine ok_gd (kd_55 hS k_2) ?_
  refine ok_gd (ixg (by decide : iv (452 : Int32) 452 452) (ln_55 hS k_2) (by decide)) ?_
  refine ok_bd (fun u5 e_4 => ?_)
  exact sX12_activeLayers_L13__11 hS hx0 (iv.w (by decide : iv (0 : Int32) 0 0) (by decide)) hB
theorem sX12_layerOf_J41__11 {g : Gs} (hS : Shp g) {b : Nat → Int} {x0 : Nat} (hx0 : cls x0 = 11) {x1 : Int32} (hx1 : iv x1 0 23) {y2 : Int32} {y3 : Int32} (hy3 : iv y3 1 3) {d : Ds} (hB : Bnd b d) {K7 : Int32 × Int32 × Ds → Option (Int32 × Ds)} {μ7 : Nat} (hK7 : ∀ a, a.2.2 = d ∧ iv a.2.1 0 3 ∧ True → (a.2.1.toInt - 0).toNat < μ7 → ok (K7 a) (fun u d' => d' = d ∧ iv u 0 3)) (hm7 : (y3.toInt - 0).toNat ≤ μ7) : ok (fX12_layerOf_J41 10000 g x0 x1 K7 y2 y3 d) (fun u d' => d' = d ∧ iv u 0 3) := by
  unfold fX12_layerOf_J41
  refine ok_bd (fun u10 e_1 => ?_)
  have h_2 := iv_e e_1 (iv_add (l := 0) (h := 2) hy3 (by decide : iv ((-1) : Int32) (-1) (-1)) (by decide))
  exact hK7 _ ⟨rfl, (iv.w h_2 (by decide)), trivial⟩ (Nat.lt_of_lt_of_le (ms_dn (H := 0) e_1 hy3 (by decide : iv ((-1) : Int32) (-1) (-1)) (by decide)) hm7)
theorem sX12_layerOf_L7__11 {g : Gs} (hS : Shp g) {b : Nat → Int} {x0 : Nat} (hx0 : cls x0 = 11) {x1 : Int32} (hx1 : iv x1 0 23) {y2 : Int32} {y3 : Int32} (hy3 : iv y3 0 3) {d : Ds} (hB : Bnd b d) : ok (fX12_layerOf_L7 10000 g x0 x1 (y2, y3, d)) (fun u d' => d' = d ∧ iv u 0 3) := by
  unfold fX12_layerOf_L7
  refine ok_lp (fun a => a.2.2 = d ∧ iv a.2.1 0 3 ∧ True) (fun a => (a.2.1.toInt - 0).toNat) ?_ 10000 _ ⟨rfl, hy3, trivial⟩ (ms_c hy3 (by decide))
  · rintro K7 ⟨y2, y3, d⟩ ⟨rfl, hy3, -⟩ hK7
    (try dsimp only at hy3 hK7 ⊢)
    unfold fX12_layerOf_B7
    refine ok_if (fun c_1 => ?_) (fun c_1 => ?_)
    · have h_2 := iv.w (c := 0) (e := 0) (le_l c_1 hy3 (by decide : iv (0 : Int32) 0 0)) (by decide)
      exact ok_some ⟨rfl, (iv.w (by decide : iv (0 : Int32) 0 0) (by decide))⟩
    · have h_3 := iv.w (c := 1) (e := 3) (lt_r (nle c_1) (by decide : iv (0 : Int32) 0 0) hy3) (by decide)
      refine ok_cb (sX12_has hS hB) ?_
      rintro _ _ ⟨rfl, ⟨rfl, c_4⟩ | ⟨rfl, c_5⟩⟩
      · have h_6 := iv.w (c := 1) (e := 1) (eq_l c_4 (by decide : iv (1 : Int32) 1 1)) (by decide)
        refine ok_if (fun c_7 => ?_) (fun c_7 => ?_)
        · exact (eq_no c_7 (by decide : iv (1 : Int32) 1 1) (by decide : iv (0 : Int32) 0 0) (by decide))
        · refine ok_gd (kd_11 hS hx0) ?_
          obtain ⟨r12, e_8, k_9, k_9o⟩ := sh_11_17 hS hx0
          refine ok_ob e_8 ?_
          have u_10 := un_55 k_9
          subst u_10
          refine ok_gd (kd_55 hS k_9) ?_
          refine ok_gd (ixg (iv_add (l := 84) (h := 297) (by decide : iv (12 : Int32) 12 12) (iv_mul (l := 72) (h := 285) (by decide : iv (3 : Int32) 3 3) (iv_add (l := 24) (h := 95) (iv_mul (l := 24) (h := 72) (by decide : iv (24 : Int32) 24 24) h_3 (by decide)) hx1 (by decide)) (by decide)) (by decide)) (ln_55 hS k_9) (by decide)) ?_
          refine ok_if (fun c_11 => ?_) (fun c_11 => ?_)
          · have h_12 := iv.w (c := 5) (e := 5) (eq_l c_11 (by decide : iv (5 : Int32) 5 5)) (by decide)
            exact sX12_layerOf_J41__11 hS hx0 hx1 h_3 hB hK7 (Nat.le_refl _)
          · exact ok_some ⟨rfl, (iv.w h_3 (by decide))⟩
      · have h_13 := iv.w (c := 0) (e := 0) (ne_hi c_5 (iv_and (by decide : iv (1 : Int32) 1 1) (by decide)) (by decide : iv (1 : Int32) 1 1)) (by decide)
        refine ok_if (fun c_14 => ?_) (fun c_14 => ?_)
        · exact sX12_layerOf_J41__11 hS hx0 hx1 h_3 hB hK7 (Nat.le_refl _)
        · exact (ne_no c_14 (by decide : iv (0 : Int32) 0 0) (by decide : iv (0 : Int32) 0 0))
theorem sX12_layerOf__11 {g : Gs} (hS : Shp g) {b : Nat → Int} {x0 : Nat} (hx0 : cls x0 = 11) {x1 : Int32} (hx1 : iv x1 0 23) {d : Ds} (hB : Bnd b d) : ok (fX12_layerOf 10000 g x0 x1 d) (fun u d' => d' = d ∧ iv u 0 3) := by
  unfold fX12_layerOf
  refine ok_gd (kd_11 hS hx0) ?_
  refine ok_cb (sX12_activeLayers__11 hS hx0 hB) (fun u4 d2 r_1 => ?_)
  obtain ⟨rfl, h_3⟩ := r_1
  exact sX12_layerOf_L7__11 hS hx0 hx1 (iv.w (by decide : iv (3 : Int32) 3 3) (by decide)) hB
-- by hand
-- by hand
-- by hand
-- by hand
def m_sX12_worksAlone__11 : Nat := 0x100000000000000000000000000000000000000000000000000000000000000000000000000001d600000000000000000000000000000000000000000000000000000000000000000000000000000000000000000000000000000000000000000000000000000000000000000000000000000000000000000000000000000000000000000000000000000000000000000000000000000000000000000000000000000000000000000000000000000000000000000000000000000000000000000000000000000000000000000000000000000000000000000000000000000000000000000000000000000000000000000000000000000000000000000000000000000000000000000000000000000000000000000000000000000000000000000000000000000000000000000000000000000000000000000000000000000000000000000000000000000000000000000000000000000000000000000000000000000000000000000000000000000000000000000000000000000000000000000000000000600000000000000000000000000000000000000000000000000000000000000000000000000000000000000000000000000000000000000000000000000000000000000000000000000000000000000000000000000000000000000
-- by hand
-- by hand
-- by hand
-- by hand
-- by hand
-- by hand
-- by hand
-- by hand
-- by hand
-- by hand
-- by hand
def m_sX12_works__11 : Nat := 0x100000000000000000000000000000000000000000000000000000000000000000000000000001d600000000000000000000000000000000000000000000000000000000000000000000000000000000000000000000000000000000000000000000000000000000000000000000000000000000000000000000000000000000000000000000000000000000000000000000000000000000000000000000000000000000000000000000000000000000000000000000000000000000000000000000000000000000000000000000000000000000000000000000000000000000000000000000000000000000000000000000000000000000000000000000000000000000000000000000000000000000000000000000000000000000000000000000000000000000000000000000000000000000000000000000000000000000000000000000000000000000000000000000000000000000000000000000000000000000000000000000000000000000000000000000000000000000000000000000000000600000000000000000000000000000000000000000000000000000000000000000000000000000000000000000000000000000000000000000000000000000000000000000000000000000000000000000000000000000000000000
-- by hand
-- by hand
-- by hand
-- by hand
-- by hand
def dropE (d d' : Ds) (a : Nat) : Prop := qQ d' = qQ d - 1 ∧ ∀ j, j ≠ 557 → dI d' 336 j = if 1678 + 3 * a ≤ j ∧ j < 1678 + 3 * ((qQ d).toNat - 1) then dI d 336 (j + 3) else dI d 336 j
theorem sX12_drops_c {g : Gs} (hS : Shp g) {b : Nat → Int} {x0 : Nat} (hx0 : cls x0 = 11) {x1 : Int32} {d : Ds} (h0 : 0 ≤ x1.toInt) (h1 : x1.toInt < qQ d) (hB : Bnd b d) : ok (fX12_drops 10000 g x0 x1 d) (fun u d' => Inv m_sX12_drops__11 b d d' ∧ dropE d d' x1.toInt.toNat) := by
  have hQ := qQ_iv hB
  have hq2 : qQ d ≤ 2500 := hQ.2
  have hx1 : iv x1 0 2499 := ⟨h0, by omega⟩
  have e557 : (557 : Int32).toNatClampNeg = 557 := by decide
  obtain ⟨z1, -, -, -⟩ := qx_ix hx1
  unfold fX12_drops
  refine ok_bd (fun u1 e1 => ?_)
  unfold fX12_drops_L8
  refine ok_lp (fun a => Inv m_sX12_drops__11 b d a.2 ∧ qQ a.2 = qQ d ∧ 1678 + 3 * x1.toInt ≤ a.1.toInt ∧ a.1.toInt ≤ 1675 + 3 * qQ d ∧ ∀ j, dI a.2 336 j = if 1678 + 3 * x1.toInt.toNat ≤ j ∧ (j : Int) < a.1.toInt then dI d 336 (j + 3) else dI d 336 j) (fun a => (9178 - a.1.toInt).toNat) ?_ 10000 _ ⟨Inv.rf hB, rfl, by dsimp only; rw [e1, z1]; omega, by dsimp only; rw [e1, z1]; omega, fun j => by dsimp only; rw [e1, z1, if_neg (by omega)]⟩ (by dsimp only; rw [e1, z1]; omega)
  rintro K8 ⟨y2, dd⟩ ⟨hI, hq, hy1, hy2, hv⟩ hK8
  dsimp only at hI hq hy1 hy2 hv hK8 ⊢
  unfold fX12_drops_B8
  refine ok_gd (kd_11 hS hx0) ?_
  refine ok_ob (mo_now hS hx0) ?_
  refine ok_gd (kd_55 hS now_55) ?_
  refine ok_gd (ixg (by decide : iv (557 : Int32) 557 557) (ln_55 hS now_55) (by decide)) ?_
  have q0 : (dI dd 336 (557 : Int32).toNatClampNeg).toInt = qQ d := by rw [e557]; exact hq
  have k1 := z_mul (x := (3 : Int32)) (y := dI dd 336 (557 : Int32).toNatClampNeg) (show (3 : Int32).toInt = 3 by decide) q0 (by omega) (by omega)
  have k2 := z_add (x := (1678 : Int32)) (y := (3 : Int32) * dI dd 336 (557 : Int32).toNatClampNeg) (show (1678 : Int32).toInt = 1678 by decide) k1 (by omega) (by omega)
  have k3 := z_sub (x := (1678 : Int32) + (3 : Int32) * dI dd 336 (557 : Int32).toNatClampNeg) (y := 3) k2 (show (3 : Int32).toInt = 3 by decide) (by omega) (by omega)
  refine ok_if (fun c => ?_) (fun c => ?_)
  · have c2 := Int32.le_iff_toInt_le.mp c
    rw [k3] at c2
    refine ok_bd (fun d7 e7 => ?_)
    have k4 := z_sub (x := dI dd 336 (557 : Int32).toNatClampNeg) (y := 1) q0 (show (1 : Int32).toInt = 1 by decide) (by omega) (by omega)
    have h7 := Inv.set e7 hI (by rw [now_55]; exact okN_557 ⟨by rw [k4]; omega, by rw [k4]; omega⟩) (mN (n := 10) now_55 (by decide : iv (557 : Int32) 557 557) (by decide) (by decide +kernel)) (nN now_55 (by decide : iv (557 : Int32) 557 557) (by decide +kernel))
    refine ok_some ⟨h7, ?_, fun j hj => ?_⟩
    · unfold qQ
      rw [e7, sI_rd, if_pos ⟨rfl, e557.symm⟩, k4]
      rfl
    · rw [e7, sI_rd, if_neg (fun z => hj (z.2.trans e557)), hv]
      by_cases hc : 1678 + 3 * x1.toInt.toNat ≤ j ∧ (j : Int) < y2.toInt
      · rw [if_pos hc, if_pos ⟨hc.1, by omega⟩]
      · rw [if_neg hc, if_neg (fun z => hc ⟨z.1, by omega⟩)]
  · have c2 := Int32.lt_iff_toInt_lt.mp (nle c)
    rw [k3] at c2
    have hy : iv y2 1678 9174 := ⟨by omega, by omega⟩
    have k5 := z_add (x := y2) (y := 3) rfl (show (3 : Int32).toInt = 3 by decide) (by omega) (by omega)
    have k6 : (y2 + 3).toNatClampNeg = y2.toNatClampNeg + 3 := by
      show (y2 + 3).toInt.toNat = y2.toInt.toNat + 3
      rw [k5]; omega
    have k7 := z_nat (x := y2) (by omega)
    refine ok_gd (ixg (iv_add (l := 1681) (h := 9177) hy (by decide : iv (3 : Int32) 3 3) (by decide)) (ln_55 hS now_55) (by decide)) ?_
    refine ok_gd (ixg hy (ln_55 hS now_55) (by decide)) ?_
    refine ok_bd (fun d10 e10 => ?_)
    have h10 := Inv.set e10 hI (by rw [now_55]; exact okN_sh (by omega) (by rw [k6]; exact rd_q hI.1 (by omega))) (mN (n := 12) now_55 hy (by decide) (by decide +kernel)) (nN now_55 hy (by decide +kernel))
    refine ok_bd (fun u11 e11 => ?_)
    have k8 := z_add (x := y2) (y := 1) rfl (show (1 : Int32).toInt = 1 by decide) (by omega) (by omega)
    refine hK8 _ ⟨h10, ?_, by dsimp only; rw [e11, k8]; omega, by dsimp only; rw [e11, k8]; omega, fun j => ?_⟩ (by dsimp only; rw [e11, k8]; omega)
    · show (dI d10 336 557).toInt = qQ d
      rw [e10, sI_rd, if_neg (fun z => by have := z.2; omega)]
      exact hq
    · dsimp only
      rw [e11, k8, e10, sI_rd]
      by_cases hj : j = y2.toNatClampNeg
      · rw [if_pos ⟨rfl, hj⟩, k6, hv, if_neg (by omega), if_pos (by omega), hj]
      · rw [if_neg (fun z => hj z.2), hv]
        by_cases hc : 1678 + 3 * x1.toInt.toNat ≤ j ∧ (j : Int) < y2.toInt
        · rw [if_pos hc, if_pos (by omega)]
        · rw [if_neg hc, if_neg (by omega)]
/-! what holds of the queue -/
def dropF (f f' : Nat → Int32) (a : Nat) : Prop := fQ f' = fQ f - 1 ∧ ∀ j, j ≠ 557 → f' j = if 1678 + 3 * a ≤ j ∧ j < 1678 + 3 * ((fQ f).toNat - 1) then f (j + 3) else f j
theorem dropE_F {d d' : Ds} {a : Nat} (h : dropE d d' a) : dropF (rw_ d) (rw_ d') a := h
theorem drop_at {f f' : Nat → Int32} {a : Nat} (h : dropF f f' a) {i k : Nat} (hk : k < 3) (hi : (i : Int) < fQ f') : f' (1678 + 3 * i + k) = if a ≤ i then f (1678 + 3 * (i + 1) + k) else f (1678 + 3 * i + k) := by
  have h1 := h.1
  rw [h.2 _ (by omega)]
  by_cases ha : a ≤ i
  · rw [if_pos (by omega), if_pos ha]
    congr 1
    omega
  · rw [if_neg (by omega), if_neg ha]
theorem drop_lo {f f' : Nat → Int32} {a : Nat} (h : dropF f f' a) {j : Nat} (hj : j < 1678) (h5 : j ≠ 557) : f' j = f j := by
  rw [h.2 j h5, if_neg (by omega)]
theorem QRl_drop {f f' : Nat → Int32} {a : Nat} {y : Int} (h : dropF f f' a) (hq : QRl f y) : QRl f' y := by
  intro i hi
  have h1 := h.1
  have e : fTm f' = fTm f := by unfold fTm; rw [drop_lo h (by decide) (by decide)]
  have et : fT f' i = if a ≤ i then fT f (i + 1) else fT f i := by
    unfold fT
    rw [drop_at h (by decide) hi]
    split <;> rfl
  rw [e, et]
  by_cases ha : a ≤ i
  · rw [if_pos ha]
    have := hq (i + 1) (by omega)
    omega
  · rw [if_neg ha]
    have := hq i (by omega)
    omega
theorem QA_shift {f f' : Nat → Int32} {s J : Nat} (h1 : fQ f' = fQ f - s) (h2 : ∀ i, i < J → (i : Int) < fQ f' → ¬ fD f' i = 1) (h3 : ∀ i : Nat, J ≤ i → (i : Int) < fQ f' → fK f' i = fK f (i + s) ∧ fD f' i = fD f (i + s)) (h4 : f' 353 = f 353) (hq : QA f) : QA f' := by
  have hJ : ∀ i : Nat, (i : Int) < fQ f' → fD f' i = 1 → J ≤ i := fun i hi hd => Nat.le_of_not_lt (fun z => h2 i z hi hd)
  refine ⟨fun i j hij hj di dj hk => ?_, fun i hi di => ?_⟩
  · have ji := hJ i (by omega) di
    have jj := hJ j hj dj
    obtain ⟨a1, a2⟩ := h3 i ji (by omega)
    obtain ⟨b1, b2⟩ := h3 j jj hj
    rw [a2] at di
    rw [b2] at dj
    rw [a1, b1] at hk
    obtain ⟨l, l1, l2, l3, l4⟩ := hq.1 (i + s) (j + s) (by omega) (by omega) di dj hk
    obtain ⟨c1, c2⟩ := h3 (l - s) (by omega) (by omega)
    have el : l - s + s = l := by omega
    rw [el] at c1 c2
    exact ⟨l - s, by omega, by omega, by rw [c1, a1, l3], by rw [c2]; exact l4⟩
  · have ji := hJ i hi di
    obtain ⟨a1, a2⟩ := h3 i ji hi
    rw [a2] at di
    rcases hq.2 (i + s) (by omega) di with ⟨l, l1, l2, l3, l4⟩ | hb
    · obtain ⟨c1, c2⟩ := h3 (l - s) (by omega) (by omega)
      have el : l - s + s = l := by omega
      rw [el] at c1 c2
      exact Or.inl ⟨l - s, by omega, by omega, by rw [c1, a1, l3], by rw [c2]; exact l4⟩
    · exact Or.inr (by rw [h4, a1]; exact hb)
theorem QA_drop0 {f f' : Nat → Int32} (h : dropF f f' 0) (hq : QA f) : QA f' := by
  refine QA_shift (s := 1) (J := 0) (by have := h.1; omega) (fun i hi _ => absurd hi (by omega)) (fun i _ hi => ⟨?_, ?_⟩) (drop_lo h (by decide) (by decide)) hq
  · have := drop_at h (k := 0) (by decide) hi
    rw [if_pos (by omega)] at this
    exact this
  · have := drop_at h (k := 1) (by decide) hi
    rw [if_pos (by omega)] at this
    exact this
/-- another queue, shorter, as good -/
def qle (d d' : Ds) : Prop := qQ d' < qQ d ∧ 0 ≤ qQ d' ∧ (∀ y, QRl (rw_ d) y → QRl (rw_ d') y) ∧ (QA (rw_ d) → QA (rw_ d'))
theorem qle.tr {d d1 d2 : Ds} (h : qle d d1) (h' : qle d1 d2) : qle d d2 := ⟨Int.lt_trans h'.1 h.1, h'.2.1, fun y z => h'.2.2.1 y (h.2.2.1 y z), fun z => h'.2.2.2 (h.2.2.2 z)⟩
def qsame (d d' : Ds) : Prop := ∀ j, j = 353 ∨ j = 354 ∨ j = 557 ∨ 1678 ≤ j → dI d' 336 j = dI d 336 j
theorem qsame.tr {d d1 d2 : Ds} (h : qsame d d1) (h' : qsame d1 d2) : qsame d d2 := fun j hj => (h' j hj).trans (h j hj)
theorem QRl_congr {f f' : Nat → Int32} (h : ∀ j, j = 353 ∨ j = 354 ∨ j = 557 ∨ 1678 ≤ j → f' j = f j) {y : Int} (hq : QRl f y) : QRl f' y := by
  have e1 : fQ f' = fQ f := by unfold fQ; rw [h 557 (by omega)]
  have e2 : fTm f' = fTm f := by unfold fTm; rw [h 354 (by omega)]
  intro i hi
  have e3 : fT f' i = fT f i := by unfold fT; rw [h _ (by omega)]
  rw [e1, e2, e3]
  exact hq i (by omega)
theorem QA_congr {f f' : Nat → Int32} (h : ∀ j, j = 353 ∨ j = 354 ∨ j = 557 ∨ 1678 ≤ j → f' j = f j) (hq : QA f) : QA f' := by
  have e1 : fQ f' = fQ f := by unfold fQ; rw [h 557 (by omega)]
  refine QA_shift (s := 0) (J := 0) (by omega) (fun i hi _ => absurd hi (by omega)) (fun i _ _ => ⟨?_, ?_⟩) (h 353 (by omega)) hq
  · unfold fK; exact h _ (by omega)
  · unfold fD; exact h _ (by omega)
theorem qle.sm {d d1 d2 : Ds} (h : qle d d1) (h' : qsame d1 d2) : qle d d2 := by
  have e : qQ d2 = qQ d1 := by unfold qQ; rw [h' 557 (by omega)]
  exact ⟨by rw [e]; exact h.1, by rw [e]; exact h.2.1, fun y z => QRl_congr h' (h.2.2.1 y z), fun z => QA_congr h' (h.2.2.2 z)⟩
theorem q_frm {M : Nat} {b : Nat → Int} {d d' : Ds} (h : Inv M b d d') (h2 : Nat.testBit M 3522 = false) (h3 : Nat.testBit M 3523 = false) (h10 : Nat.testBit M 3530 = false) (h12 : Nat.testBit M 3532 = false) : qsame d d' := by
  intro j hj
  refine h.2.1 336 j ?_
  rw [now_55, cdn, if_neg (by decide), if_pos rfl]
  rcases hj with rfl | rfl | rfl | hj
  · exact h2
  · exact h3
  · exact h10
  · have e : reg j = 12 := by
      have h1 := reg_m hj
      have h2 := reg_12 j
      have h3 : reg 1678 = 12 := by decide
      omega
    rw [e]
    exact h12
theorem qle_drop0 {d d' : Ds} (h : dropE d d' 0) (hq : 0 < qQ d) : qle d d' := ⟨by rw [h.1]; omega, by rw [h.1]; omega, fun _ z => QRl_drop (dropE_F h) z, fun z => QA_drop0 (dropE_F h) z⟩
/-- the first events: ups, and then a key's own down -/
def preT (f : Nat → Int32) (s : Nat) (k : Int32) (J : Nat) : Prop := s ≤ J ∧ (J : Int) < fQ f ∧ (∀ l, s ≤ l → l < J → ¬ fD f l = 1) ∧ fD f J = 1 ∧ fK f J = k
theorem ci {y : Int32} {n : Int} (h0 : 0 ≤ y.toInt) : ((y.toInt.toNat : Nat) : Int) = y.toInt := by omega
theorem sX12_dropsTwo_c {g : Gs} (hS : Shp g) {b : Nat → Int} {x0 : Nat} (hx0 : cls x0 = 11) {x1 : Int32} {d : Ds} {J : Nat} (hJ : preT (rw_ d) 0 x1 J) {l : Nat} (hl : l < J ∧ fK (rw_ d) l = x1) (hB : Bnd b d) : ok (fX12_dropsTwo 10000 g x0 x1 d) (fun u d' => Inv m_sX12_drops__11 b d d' ∧ qle d d') := by
  obtain ⟨-, hJ1, hJ2, hJ3, hJ4⟩ := hJ
  have hQ : qQ d ≤ 2500 := (qQ_iv hB).2
  have hJ1' : (J : Int) < qQ d := hJ1
  unfold fX12_dropsTwo fX12_dropsTwo_L2
  refine ok_lp (fun a => a.2 = d ∧ 0 ≤ a.1.toInt ∧ a.1.toInt ≤ (l : Int)) (fun a => (2500 - a.1.toInt).toNat) ?_ 10000 _ ⟨rfl, (by decide : (0 : Int) ≤ (0 : Int32).toInt), by have : (0 : Int32).toInt = 0 := (by decide); dsimp only; omega⟩ (by have : (0 : Int32).toInt = 0 := (by decide); dsimp only; omega)
  rintro K2 ⟨y2, dd⟩ ⟨hd, h0, h1⟩ hK
  dsimp only at hd h0 h1 hK ⊢
  subst hd
  have hy : iv y2 0 2499 := ⟨h0, by omega⟩
  have c := ci (n := 0) h0
  unfold fX12_dropsTwo_B2
  refine ok_gd (kd_11 hS hx0) ?_
  refine ok_cb (sX12_keyAt_c hS hx0 hy) (fun u4 d2 hq => ?_)
  rw [hq.1, hq.2]
  have j19 : ¬ y2.toInt.toNat = l → ok (fX12_dropsTwo_J19 10000 g x0 x1 K2 y2 dd) (fun u d' => Inv m_sX12_drops__11 b dd d' ∧ qle dd d') := by
    intro hne
    unfold fX12_dropsTwo_J19
    refine ok_bd (fun u6 e => ?_)
    have q2 := z_add (x := y2) (y := 1) rfl (by decide : (1 : Int32).toInt = 1) (by omega) (by omega)
    exact hK _ ⟨rfl, by dsimp only; rw [e, q2]; omega, by dsimp only; rw [e, q2]; omega⟩ (by dsimp only; rw [e, q2]; omega)
  refine ok_if (fun ck => ?_) (fun ck => j19 (fun z => ck (by rw [z]; exact hl.2)))
  refine ok_cb (sX12_isDownAt_c hS hx0 hy) (fun u9 d7 hq => ?_)
  obtain ⟨hd7, hu⟩ := hq
  rw [hd7]
  rcases hu with ⟨hu, hD⟩ | ⟨hu, hD⟩ <;> rw [hu]
  · exact absurd hD (hJ2 _ (by omega) (by omega))
  · refine ok_if (fun _ => ?_) (fun z => absurd rfl z)
    refine ok_cv (sX12_drops_c hS hx0 h0 (by omega) hB) (fun d11 hr => ?_)
    obtain ⟨hI, hE⟩ := hr
    have hF := dropE_F hE
    have hQ1 : qQ d11 = qQ dd - 1 := hE.1
    have hQ1' : fQ (rw_ d11) = fQ (rw_ dd) - 1 := hE.1
    have hQ0' : qQ dd = fQ (rw_ dd) := rfl
    -- the shorter queue: ups before J - 1, there the key's own down
    have a1 : ∀ i : Nat, i < J - 1 → ¬ fD (rw_ d11) i = 1 := by
      intro i hi
      have := drop_at hF (i := i) (k := 1) (by decide) (by omega)
      unfold fD
      rw [this]
      split
      · exact hJ2 (i + 1) (by omega) (by omega)
      · exact hJ2 i (by omega) (by omega)
    have a2 : ∀ i : Nat, J - 1 ≤ i → (i : Int) < fQ (rw_ d11) → fK (rw_ d11) i = fK (rw_ dd) (i + 1) ∧ fD (rw_ d11) i = fD (rw_ dd) (i + 1) := by
      intro i hi hi2
      have k0 := drop_at hF (i := i) (k := 0) (by decide) hi2
      have k1 := drop_at hF (i := i) (k := 1) (by decide) hi2
      rw [if_pos (by omega)] at k0 k1
      exact ⟨k0, k1⟩
    have eJ : J - 1 + 1 = J := by omega
    unfold fX12_dropsTwo_L30
    refine ok_lp (fun a => a.2 = d11 ∧ 0 ≤ a.1.toInt ∧ a.1.toInt ≤ (J : Int) - 1) (fun a => (2500 - a.1.toInt).toNat) ?_ 10000 _ ⟨rfl, h0, by dsimp only; omega⟩ (by dsimp only; omega)
    rintro K30 ⟨z2, de⟩ ⟨hd, g0, g1⟩ hK30
    dsimp only at hd g0 g1 hK30 ⊢
    subst hd
    have hz : iv z2 0 2499 := ⟨g0, by omega⟩
    have cz := ci (n := 0) g0
    have j47 : ¬ z2.toInt.toNat = J - 1 → ok (fX12_dropsTwo_J47 10000 g x0 x1 K30 z2 de) (fun u d' => Inv m_sX12_drops__11 b dd d' ∧ qle dd d') := by
      intro hne
      unfold fX12_dropsTwo_J47
      refine ok_bd (fun u6 e => ?_)
      have q2 := z_add (x := z2) (y := 1) rfl (by decide : (1 : Int32).toInt = 1) (by omega) (by omega)
      exact hK30 _ ⟨rfl, by dsimp only; rw [e, q2]; omega, by dsimp only; rw [e, q2]; omega⟩ (by dsimp only; rw [e, q2]; omega)
    obtain ⟨b1, b2⟩ := a2 (J - 1) (by omega) (by omega)
    rw [eJ] at b1 b2
    unfold fX12_dropsTwo_B30
    refine ok_gd (kd_11 hS hx0) ?_
    refine ok_cb (sX12_keyAt_c hS hx0 hz) (fun u16 d14 hq => ?_)
    rw [hq.1, hq.2]
    refine ok_if (fun ck => ?_) (fun ck => j47 (fun z => ck (by rw [z]; exact b1.trans hJ4)))
    refine ok_cb (sX12_isDownAt_c hS hx0 hz) (fun u21 d19 hq => ?_)
    obtain ⟨hd7, hu⟩ := hq
    rw [hd7]
    rcases hu with ⟨hu, hD2⟩ | ⟨hu, hD2⟩ <;> rw [hu]
    · refine ok_if (fun z => absurd z (by decide)) (fun _ => ?_)
      have ez : z2.toInt.toNat = J - 1 := by
        by_cases hlt : z2.toInt.toNat < J - 1
        · exact absurd hD2 (a1 _ hlt)
        · omega
      refine ok_cv (sX12_drops_c hS hx0 g0 (by omega) hI.1) (fun d23 hr => ?_)
      obtain ⟨hI2, hE2⟩ := hr
      have hF2 := dropE_F hE2
      have hQ2 : qQ d23 = qQ de - 1 := hE2.1
      have hQ2' : fQ (rw_ d23) = fQ (rw_ de) - 1 := hE2.1
      refine ok_some ⟨Inv.call hI hI2 (by decide +kernel), by omega, by omega, fun y z => QRl_drop hF2 (QRl_drop hF z), fun z => ?_⟩
      refine QA_shift (s := 2) (J := J - 1) (by omega) (fun i hi hi2 => ?_) (fun i hi hi2 => ?_) ((drop_lo hF2 (by decide) (by decide)).trans (drop_lo hF (by decide) (by decide))) z
      · have := drop_at hF2 (i := i) (k := 1) (by decide) hi2
        unfold fD
        rw [this, if_neg (by omega)]
        exact a1 i hi
      · have k0 := drop_at hF2 (i := i) (k := 0) (by decide) hi2
        have k1 := drop_at hF2 (i := i) (k := 1) (by decide) hi2
        rw [if_pos (by omega)] at k0 k1
        obtain ⟨c1, c2⟩ := a2 (i + 1) (by omega) (by omega)
        exact ⟨k0.trans c1, k1.trans c2⟩
    · refine ok_if (fun _ => ?_) (fun z => absurd rfl z)
      exact j47 (fun z => hD2 (by rw [z]; exact b2.trans hJ3))
theorem e557 : (557 : Int32).toNatClampNeg = 557 := by decide
theorem e354 : (354 : Int32).toNatClampNeg = 354 := by decide
theorem sX12_onceOrTwice_c {g : Gs} (hS : Shp g) {b : Nat → Int} {x0 : Nat} (hx0 : cls x0 = 11) {x1 x2 : Int32} (hx2 : iv x2 0 2147480000) {d : Ds} (hq : 1 ≤ qQ d) (hB : Bnd b d) : ok (fX12_onceOrTwice 10000 g x0 x1 x2 d) (fun u d' => d' = d ∧ iv u (-1) 1 ∧ (u = 1 → ∃ J, preT (rw_ d) 1 x1 J) ∧ (u.toInt < 0 → fTm (rw_ d) < x2.toInt + 99)) := by
  have hQ : qQ d ≤ 2500 := (qQ_iv hB).2
  have h7 := rdN_7 hB now_55
  have qs := z_add (x := x2) (y := dI d 336 (7 : Int32).toNatClampNeg) rfl rfl (by have := hx2.1; have := h7.1; omega) (by have := hx2.2; have := h7.2; omega)
  unfold fX12_onceOrTwice
  refine ok_gd (kd_11 hS hx0) ?_
  refine ok_ob (mo_now hS hx0) ?_
  refine ok_gd (kd_55 hS now_55) ?_
  refine ok_gd (ixg (by decide : iv (7 : Int32) 7 7) (ln_55 hS now_55) (by decide)) ?_
  refine ok_bd (fun u5 e5 => ?_)
  have h5 : u5.toInt ≤ x2.toInt + 40 := by rw [e5, qs]; have := h7.2; omega
  unfold fX12_onceOrTwice_L13
  refine ok_lp (fun a => a.1 = u5 ∧ a.2.2 = d ∧ 1 ≤ a.2.1.toInt ∧ a.2.1.toInt ≤ qQ d ∧ ∀ l : Nat, 1 ≤ l → (l : Int) < a.2.1.toInt → ¬ fD (rw_ d) l = 1) (fun a => (2500 - a.2.1.toInt).toNat) ?_ 10000 _ ⟨rfl, rfl, (by decide : (1 : Int) ≤ (1 : Int32).toInt), by have : (1 : Int32).toInt = 1 := (by decide); dsimp only; omega, fun l h1 h2 => by have : (1 : Int32).toInt = 1 := (by decide); dsimp only at h2; omega⟩ (by have : (1 : Int32).toInt = 1 := (by decide); dsimp only; omega)
  rintro K13 ⟨y3, y4, dd⟩ ⟨hy, hd, h1, h2, h3⟩ hK
  dsimp only at hy hd h1 h2 h3 hK ⊢
  subst hy
  subst hd
  unfold fX12_onceOrTwice_B13
  refine ok_gd (kd_11 hS hx0) ?_
  refine ok_ob (mo_now hS hx0) ?_
  refine ok_gd (kd_55 hS now_55) ?_
  refine ok_gd (ixg (by decide : iv (557 : Int32) 557 557) (ln_55 hS now_55) (by decide)) ?_
  have q0 : (dI dd 336 (557 : Int32).toNatClampNeg).toInt = qQ dd := by rw [e557]; rfl
  have n1 : ¬ (-1 : Int32) = 1 := by decide
  have n0 : ¬ (0 : Int32) = 1 := by decide
  refine ok_if (fun c => ?_) (fun c => ?_)
  · refine ok_gd (ixg (by decide : iv (354 : Int32) 354 354) (ln_55 hS now_55) (by decide)) ?_
    refine ok_if (fun c2 => ?_) (fun c2 => ?_)
    · unfold fX12_onceOrTwice_J86
      refine ok_some ⟨rfl, (by decide : iv (-1 : Int32) (-1) 1), fun z => absurd z n1, fun _ => ?_⟩
      have c3 := Int32.lt_iff_toInt_lt.mp c2
      rw [e354] at c3
      show (dI dd 336 354).toInt < _
      omega
    · unfold fX12_onceOrTwice_J86
      exact ok_some ⟨rfl, (by decide : iv (0 : Int32) (-1) 1), fun z => absurd z n0, fun z => absurd z (by decide)⟩
  · have c3 := Int32.lt_iff_toInt_lt.mp (nle c)
    rw [q0] at c3
    have hy4 : iv y4 0 2499 := ⟨by omega, by omega⟩
    have cy := ci (n := 0) (y := y4) (by omega)
    refine ok_cb (sX12_timeAt_c hS hx0 hy4) (fun u15 d13 hr => ?_)
    rw [hr.1, hr.2]
    refine ok_if (fun _ => ?_) (fun _ => ok_some ⟨rfl, (by decide : iv (0 : Int32) (-1) 1), fun z => absurd z n0, fun z => absurd z (by decide)⟩)
    refine ok_cb (sX12_isDownAt_c hS hx0 hy4) (fun u19 d17 hr => ?_)
    obtain ⟨hd, hu⟩ := hr
    rw [hd]
    rcases hu with ⟨hu, hD⟩ | ⟨hu, hD⟩ <;> rw [hu]
    · refine ok_if (fun z => absurd z (by decide)) (fun _ => ?_)
      refine ok_cb (sX12_keyAt_c hS hx0 hy4) (fun u24 d22 hr => ?_)
      rw [hr.1, hr.2]
      refine ok_if (fun ck => ?_) (fun _ => ?_)
      · unfold fX12_onceOrTwice_J62
        exact ok_some ⟨rfl, (by decide : iv (1 : Int32) (-1) 1), fun _ => ⟨y4.toInt.toNat, by omega, show (_ : Int) < qQ dd by omega, fun l l1 l2 => h3 l l1 (by omega), hD, ck⟩, fun z => absurd z (by decide)⟩
      · unfold fX12_onceOrTwice_J62
        exact ok_some ⟨rfl, (by decide : iv (0 : Int32) (-1) 1), fun z => absurd z n0, fun z => absurd z (by decide)⟩
    · refine ok_if (fun _ => ?_) (fun z => absurd rfl z)
      refine ok_bd (fun u21 e => ?_)
      have q2 := z_add (x := y4) (y := 1) rfl (by decide : (1 : Int32).toInt = 1) (by omega) (by omega)
      refine hK _ ⟨rfl, rfl, by dsimp only; rw [e, q2]; omega, by dsimp only; rw [e, q2]; omega, fun l l1 l2 => ?_⟩ (by dsimp only; rw [e, q2]; omega)
      dsimp only at l2
      rw [e, q2] at l2
      by_cases hl : l = y4.toInt.toNat
      · rw [hl]; exact hD
      · exact h3 l l1 (by omega)
theorem sX12_heldOrTapped_c {g : Gs} (hS : Shp g) {b : Nat → Int} {x0 : Nat} (hx0 : cls x0 = 11) {x1 x2 : Int32} (hx2 : iv x2 0 2147480000) {d : Ds} (hq : 1 ≤ qQ d) (hB : Bnd b d) : ok (fX12_heldOrTapped 10000 g x0 x1 x2 d) (fun u d' => d' = d ∧ iv u (-1) 1 ∧ (u.toInt < 0 → fTm (rw_ d) < x2.toInt + 99)) := by
  have hQ : qQ d ≤ 2500 := (qQ_iv hB).2
  have h7 := rdN_5 hB now_55
  have qs := z_add (x := x2) (y := dI d 336 (5 : Int32).toNatClampNeg) rfl rfl (by have := hx2.1; have := h7.1; omega) (by have := hx2.2; have := h7.2; omega)
  unfold fX12_heldOrTapped
  refine ok_gd (kd_11 hS hx0) ?_
  refine ok_ob (mo_now hS hx0) ?_
  refine ok_gd (kd_55 hS now_55) ?_
  refine ok_gd (ixg (by decide : iv (5 : Int32) 5 5) (ln_55 hS now_55) (by decide)) ?_
  refine ok_bd (fun u5 e5 => ?_)
  have h5 : u5.toInt ≤ x2.toInt + 99 := by rw [e5, qs]; have := h7.2; omega
  unfold fX12_heldOrTapped_L15
  refine ok_lp (fun a => a.1 = u5 ∧ a.2.2.2 = d ∧ 1 ≤ a.2.2.1.toInt ∧ a.2.2.1.toInt ≤ qQ d) (fun a => (2500 - a.2.2.1.toInt).toNat) ?_ 10000 _ ⟨rfl, rfl, (by decide : (1 : Int) ≤ (1 : Int32).toInt), by have : (1 : Int32).toInt = 1 := (by decide); dsimp only; omega⟩ (by have : (1 : Int32).toInt = 1 := (by decide); dsimp only; omega)
  rintro K15 ⟨y3, y4, y5, dd⟩ ⟨hy, hd, h1, h2⟩ hK
  dsimp only at hy hd h1 h2 hK ⊢
  subst hy
  subst hd
  unfold fX12_heldOrTapped_B15
  refine ok_gd (kd_11 hS hx0) ?_
  refine ok_ob (mo_now hS hx0) ?_
  refine ok_gd (kd_55 hS now_55) ?_
  refine ok_gd (ixg (by decide : iv (557 : Int32) 557 557) (ln_55 hS now_55) (by decide)) ?_
  have q0 : (dI dd 336 (557 : Int32).toNatClampNeg).toInt = qQ dd := by rw [e557]; rfl
  have o1 : iv (1 : Int32) (-1) 1 ∧ ((1 : Int32).toInt < 0 → fTm (rw_ dd) < x2.toInt + 99) := ⟨by decide, fun z => absurd z (by decide)⟩
  have o0 : iv (0 : Int32) (-1) 1 ∧ ((0 : Int32).toInt < 0 → fTm (rw_ dd) < x2.toInt + 99) := ⟨by decide, fun z => absurd z (by decide)⟩
  refine ok_if (fun c => ?_) (fun c => ?_)
  · refine ok_gd (ixg (by decide : iv (354 : Int32) 354 354) (ln_55 hS now_55) (by decide)) ?_
    refine ok_if (fun c2 => ?_) (fun c2 => ?_)
    · unfold fX12_heldOrTapped_J112
      refine ok_some ⟨rfl, (by decide : iv (-1 : Int32) (-1) 1), fun _ => ?_⟩
      have c3 := Int32.lt_iff_toInt_lt.mp c2
      rw [e354] at c3
      show (dI dd 336 354).toInt < _
      omega
    · unfold fX12_heldOrTapped_J112
      exact ok_some ⟨rfl, o1⟩
  · have c3 := Int32.lt_iff_toInt_lt.mp (nle c)
    rw [q0] at c3
    have hy4 : iv y5 0 2499 := ⟨by omega, by omega⟩
    have j89 : ∀ y4' : Int32, ok (fX12_heldOrTapped_J89 10000 g x0 x1 x2 K15 y3 y4' y5 dd) (fun u d' => d' = dd ∧ iv u (-1) 1 ∧ (u.toInt < 0 → fTm (rw_ dd) < x2.toInt + 99)) := by
      intro y4'
      unfold fX12_heldOrTapped_J89
      refine ok_bd (fun u29 e => ?_)
      have q2 := z_add (x := y5) (y := 1) rfl (by decide : (1 : Int32).toInt = 1) (by omega) (by omega)
      exact hK _ ⟨rfl, rfl, by dsimp only; rw [e, q2]; omega, by dsimp only; rw [e, q2]; omega⟩ (by dsimp only; rw [e, q2]; omega)
    refine ok_cb (sX12_timeAt_c hS hx0 hy4) (fun u15 d13 hr => ?_)
    rw [hr.1, hr.2]
    refine ok_if (fun _ => ?_) (fun _ => ok_some ⟨rfl, o1⟩)
    refine ok_cb (sX12_keyAt_c hS hx0 hy4) (fun u19 d17 hr => ?_)
    rw [hr.1]
    refine ok_cb (sX12_isDownAt_c hS hx0 hy4) (fun u22 d20 hr => ?_)
    obtain ⟨hd, hu⟩ := hr
    rw [hd]
    refine ok_if (fun _ => ?_) (fun _ => ok_bd (fun u30 _ => j89 _))
    refine ok_if (fun _ => ok_some ⟨rfl, o0⟩) (fun _ => ?_)
    refine ok_cb (sX12_has hS hB) (fun u27 d25 hr => ?_)
    rw [hr.1]
    exact ok_if (fun _ => j89 _) (fun _ => ok_some ⟨rfl, o1⟩)
/-! the bits of DOWN -/
theorem and1_iff {x : Int32} : (x &&& 1) = (1 : Int32) ↔ x.toBitVec.getLsbD 0 = true := by
  rw [← Int32.toBitVec_inj, Int32.toBitVec_and]
  show x.toBitVec &&& 1#32 = 1#32 ↔ _
  rw [BitVec.and_one_eq_setWidth_ofBool_getLsbD]
  cases x.toBitVec.getLsbD 0 <;> decide
theorem of_iv {k : Int32} {h : Int} (hk : iv k 0 h) : k = Int32.ofNat k.toInt.toNat := by
  apply Int32.toInt_inj.mp
  have h2 := (ivT k).2
  rw [Int32.toInt_ofNat_of_lt (by have := hk.1; omega)]
  have := hk.1
  omega
theorem shb : ∀ n : Fin 32, ((Int32.ofNat n.val &&& 31).toBitVec.smod 32#32).toNat = n.val := by decide +kernel
theorem sh1 : ∀ n n' : Fin 32, ((1 : Int32) <<< (Int32.ofNat n.val &&& 31)).toBitVec.getLsbD n'.val = decide (n' = n) := by decide +kernel
theorem hasB_iff {m k : Int32} {h : Int} (hk : iv k 0 h) (hh : h < 32) : hasB m k ↔ m.toBitVec.getLsbD k.toInt.toNat = true := by
  have hn : k.toInt.toNat < 32 := by have := hk.1; have := hk.2; omega
  unfold hasB
  rw [and1_iff, Int32.toBitVec_shiftRight]
  have e := shb ⟨k.toInt.toNat, hn⟩
  dsimp only at e
  rw [← of_iv hk] at e
  rw [BitVec.sshiftRight_eq']
  have e2 : ((k &&& 31).toBitVec.smod 32).toNat = k.toInt.toNat := e
  rw [e2, BitVec.getLsbD_sshiftRight]
  simp [hn]
  intro h2
  exact absurd hn (Nat.not_lt.mpr h2)
theorem tog1 {m k : Int32} (hk : iv k 0 23) : hasB (m ^^^ ((1 : Int32) <<< (k &&& 31))) k ↔ ¬ hasB m k := by
  have hn : k.toInt.toNat < 32 := by have := hk.1; have := hk.2; omega
  rw [hasB_iff hk (by decide), hasB_iff hk (by decide), Int32.toBitVec_xor, BitVec.getLsbD_xor]
  have e := sh1 ⟨k.toInt.toNat, hn⟩ ⟨k.toInt.toNat, hn⟩
  dsimp only at e
  rw [← of_iv hk] at e
  rw [e]
  cases m.toBitVec.getLsbD k.toInt.toNat <;> simp
theorem tog2 {m k k' : Int32} (hk : iv k 0 23) (hk' : iv k' 0 23) (hne : ¬ k' = k) : hasB (m ^^^ ((1 : Int32) <<< (k &&& 31))) k' ↔ hasB m k' := by
  have hn : k.toInt.toNat < 32 := by have := hk.1; have := hk.2; omega
  have hn' : k'.toInt.toNat < 32 := by have := hk'.1; have := hk'.2; omega
  rw [hasB_iff hk' (by decide), hasB_iff hk' (by decide), Int32.toBitVec_xor, BitVec.getLsbD_xor]
  have e := sh1 ⟨k.toInt.toNat, hn⟩ ⟨k'.toInt.toNat, hn'⟩
  dsimp only at e
  rw [← of_iv hk] at e
  have e3 : ¬ (⟨k'.toInt.toNat, hn'⟩ : Fin 32) = ⟨k.toInt.toNat, hn⟩ := by
    intro z
    have z2 : k'.toInt.toNat = k.toInt.toNat := congrArg Fin.val z
    exact hne (by rw [of_iv hk', of_iv hk, z2])
  rw [e, decide_eq_false e3]
  simp
/-- one event more -/
def chgF (f f' : Nat → Int32) (k : Int32) : Prop := fQ f' = fQ f + 1 ∧ fTm f' = fTm f ∧ f' 353 = (f 353) ^^^ ((1 : Int32) <<< (k &&& 31)) ∧ (∀ i : Nat, (i : Int) < fQ f → fK f' i = fK f i ∧ fD f' i = fD f i ∧ fT f' i = fT f i) ∧ fK f' (fQ f).toNat = k ∧ (fD f' (fQ f).toNat = 1 ↔ hasB (f' 353) k) ∧ fT f' (fQ f).toNat = fTm f
theorem QRl_chg {f f' : Nat → Int32} {k : Int32} {y : Int} (h0 : 0 ≤ fQ f) (hy : 0 ≤ y) (h : chgF f f' k) (hq : QRl f y) : QRl f' (y + 1) := by
  obtain ⟨h1, h2, h3, h4, h5, h6, h7⟩ := h
  intro i hi
  by_cases hl : (i : Int) < fQ f
  · have := hq i hl
    rw [(h4 i hl).2.2, h2, h1]
    omega
  · have e : i = (fQ f).toNat := by omega
    subst e
    rw [h7, h2, h1]
    omega
theorem QA_chg {f f' : Nat → Int32} {k : Int32} (h0 : 0 ≤ fQ f) (hk : iv k 0 23) (hks : ∀ i : Nat, (i : Int) < fQ f → iv (fK f i) 0 23) (h : chgF f f' k) (hq : QA f) : QA f' := by
  obtain ⟨h1, h2, h3, h4, h5, h6, h7⟩ := h
  have t1 : hasB (f' 353) k ↔ ¬ hasB (f 353) k := by rw [h3]; exact tog1 hk
  refine ⟨fun i j hij hj di dj he => ?_, fun i hi di => ?_⟩
  · obtain ⟨a1, a2, -⟩ := h4 i (by omega)
    by_cases hl : (j : Int) < fQ f
    · obtain ⟨b1, b2, -⟩ := h4 j hl
      rw [a2] at di
      rw [b2] at dj
      rw [a1, b1] at he
      obtain ⟨l, l1, l2, l3, l4⟩ := hq.1 i j hij hl di dj he
      obtain ⟨c1, c2, -⟩ := h4 l (by omega)
      exact ⟨l, l1, l2, by rw [c1, a1]; exact l3, by rw [c2]; exact l4⟩
    · have e : j = (fQ f).toNat := by omega
      subst e
      have nb := t1.mp (h6.mp dj)
      rw [h5, a1] at he
      rw [a2] at di
      rcases hq.2 i (by omega) di with ⟨l, l1, l2, l3, l4⟩ | hb
      · obtain ⟨c1, c2, -⟩ := h4 l l2
        exact ⟨l, l1, by omega, by rw [c1, a1]; exact l3, by rw [c2]; exact l4⟩
      · rw [he] at hb
        exact absurd hb nb
  · by_cases hl : (i : Int) < fQ f
    · obtain ⟨a1, a2, -⟩ := h4 i hl
      rw [a2] at di
      rcases hq.2 i hl di with ⟨l, l1, l2, l3, l4⟩ | hb
      · obtain ⟨c1, c2, -⟩ := h4 l l2
        exact Or.inl ⟨l, l1, by omega, by rw [c1, a1]; exact l3, by rw [c2]; exact l4⟩
      · by_cases he : fK f i = k
        · refine Or.inl ⟨(fQ f).toNat, by omega, by omega, by rw [h5, a1, he], fun z => ?_⟩
          rw [he] at hb
          exact t1.mp (h6.mp z) hb
        · refine Or.inr ?_
          rw [a1, h3]
          exact (tog2 hk (hks i hl) he).mpr hb
    · have e : i = (fQ f).toNat := by omega
      subst e
      exact Or.inr (by rw [h5]; exact h6.mp di)
theorem qs_w {d d1 : Ds} {x v : Int32} {p q : Int} (e : d1 = sI d 336 x.toNatClampNeg v) (hx : iv x p q) (hd : (355 ≤ p ∧ q < 557)) : qsame d d1 := by
  intro j hj
  have := z_nat (x := x) (by have := hx.1; omega)
  have h1 := hx.1
  have h2 := hx.2
  rw [e, sI_rd, if_neg (fun z => by have := z.2; omega)]
theorem okN_q {B : Int} {i k : Nat} {v : Int32} (hk : k < 3) (h0 : k = 0 → iv v 0 23) (h1 : k = 1 → iv v 0 1) (h2 : k = 2 → iv v 0 B) : okN B (1678 + 3 * i + k) v := by
  unfold okN
  refine ⟨?_, ?_, ?_, ?_, ?_, ?_, ?_, ?_, ?_, ?_, ?_, ?_, ?_, ?_, ?_⟩ <;> intro q <;> first | (exfalso; omega) | exact h0 (by omega) | exact h1 (by omega) | exact h2 (by omega)
theorem sX12_changes_tail {g : Gs} (hS : Shp g) {b : Nat → Int} {d0 : Ds} {x0 : Nat} (hx0 : cls x0 = 11) {x1 : Int32} (hx1 : iv x1 0 23) {y2 : Int32} {d28 : Ds} (hI : Inv m_sX12_changes__11 b d0 d28) : ok (gd (¬ (((507 : Int32) + x1) < 0 ∨ gL g 336 ≤ ((507 : Int32) + x1).toNatClampNeg)) <| bd (sI d28 336 ((507 : Int32) + x1).toNatClampNeg (dI d28 336 (354 : Int32).toNatClampNeg)) fun d30 => (if y2 = 0 then (gd (¬ (((531 : Int32) + x1) < 0 ∨ gL g 336 ≤ ((531 : Int32) + x1).toNatClampNeg)) <| bd (((dI d30 336 (354 : Int32).toNatClampNeg) - (dI d30 336 ((531 : Int32) + x1).toNatClampNeg))) fun u33 => (fX12_changes_J195 10000 g x0 x1 u33 d30)) else (gd (¬ (((459 : Int32) + x1) < 0 ∨ gL g 336 ≤ ((459 : Int32) + x1).toNatClampNeg)) <| bd (sI d30 336 ((459 : Int32) + x1).toNatClampNeg ((dI d30 336 ((459 : Int32) + x1).toNatClampNeg) + 1)) fun d41 => (gd (¬ (((531 : Int32) + x1) < 0 ∨ gL g 336 ≤ ((531 : Int32) + x1).toNatClampNeg)) <| bd (sI d41 336 ((531 : Int32) + x1).toNatClampNeg (dI d41 336 (354 : Int32).toNatClampNeg)) fun d43 => (fX12_changes_J222 10000 g x0 x1 d43))))) (fun u d' => Inv m_sX12_changes__11 b d0 d' ∧ qsame d28 d') := by
  have i507 := iv_add (l := 507) (h := 530) (by decide : iv (507 : Int32) 507 507) hx1 (by decide)
  have i531 := iv_add (l := 531) (h := 554) (by decide : iv (531 : Int32) 531 531) hx1 (by decide)
  have i459 := iv_add (l := 459) (h := 482) (by decide : iv (459 : Int32) 459 459) hx1 (by decide)
  have i483 := iv_add (l := 483) (h := 506) (by decide : iv (483 : Int32) 483 483) hx1 (by decide)
  have st : ∀ {d d1 : Ds} {x v : Int32} {p q : Int}, d1 = sI d 336 x.toNatClampNeg v → iv x p q → (459 ≤ p ∧ q ≤ 554) → Inv m_sX12_changes__11 b d0 d → Inv m_sX12_changes__11 b d0 d1 := by
    intro d d1 x v p q e hx hd hI
    exact Inv.set e hI (by rw [now_55]; exact okN_b hx ⟨by omega, by omega⟩) (mN (n := 7) now_55 (iv.w (c := 459) (e := 554) hx hd) (by decide) (by decide +kernel)) (nN now_55 (iv.w (c := 459) (e := 554) hx hd) (by decide +kernel))
  refine ok_gd (ixg i507 (ln_55 hS now_55) (by decide)) ?_
  refine ok_bd (fun d30 e30 => ?_)
  have h30 := st e30 i507 (by decide) hI
  have s30 := qs_w e30 i507 (by decide)
  refine ok_if (fun _ => ?_) (fun _ => ?_)
  · refine ok_gd (ixg i531 (ln_55 hS now_55) (by decide)) ?_
    refine ok_bd (fun u33 _ => ?_)
    unfold fX12_changes_J195
    refine ok_gd (kd_11 hS hx0) ?_
    refine ok_ob (mo_now hS hx0) ?_
    refine ok_gd (kd_55 hS now_55) ?_
    refine ok_gd (ixg i483 (ln_55 hS now_55) (by decide)) ?_
    refine ok_if (fun _ => ?_) (fun _ => ?_)
    · unfold fX12_changes_J222
      exact ok_some ⟨h30, s30⟩
    · refine ok_bd (fun d39 e39 => ?_)
      unfold fX12_changes_J222
      exact ok_some ⟨st e39 i483 (by decide) h30, s30.tr (qs_w e39 i483 (by decide))⟩
  · refine ok_gd (ixg i459 (ln_55 hS now_55) (by decide)) ?_
    refine ok_bd (fun d41 e41 => ?_)
    refine ok_gd (ixg i531 (ln_55 hS now_55) (by decide)) ?_
    refine ok_bd (fun d43 e43 => ?_)
    unfold fX12_changes_J222
    exact ok_some ⟨st e43 i531 (by decide) (st e41 i459 (by decide) h30), (s30.tr (qs_w e41 i459 (by decide))).tr (qs_w e43 i531 (by decide))⟩
theorem sX12_changes_c {g : Gs} (hS : Shp g) {b : Nat → Int} {x0 : Nat} (hx0 : cls x0 = 11) {x1 : Int32} (hx1 : iv x1 0 23) {d : Ds} (hq : qQ d < 2500) (hB : Bnd b d) : ok (fX12_changes 10000 g x0 x1 d) (fun u d' => Inv m_sX12_changes__11 b d d' ∧ ∃ e, chgF (rw_ d) (rw_ e) x1 ∧ qsame e d') := by
  have e353 : (353 : Int32).toNatClampNeg = 353 := by decide
  have hQ := qQ_iv hB
  have hI : Inv m_sX12_changes__11 b d d := Inv.rf hB
  unfold fX12_changes
  refine ok_gd (kd_11 hS hx0) ?_
  refine ok_ob (mo_now hS hx0) ?_
  refine ok_gd (kd_55 hS now_55) ?_
  have i355 := iv_add (l := 355) (h := 378) (by decide : iv (355 : Int32) 355 355) hx1 (by decide)
  refine ok_gd (ixg i355 (ln_55 hS now_55) (by decide)) ?_
  refine ok_bd (fun d5 e5 => ?_)
  have h5 := Inv.set e5 hI (by rw [now_55]; exact (okN_z (rdN_354 hI.1 now_55))) (mN (n := 4) now_55 i355 (by decide) (by decide +kernel)) (nN now_55 i355 (by decide +kernel))
  have s5 := qs_w e5 i355 (by decide)
  refine ok_gd (ixg (by decide : iv (353 : Int32) 353 353) (ln_55 hS now_55) (by decide)) ?_
  refine ok_bd (fun d7 e7 => ?_)
  have h7 := Inv.set e7 h5 (by rw [now_55]; exact (okN_a (by decide : iv (353 : Int32) 353 353) (by decide))) (mN (n := 2) now_55 (by decide : iv (353 : Int32) 353 353) (by decide) (by decide +kernel)) (nN now_55 (by decide : iv (353 : Int32) 353 353) (by decide +kernel))
  have v7 : ∀ j, j = 354 ∨ j = 557 ∨ 1678 ≤ j → dI d7 336 j = dI d 336 j := by
    intro j hj
    rw [e7, sI_rd, if_neg (fun z => by have := z.2; rw [e353] at this; omega)]
    exact s5 j (by omega)
  have w7 : dI d7 336 353 = (dI d 336 353) ^^^ ((1 : Int32) <<< (x1 &&& 31)) := by
    rw [e7, e353, sI_rd, if_pos ⟨rfl, rfl⟩, s5 353 (by omega)]
  have q7 : (dI d7 336 (557 : Int32).toNatClampNeg).toInt = qQ d := by rw [e557, v7 557 (by omega)]; rfl
  have iQ : iv (dI d7 336 (557 : Int32).toNatClampNeg) 0 2499 := ⟨by rw [q7]; exact hQ.1, by rw [q7]; omega⟩
  have key : ∀ z0 : Int32, iv z0 0 1 → (z0 = 1 ↔ hasB (dI d7 336 353) x1) → ∀ u10 : Int32, ok (gd (¬ ((557 : Int32) < 0 ∨ gL g 336 ≤ (557 : Int32).toNatClampNeg)) <| bd (((1678 : Int32) + ((3 : Int32) * (dI d7 336 (557 : Int32).toNatClampNeg)))) fun u12 => (gd (¬ (u12 < 0 ∨ gL g 336 ≤ u12.toNatClampNeg)) <| bd (sI d7 336 u12.toNatClampNeg x1) fun d14 => fX12_changes_J76 10000 g x0 x1 u10 u12 z0 (u12 + 1) 336 d14)) (fun u d' => Inv m_sX12_changes__11 b d d' ∧ ∃ e, chgF (rw_ d) (rw_ e) x1 ∧ qsame e d') := by
    intro z0 hz0 hzb u10
    refine ok_gd (ixg (by decide : iv (557 : Int32) 557 557) (ln_55 hS now_55) (by decide)) ?_
    refine ok_bd (fun u12 e12 => ?_)
    have i12 : iv u12 1678 9175 := iv_e e12 (qx_iv iQ)
    obtain ⟨p0, p1, p2, p3⟩ := qx_ix iQ
    rw [← e12] at p0 p1 p2 p3
    have pQ : (dI d7 336 (557 : Int32).toNatClampNeg).toInt.toNat = (qQ d).toNat := by rw [q7]
    rw [pQ] at p1 p2 p3
    refine ok_gd (ixg i12 (ln_55 hS now_55) (by decide)) ?_
    refine ok_bd (fun d14 e14 => ?_)
    have h14 := Inv.set e14 h7 (by rw [now_55, p1]; exact okN_q (k := 0) (by decide) (fun _ => hx1) (fun z => absurd z (by decide)) (fun z => absurd z (by decide))) (mN (n := 12) now_55 i12 (by decide) (by decide +kernel)) (nN now_55 i12 (by decide +kernel))
    unfold fX12_changes_J76
    have i13 := iv_add (l := 1679) (h := 9176) i12 (by decide : iv (1 : Int32) 1 1) (by decide)
    have i14 := iv_add (l := 1680) (h := 9177) i12 (by decide : iv (2 : Int32) 2 2) (by decide)
    refine ok_gd (kd_55 hS now_55) ?_
    refine ok_gd (ixg i13 (ln_55 hS now_55) (by decide)) ?_
    refine ok_bd (fun d18 e18 => ?_)
    have h18 := Inv.set e18 h14 (by rw [now_55, p2]; exact okN_q (k := 1) (by decide) (fun z => absurd z (by decide)) (fun _ => hz0) (fun z => absurd z (by decide))) (mN (n := 12) now_55 i13 (by decide) (by decide +kernel)) (nN now_55 i13 (by decide +kernel))
    refine ok_gd (kd_11 hS hx0) ?_
    refine ok_ob (mo_now hS hx0) ?_
    refine ok_gd (kd_55 hS now_55) ?_
    refine ok_gd (ixg (by decide : iv (354 : Int32) 354 354) (ln_55 hS now_55) (by decide)) ?_
    refine ok_gd (ixg i14 (ln_55 hS now_55) (by decide)) ?_
    refine ok_bd (fun d24 e24 => ?_)
    have h24 := Inv.set e24 h18 (by rw [now_55, p3]; exact okN_q (k := 2) (by decide) (fun z => absurd z (by decide)) (fun z => absurd z (by decide)) (fun _ => rdN_354 h18.1 now_55)) (mN (n := 12) now_55 i14 (by decide) (by decide +kernel)) (nN now_55 i14 (by decide +kernel))
    rw [p1] at e14
    rw [p2] at e18
    rw [p3, e354] at e24
    have v24 : ∀ j, j < 1678 → dI d24 336 j = dI d7 336 j := by
      intro j hj
      rw [e24, sI_rd, if_neg (fun z => by have := z.2; omega), e18, sI_rd, if_neg (fun z => by have := z.2; omega), e14, sI_rd, if_neg (fun z => by have := z.2; omega)]
    have q24 : (dI d24 336 557).toInt = qQ d := by rw [v24 557 (by decide), ← e557]; exact q7
    refine ok_gd (ixg (by decide : iv (557 : Int32) 557 557) (ln_55 hS now_55) (by decide)) ?_
    refine ok_bd (fun d26 e26 => ?_)
    have k26 : (dI d24 336 (557 : Int32).toNatClampNeg + 1).toInt = qQ d + 1 := z_add (by rw [e557]; exact q24) (show (1 : Int32).toInt = 1 by decide) (by have := hQ.1; unfold qQ at hq ⊢; omega) (by omega)
    have h26 := Inv.set e26 h24 (by rw [now_55]; exact okN_557 ⟨by rw [k26]; have := hQ.1; unfold qQ; omega, by rw [k26]; omega⟩) (mN (n := 10) now_55 (by decide : iv (557 : Int32) 557 557) (by decide) (by decide +kernel)) (nN now_55 (by decide : iv (557 : Int32) 557 557) (by decide +kernel))
    refine ok_gd (ixg (by decide : iv (556 : Int32) 556 556) (ln_55 hS now_55) (by decide)) ?_
    refine ok_bd (fun d28 e28 => ?_)
    have h28 := Inv.set e28 h26 (by rw [now_55]; exact (okN_c (by decide : iv (556 : Int32) 556 556) (by decide))) (mN (n := 9) now_55 (by decide : iv (556 : Int32) 556 556) (by decide) (by decide +kernel)) (nN now_55 (by decide : iv (556 : Int32) 556 556) (by decide +kernel))
    have s28 := qs_w e28 (by decide : iv (556 : Int32) 556 556) (by decide)
    refine ok_mono (sX12_changes_tail hS hx0 hx1 h28) (fun u d' hr => ⟨hr.1, d26, ?_, s28.tr hr.2⟩)
    have v26 : ∀ j, j ≠ 557 → dI d26 336 j = dI d24 336 j := by
      intro j hj
      rw [e26, sI_rd, if_neg (fun z => hj (z.2.trans e557))]
    have w26 : ∀ j, 1678 ≤ j → dI d26 336 j = if j = 1678 + 3 * (qQ d).toNat + 2 then dI d18 336 354 else if j = 1678 + 3 * (qQ d).toNat + 1 then z0 else if j = 1678 + 3 * (qQ d).toNat then x1 else dI d 336 j := by
      intro j hj
      rw [v26 j (by omega), e24, sI_rd]
      by_cases c1 : j = 1678 + 3 * (qQ d).toNat + 2
      · rw [if_pos ⟨rfl, c1⟩, if_pos c1]
      · rw [if_neg (fun z => c1 z.2), if_neg c1, e18, sI_rd]
        by_cases c2 : j = 1678 + 3 * (qQ d).toNat + 1
        · rw [if_pos ⟨rfl, c2⟩, if_pos c2]
        · rw [if_neg (fun z => c2 z.2), if_neg c2, e14, sI_rd]
          by_cases c3 : j = 1678 + 3 * (qQ d).toNat
          · rw [if_pos ⟨rfl, c3⟩, if_pos c3]
          · rw [if_neg (fun z => c3 z.2), if_neg c3, v7 j (by omega)]
    have t18 : dI d18 336 354 = dI d 336 354 := by
      rw [e18, sI_rd, if_neg (fun z => by have := z.2; omega), e14, sI_rd, if_neg (fun z => by have := z.2; omega), v7 354 (by omega)]
    have m353 : rw_ d26 353 = dI d7 336 353 := (v26 353 (by decide)).trans (v24 353 (by decide))
    refine ⟨?_, ?_, ?_, fun i hi => ?_, ?_, ?_, ?_⟩
    · show (dI d26 336 557).toInt = qQ d + 1
      rw [e26, sI_rd, if_pos ⟨rfl, e557.symm⟩]
      exact k26
    · show (dI d26 336 354).toInt = (dI d 336 354).toInt
      rw [v26 354 (by decide), v24 354 (by decide), v7 354 (by omega)]
    · rw [m353]; exact w7
    · have hi2 : (i : Int) < qQ d := hi
      refine ⟨?_, ?_, ?_⟩
      · show dI d26 336 (1678 + 3 * i) = dI d 336 (1678 + 3 * i)
        rw [w26 _ (by omega), if_neg (by omega), if_neg (by omega), if_neg (by omega)]
      · show dI d26 336 (1678 + 3 * i + 1) = dI d 336 (1678 + 3 * i + 1)
        rw [w26 _ (by omega), if_neg (by omega), if_neg (by omega), if_neg (by omega)]
      · show (dI d26 336 (1678 + 3 * i + 2)).toInt = (dI d 336 (1678 + 3 * i + 2)).toInt
        rw [w26 _ (by omega), if_neg (by omega), if_neg (by omega), if_neg (by omega)]
    · show dI d26 336 (1678 + 3 * (qQ d).toNat) = x1
      rw [w26 _ (by omega), if_neg (by omega), if_neg (by omega), if_pos rfl]
    · rw [m353, ← hzb]
      show dI d26 336 (1678 + 3 * (qQ d).toNat + 1) = 1 ↔ _
      rw [w26 _ (by omega), if_neg (by omega), if_pos rfl]
    · show (dI d26 336 (1678 + 3 * (qQ d).toNat + 2)).toInt = (dI d 336 354).toInt
      rw [w26 _ (by omega), if_pos rfl, t18]
  refine ok_cb (sX12_has hS h7.1) (fun u10 d8 hr => ?_)
  obtain ⟨hd, hu⟩ := hr
  rw [hd]
  rw [e353] at hu
  rcases hu with ⟨hu, hb⟩ | ⟨hu, hb⟩ <;> rw [hu]
  · refine ok_mono ?_ (fun u d' h => h)
    have := key 1 (by decide) ⟨fun _ => hb, fun _ => rfl⟩ 1
    have n1 : ¬ (1 : Int32) = 0 := by decide
    simp only [if_neg n1]
    exact this
  · have := key 0 (by decide) ⟨fun z => absurd z (by decide), fun z => absurd z hb⟩ 0
    simp only [if_pos rfl]
    exact this
/-! one event worked off -/
theorem sX12_plays__11 {g : Gs} (hS : Shp g) {b B : Nat → Int} {x0 : Nat} (hlb : LeB b B (336) 16) (hx0 : cls x0 = 11) {x1 : Int32} {d : Ds} (hx1n : 0 ≤ x1.toInt) (hB : Bnd b d) : ok (fX12_plays 10000 g x0 x1 d) (fun u d' => Inv m_sX12_plays__11 B d d' ∧ True) := by
  have hI : Inv m_sX12_plays__11 b d d := Inv.rf hB
  unfold fX12_plays
  refine ok_gd (kd_11 hS hx0) ?_
  refine ok_ob (mo_now hS hx0) ?_
  refine ok_gd (kd_55 hS now_55) ?_
  refine ok_gd (ixg (by decide : iv (11 : Int32) 11 11) (ln_55 hS now_55) (by decide)) ?_
  refine ok_if (fun c => ?_) (fun _ => ok_some ⟨Inv.mono hlb.1 hI, trivial⟩)
  have h5 := iv.w (c := -2147483648) (e := 3) (lt_l c (ivT _) (rdN_11 hI.1 now_55)) (by decide)
  have hx1 : iv x1 0 3 := ⟨hx1n, h5.2⟩
  refine ok_bd (fun u6 e6 => ?_)
  have i6 : iv u6 316 343 := iv_e e6 (iv_add (l := 316) (h := 343) (by decide : iv (316 : Int32) 316 316) (iv_mul (l := 0) (h := 27) (by decide : iv (9 : Int32) 9 9) hx1 (by decide)) (by decide))
  unfold fX12_plays_L23
  refine ok_lp (fun a => a.1 = u6 ∧ iv a.2.1 1 9 ∧ ∃ b1, Inv m_sX12_plays__11 b1 d a.2.2 ∧ LeB b1 B (336) (18 - 2 * a.2.1.toInt)) (fun a => (10 - a.2.1.toInt).toNat) ?_ 10000 _ ⟨rfl, (by decide : iv (1 : Int32) 1 9), b, hI, hlb.w (by have : (1 : Int32).toInt = 1 := (by decide); dsimp only; omega)⟩ (by have : (1 : Int32).toInt = 1 := (by decide); dsimp only; omega)
  rintro K23 ⟨y2, y3, dd⟩ ⟨hy, i3, b1, hI, hl⟩ hK
  dsimp only at hy i3 hI hl hK ⊢
  subst hy
  unfold fX12_plays_B23
  refine ok_gd (kd_11 hS hx0) ?_
  refine ok_ob (mo_now hS hx0) ?_
  refine ok_gd (kd_55 hS now_55) ?_
  refine ok_gd (ixg i6 (ln_55 hS now_55) (by decide)) ?_
  refine ok_if (fun c2 => ok_some ⟨Inv.mono hl.1 hI, trivial⟩) (fun c2 => ?_)
  have k8 := rdN_ml hI.1 now_55 hx1
  rw [← e6] at k8
  have j3 : iv y3 1 8 := ⟨i3.1, (le_l (nlt c2) i3 k8).2⟩
  have t1 := j3.1
  have t2 := j3.2
  refine ok_gd (ixg (iv_add (l := 317) (h := 351) i6 j3 (by decide)) (ln_55 hS now_55) (by decide)) ?_
  refine ok_gd (ixg (by decide : iv (454 : Int32) 454 454) (ln_55 hS now_55) (by decide)) ?_
  refine ok_bd (fun d14 e7 => ?_)
  have h8 := Inv.set e7 hI (by rw [now_55]; exact (okN_b (by decide : iv (454 : Int32) 454 454) (by decide))) (mN (n := 5) now_55 (by decide : iv (454 : Int32) 454 454) (by decide) (by decide +kernel)) (nN now_55 (by decide : iv (454 : Int32) 454 454) (by decide +kernel))
  refine ok_cv (sX12_reports__11 hS (LeB.use (k' := 1) hl (by omega)) hx0 h8.1) (fun d15 r => ?_)
  have h12 := Inv.call h8 r.1 (by decide +kernel)
  have l13 := LeB.rest (k' := 1) hl (by omega)
  refine ok_bd (fun d17 e14 => ?_)
  have h15 := Inv.set e14 h12 (by rw [now_55]; exact (okN_b (by decide : iv (454 : Int32) 454 454) (by decide))) (mN (n := 5) now_55 (by decide : iv (454 : Int32) 454 454) (by decide) (by decide +kernel)) (nN now_55 (by decide : iv (454 : Int32) 454 454) (by decide +kernel))
  refine ok_cv (sX12_reports__11 hS (LeB.use (k' := 1) l13 (by omega)) hx0 h15.1) (fun d18 r => ?_)
  have h19 := Inv.call h15 r.1 (by decide +kernel)
  have l20 := LeB.rest (k' := 1) l13 (by omega)
  refine ok_bd (fun u20 e21 => ?_)
  have q2 := z_add (x := y3) (y := 1) rfl (by decide : (1 : Int32).toInt = 1) (by omega) (by omega)
  refine hK _ ⟨rfl, iv.w (iv_e e21 (iv_add (l := 2) (h := 9) j3 (by decide : iv (1 : Int32) 1 1) (by decide))) (by decide), _, h19, LeB.w l20 (by dsimp only; rw [e21, q2]; omega)⟩ (by dsimp only; rw [e21, q2]; omega)
theorem sX12_chords_c {g : Gs} (hS : Shp g) {b B : Nat → Int} {x0 : Nat} (hlb : LeB b B (336) 16) (hx0 : cls x0 = 11) {x1 : Int32} (hx1 : iv x1 0 3) {x2 : Int32} (hx2 : iv x2 0 23) {x3 : Int32} (hx3 : iv x3 0 23) {d : Ds} (hP : PLf (rw_ d)) (hB : Bnd b d) : ok (fX12_chords 10000 g x0 x1 x2 x3 d) (fun u d' => Inv m_sX12_chords__11 B d d' ∧ True) := by
  have hI : Inv m_sX12_chords__11 b d d := Inv.rf hB
  have i300 := iv_add (l := 300) (h := 312) (by decide : iv (300 : Int32) 300 300) (iv_mul (l := 0) (h := 12) (by decide : iv (4 : Int32) 4 4) hx1 (by decide)) (by decide)
  have k1 := z_mul (x := (4 : Int32)) (y := x1) (show (4 : Int32).toInt = 4 by decide) rfl (by have := hx1.1; omega) (by have := hx1.2; omega)
  have k2 := z_add (x := (300 : Int32)) (y := (4 : Int32) * x1) (show (300 : Int32).toInt = 300 by decide) k1 (by have := hx1.1; omega) (by have := hx1.2; omega)
  have k3 := z_add (x := (300 : Int32) + (4 : Int32) * x1) (y := 2) k2 (show (2 : Int32).toInt = 2 by decide) (by have := hx1.1; omega) (by have := hx1.2; omega)
  have k4 := z_add (x := (300 : Int32) + (4 : Int32) * x1) (y := 3) k2 (show (3 : Int32).toInt = 3 by decide) (by have := hx1.1; omega) (by have := hx1.2; omega)
  have n3 : ((300 : Int32) + (4 : Int32) * x1 + 2).toNatClampNeg = 300 + 4 * x1.toInt.toNat + 2 := by
    show ((300 : Int32) + (4 : Int32) * x1 + 2).toInt.toNat = _
    rw [k3]; have := hx1.1; omega
  have n4 : ((300 : Int32) + (4 : Int32) * x1 + 3).toNatClampNeg = 300 + 4 * x1.toInt.toNat + 3 := by
    show ((300 : Int32) + (4 : Int32) * x1 + 3).toInt.toNat = _
    rw [k4]; have := hx1.1; omega
  have hp := hP.2 x1.toInt.toNat (by have := hx1.2; omega)
  unfold fX12_chords
  refine ok_gd (kd_11 hS hx0) ?_
  refine ok_ob (mo_now hS hx0) ?_
  refine ok_gd (kd_55 hS now_55) ?_
  refine ok_gd (ixg (iv_add (l := 302) (h := 314) i300 (by decide : iv (2 : Int32) 2 2) (by decide)) (ln_55 hS now_55) (by decide)) ?_
  refine ok_bd (fun u5 e5 => ?_)
  refine ok_gd (ixg (iv_add (l := 303) (h := 315) i300 (by decide : iv (3 : Int32) 3 3) (by decide)) (ln_55 hS now_55) (by decide)) ?_
  refine ok_bd (fun u7 e7 => ?_)
  refine ok_if (fun c => ?_) (fun c => ?_)
  · refine ok_cv (sX12_plays__11 hS (hlb.w (by decide)) hx0 ?_ hB) (fun d15 r => ok_some ⟨Inv.call hI r.1 (by decide +kernel), trivial⟩)
    rw [e7, n4]
    refine hp ?_
    show dI d 336 (300 + 4 * x1.toInt.toNat + 2) = 9
    rw [← n3, ← e5]
    exact c
  · refine ok_cv (sX12_begin__11 hS hx0 hx2 hB) (fun d9 r => ?_)
    have h9 := Inv.call hI r.1 (by decide +kernel)
    refine ok_cv (sX12_begin__11 hS hx0 hx3 h9.1) (fun d11 r => ?_)
    have h11 := Inv.call h9 r.1 (by decide +kernel)
    refine ok_gd (ixg (by decide : iv (453 : Int32) 453 453) (ln_55 hS now_55) (by decide)) ?_
    refine ok_bd (fun d14 e14 => ?_)
    have h14 := Inv.set e14 h11 (by rw [now_55]; exact (okN_b (by decide : iv (453 : Int32) 453 453) (by decide))) (mN (n := 5) now_55 (by decide : iv (453 : Int32) 453 453) (by decide) (by decide +kernel)) (nN now_55 (by decide : iv (453 : Int32) 453 453) (by decide +kernel))
    exact ok_some ⟨Inv.mono hlb.1 h14, trivial⟩
theorem sX12_doesPlainly_c {g : Gs} (hS : Shp g) {b B : Nat → Int} {x0 : Nat} (hlb : LeB b B (336) 16) (hx0 : cls x0 = 11) {x1 : Int32} (hx1 : iv x1 0 23) {x2 : Int32} {x3 : Int32} {d : Ds} (hP : x2 = 9 → 0 ≤ x3.toInt) (hB : Bnd b d) : ok (fX12_doesPlainly 10000 g x0 x1 x2 x3 d) (fun u d' => Inv m_sX12_doesPlainly__11 B d d' ∧ True) := by
  have hI : Inv m_sX12_doesPlainly__11 b d d := Inv.rf hB
  have j31 : ∀ dd, Inv m_sX12_doesPlainly__11 b d dd → ok (fX12_doesPlainly_J31 10000 g x0 x1 x2 x3 dd) (fun u d' => Inv m_sX12_doesPlainly__11 B d d' ∧ True) := by
    intro dd hI
    unfold fX12_doesPlainly_J31
    refine ok_if (fun c => ?_) (fun _ => ?_)
    · refine ok_gd (kd_11 hS hx0) ?_
      refine ok_cv (sX12_plays__11 hS (hlb.w (by decide)) hx0 (hP c) hI.1) (fun d5 r => ?_)
      unfold fX12_doesPlainly_J42
      exact ok_some ⟨Inv.call hI r.1 (by decide +kernel), trivial⟩
    · unfold fX12_doesPlainly_J42
      exact ok_some ⟨Inv.mono hlb.1 hI, trivial⟩
  have j12 : ∀ dd, Inv m_sX12_doesPlainly__11 b d dd → ok (fX12_doesPlainly_J12 10000 g x0 x1 x2 x3 dd) (fun u d' => Inv m_sX12_doesPlainly__11 B d d' ∧ True) := by
    intro dd hI
    unfold fX12_doesPlainly_J12
    refine ok_if (fun _ => ?_) (fun _ => j31 _ hI)
    refine ok_gd (kd_11 hS hx0) ?_
    refine ok_ob (mo_now hS hx0) ?_
    refine ok_gd (kd_55 hS now_55) ?_
    refine ok_gd (ixg (by decide : iv (452 : Int32) 452 452) (ln_55 hS now_55) (by decide)) ?_
    refine ok_bd (fun d11 e11 => ?_)
    exact j31 _ (Inv.set e11 hI (by rw [now_55]; exact (okN_b (by decide : iv (452 : Int32) 452 452) (by decide))) (mN (n := 5) now_55 (by decide : iv (452 : Int32) 452 452) (by decide) (by decide +kernel)) (nN now_55 (by decide : iv (452 : Int32) 452 452) (by decide +kernel)))
  unfold fX12_doesPlainly
  refine ok_if (fun _ => j12 _ hI) (fun _ => ?_)
  refine ok_gd (kd_11 hS hx0) ?_
  refine ok_cv (sX12_begin__11 hS hx0 hx1 hB) (fun d13 r => ?_)
  exact j12 _ (Inv.call hI r.1 (by decide +kernel))
theorem qle_q1 {d d' : Ds} (h : qle d d') (hq : 1 ≤ qQ d) : 0 ≤ qQ d' := h.2.1
theorem sX12_worksAlone_c {g : Gs} (hS : Shp g) {b B : Nat → Int} {x0 : Nat} (hlb : LeB b B (336) 17) (hx0 : cls x0 = 11) {x1 : Int32} (hx1 : iv x1 0 23) {x2 : Int32} (hx2 : iv x2 0 2147480000) {d : Ds} (hP : PLf (rw_ d)) (hA : QA (rw_ d)) (hq : 1 ≤ qQ d) (hD : fD (rw_ d) 0 = 1) (hK : fK (rw_ d) 0 = x1) (hB : Bnd b d) : ok (fX12_worksAlone 10000 g x0 x1 x2 d) (fun u d' => Inv m_sX12_worksAlone__11 B d d' ∧ (u = 1 ∧ qle d d' ∨ u = 0 ∧ d' = d ∧ fTm (rw_ d) < x2.toInt + 99)) := by
  have hI : Inv m_sX12_worksAlone__11 b d d := Inv.rf hB
  have j190 : ∀ (b1 : Nat → Int) (dd : Ds), LeB b1 B (336) 1 → Inv m_sX12_worksAlone__11 b1 d dd → qle d dd → ok (fX12_worksAlone_J190 10000 g x0 x1 x2 dd) (fun u d' => Inv m_sX12_worksAlone__11 B d d' ∧ (u = 1 ∧ qle d d' ∨ u = 0 ∧ d' = d ∧ fTm (rw_ d) < x2.toInt + 99)) := by
    intro b1 dd hl hI hle
    unfold fX12_worksAlone_J190
    refine ok_gd (kd_11 hS hx0) ?_
    refine ok_cv (sX12_reports__11 hS hl hx0 hI.1) (fun d28 r => ?_)
    exact ok_some ⟨Inv.call hI r.1 (by decide +kernel), Or.inl ⟨rfl, hle.sm (q_frm r.1 (by decide +kernel) (by decide +kernel) (by decide +kernel) (by decide +kernel))⟩⟩
  have jb : ∀ (dd : Ds) (k z y : Int32), iv k 0 23 → Inv m_sX12_worksAlone__11 b d dd → qle d dd → ok (cv (fX12_begin 10000 g x0 k z y dd) fun d30 => fX12_worksAlone_J190 10000 g x0 x1 x2 d30) (fun u d' => Inv m_sX12_worksAlone__11 B d d' ∧ (u = 1 ∧ qle d d' ∨ u = 0 ∧ d' = d ∧ fTm (rw_ d) < x2.toInt + 99)) := by
    intro dd k z y hk hI hle
    refine ok_cv (sX12_begin__11 hS hx0 hk hI.1) (fun d30 r => ?_)
    exact j190 b d30 (hlb.w (by decide)) (Inv.call hI r.1 (by decide +kernel)) (hle.sm (q_frm r.1 (by decide +kernel) (by decide +kernel) (by decide +kernel) (by decide +kernel)))
  have j58 : ∀ y4 y5 y6 : Int32, ok (fX12_worksAlone_J58 10000 g x0 x1 x2 y4 y5 y6 d) (fun u d' => Inv m_sX12_worksAlone__11 B d d' ∧ (u = 1 ∧ qle d d' ∨ u = 0 ∧ d' = d ∧ fTm (rw_ d) < x2.toInt + 99)) := by
    intro y4 y5 y6
    unfold fX12_worksAlone_J58
    refine ok_gd (kd_11 hS hx0) ?_
    refine ok_cb (sX12_heldOrTapped_c hS hx0 hx2 hq hB) (fun u18 d16 r => ?_)
    obtain ⟨hd, hu, hw⟩ := r
    rw [hd]
    refine ok_if (fun _ => ?_) (fun c => ?_)
    · refine ok_cv (sX12_drops_c hS hx0 (by decide : (0 : Int) ≤ (0 : Int32).toInt) (show (0 : Int32).toInt < qQ d by have : (0 : Int32).toInt = 0 := (by decide); omega) hB) (fun d20 r => ?_)
      have h20 := Inv.call hI r.1 (by decide +kernel)
      have l20 := qle_drop0 r.2 (by omega)
      refine ok_if (fun _ => ?_) (fun _ => ?_)
      · refine ok_cv (sX12_begin__11 hS hx0 hx1 h20.1) (fun d30 r => ?_)
        unfold fX12_worksAlone_J113
        exact j190 b d30 (hlb.w (by decide)) (Inv.call h20 r.1 (by decide +kernel)) (l20.sm (q_frm r.1 (by decide +kernel) (by decide +kernel) (by decide +kernel) (by decide +kernel)))
      · refine ok_if (fun _ => ?_) (fun _ => ?_)
        · unfold fX12_worksAlone_J108
          refine ok_gd (kd_11 hS hx0) ?_
          unfold fX12_worksAlone_J113
          exact jb d20 x1 _ _ hx1 h20 l20
        · unfold fX12_worksAlone_J108
          refine ok_gd (kd_11 hS hx0) ?_
          unfold fX12_worksAlone_J113
          exact jb d20 x1 _ _ hx1 h20 l20
    · have c2 := Int32.lt_iff_toInt_lt.mp (nle c)
      exact ok_some ⟨Inv.mono hlb.1 hI, Or.inr ⟨rfl, rfl, hw (by have : (0 : Int32).toInt = 0 := (by decide); omega)⟩⟩
  unfold fX12_worksAlone
  refine ok_gd (kd_11 hS hx0) ?_
  refine ok_cb (sX12_layerOf__11 hS hx0 hx1 hB) (fun u4 d2 r => ?_)
  obtain ⟨hd, i4⟩ := r
  rw [hd]
  refine ok_bd (fun u5 e5 => ?_)
  have k1 := z_mul (x := (24 : Int32)) (y := u4) (show (24 : Int32).toInt = 24 by decide) rfl (by have := i4.1; omega) (by have := i4.2; omega)
  have k2 := z_add (x := (24 : Int32) * u4) (y := x1) k1 rfl (by have := i4.1; have := hx1.1; omega) (by have := i4.2; have := hx1.2; omega)
  have k3 := z_mul (x := (3 : Int32)) (y := (24 : Int32) * u4 + x1) (show (3 : Int32).toInt = 3 by decide) k2 (by have := i4.1; have := hx1.1; omega) (by have := i4.2; have := hx1.2; omega)
  have k4 := z_add (x := (12 : Int32)) (y := (3 : Int32) * ((24 : Int32) * u4 + x1)) (show (12 : Int32).toInt = 12 by decide) k3 (by have := i4.1; have := hx1.1; omega) (by have := i4.2; have := hx1.2; omega)
  rw [← e5] at k4
  have i5 : iv u5 12 297 := ⟨by rw [k4]; have := i4.1; have := hx1.1; omega, by rw [k4]; have := i4.2; have := hx1.2; omega⟩
  have k5 := z_add (x := u5) (y := 1) rfl (show (1 : Int32).toInt = 1 by decide) (by have := i5.1; omega) (by have := i5.2; omega)
  have n5 : u5.toNatClampNeg = 12 + 3 * (24 * u4.toInt + x1.toInt).toNat := by
    show u5.toInt.toNat = _
    rw [k4]; have := i4.1; have := hx1.1; omega
  have n6 : (u5 + 1).toNatClampNeg = 12 + 3 * (24 * u4.toInt + x1.toInt).toNat + 1 := by
    show (u5 + 1).toInt.toNat = _
    rw [k5, k4]; have := i4.1; have := hx1.1; omega
  have hp := hP.1 (24 * u4.toInt + x1.toInt).toNat (by have := i4.2; have := hx1.2; omega)
  refine ok_ob (mo_now hS hx0) ?_
  refine ok_gd (kd_55 hS now_55) ?_
  refine ok_gd (ixg i5 (ln_55 hS now_55) (by decide)) ?_
  refine ok_bd (fun u9 e9 => ?_)
  refine ok_gd (ixg (iv_add (l := 13) (h := 298) i5 (by decide : iv (1 : Int32) 1 1) (by decide)) (ln_55 hS now_55) (by decide)) ?_
  refine ok_bd (fun u11 e11 => ?_)
  refine ok_gd (ixg (iv_add (l := 14) (h := 299) i5 (by decide : iv (2 : Int32) 2 2) (by decide)) (ln_55 hS now_55) (by decide)) ?_
  refine ok_bd (fun u13 _ => ?_)
  have hq0 : (0 : Int32).toInt < qQ d := by have : (0 : Int32).toInt = 0 := (by decide); omega
  refine ok_if (fun _ => j58 _ _ _) (fun _ => ok_if (fun _ => j58 _ _ _) (fun _ => ok_if (fun _ => ?_) (fun _ => ?_)))
  · refine ok_cb (sX12_onceOrTwice_c hS hx0 hx2 hq hB) (fun u40 d38 r => ?_)
    obtain ⟨hd, hu, hj, hw⟩ := r
    rw [hd]
    have j154 : ∀ dd, Inv m_sX12_worksAlone__11 b d dd → qle d dd → ok (fX12_worksAlone_J154 10000 g x0 x1 x2 u11 u13 u40 dd) (fun u d' => Inv m_sX12_worksAlone__11 B d d' ∧ (u = 1 ∧ qle d d' ∨ u = 0 ∧ d' = d ∧ fTm (rw_ d) < x2.toInt + 99)) := by
      intro dd hI hle
      unfold fX12_worksAlone_J154
      refine ok_if (fun _ => ?_) (fun _ => ?_)
      · unfold fX12_worksAlone_J170
        exact ok_gd (kd_11 hS hx0) (jb dd x1 _ _ hx1 hI hle)
      · unfold fX12_worksAlone_J170
        exact ok_gd (kd_11 hS hx0) (jb dd x1 _ _ hx1 hI hle)
    refine ok_if (fun _ => ?_) (fun c => ?_)
    · refine ok_cv (sX12_drops_c hS hx0 (by decide : (0 : Int) ≤ (0 : Int32).toInt) hq0 hB) (fun d42 r => ?_)
      have h42 := Inv.call hI r.1 (by decide +kernel)
      have l42 := qle_drop0 r.2 (by omega)
      have hF : dropF (rw_ d) (rw_ d42) 0 := dropE_F r.2
      have hQ1 : fQ (rw_ d42) = fQ (rw_ d) - 1 := hF.1
      refine ok_if (fun c1 => ?_) (fun _ => j154 _ h42 l42)
      obtain ⟨J, g1, g2, g3, g4, g5⟩ := hj c1
      -- between the two downs of the key lies an up
      obtain ⟨l, l1, l2, l3, l4⟩ := hA.1 0 J (by omega) g2 hD g4 (hK.trans g5.symm)
      have sh : ∀ i : Nat, 1 ≤ i → (i : Int) < fQ (rw_ d) → fK (rw_ d42) (i - 1) = fK (rw_ d) i ∧ fD (rw_ d42) (i - 1) = fD (rw_ d) i := by
        intro i hi hi2
        have a0 := drop_at hF (i := i - 1) (k := 0) (by decide) (by omega)
        have a1 := drop_at hF (i := i - 1) (k := 1) (by decide) (by omega)
        rw [if_pos (Nat.zero_le _)] at a0 a1
        have ei : i - 1 + 1 = i := by omega
        rw [ei] at a0 a1
        exact ⟨a0, a1⟩
      have pj : preT (rw_ d42) 0 x1 (J - 1) := by
        refine ⟨by omega, by omega, fun i _ hi => ?_, ?_, ?_⟩
        · have := (sh (i + 1) (by omega) (by omega)).2
          rw [show i + 1 - 1 = i by omega] at this
          rw [this]
          exact g3 (i + 1) (by omega) (by omega)
        · rw [(sh J g1 g2).2]; exact g4
        · rw [(sh J g1 g2).1]; exact g5
      refine ok_cv (sX12_dropsTwo_c hS hx0 pj (l := l - 1) ⟨by omega, by rw [(sh l (by omega) (by omega)).1, l3]; exact hK⟩ h42.1) (fun d49 r2 => ?_)
      exact j154 _ (Inv.call h42 r2.1 (by decide +kernel)) (l42.tr r2.2)
    · have c2 := Int32.lt_iff_toInt_lt.mp (nle c)
      exact ok_some ⟨Inv.mono hlb.1 hI, Or.inr ⟨rfl, rfl, hw (by have : (0 : Int32).toInt = 0 := (by decide); omega)⟩⟩
  · refine ok_cv (sX12_drops_c hS hx0 (by decide : (0 : Int) ≤ (0 : Int32).toInt) hq0 hB) (fun d34 r => ?_)
    have h34 := Inv.call hI r.1 (by decide +kernel)
    have l34 := qle_drop0 r.2 (by omega)
    have hp9 : u9 = 9 → 0 ≤ u11.toInt := by
      intro z
      rw [e11, n6]
      refine hp ?_
      show dI d 336 (12 + 3 * (24 * u4.toInt + x1.toInt).toNat) = 9
      rw [← n5, ← e9]
      exact z
    refine ok_cv (sX12_doesPlainly_c hS (LeB.use (k' := 16) hlb (by decide)) hx0 hx1 hp9 h34.1) (fun d36 r2 => ?_)
    exact j190 _ d36 (LeB.rest (k' := 16) hlb (by decide)) (Inv.call h34 r2.1 (by decide +kernel)) (l34.sm (q_frm r2.1 (by decide +kernel) (by decide +kernel) (by decide +kernel) (by decide +kernel)))
theorem sX12_works_c {g : Gs} (hS : Shp g) {b B : Nat → Int} {x0 : Nat} (hlb : LeB b B (336) 17) (hx0 : cls x0 = 11) {d : Ds} (hP : PLf (rw_ d)) (hA : QA (rw_ d)) (hq : 1 ≤ qQ d) (hB : Bnd b d) : ok (fX12_works 10000 g x0 d) (fun u d' => Inv m_sX12_works__11 B d d' ∧ (u = 1 ∧ qle d d' ∨ u = 0 ∧ d' = d ∧ fTm (rw_ d) < fT (rw_ d) 0 + 99)) := by
  have hI : Inv m_sX12_works__11 b d d := Inv.rf hB
  have i0 : iv (0 : Int32) 0 2499 := by decide
  have z0 : (0 : Int32).toInt.toNat = 0 := by decide
  have zz : (0 : Int32).toInt = 0 := by decide
  have z1 : (1 : Int32).toInt.toNat = 1 := by decide
  have zo : (1 : Int32).toInt = 1 := by decide
  have ho : own 336 = 336 := by decide +kernel
  have hbo : b (own 336) ≤ 2147480000 := by rw [ho]; have := hlb.1 336; have := hlb.2.2; omega
  have kq : ∀ i : Nat, i < 2500 → iv (dI d 336 (1678 + 3 * i)) 0 23 := fun i hi => (rd_q hB (j := 1678 + 3 * i) (by omega)).2.2.2.2.2.2.2.2.2.2.2.2.1 (by omega)
  have kt : ∀ i : Nat, i < 2500 → iv (dI d 336 (1678 + 3 * i + 2)) 0 2147480000 := fun i hi => iv.w ((rd_q hB (j := 1678 + 3 * i + 2) (by omega)).2.2.2.2.2.2.2.2.2.2.2.2.2.2 (by omega)) ⟨by decide, hbo⟩
  have hq0 : (0 : Int32).toInt < qQ d := by omega
  have hQ : qQ d ≤ 2500 := (qQ_iv hB).2
  unfold fX12_works
  refine ok_gd (kd_11 hS hx0) ?_
  refine ok_cb (sX12_keyAt_c hS hx0 i0) (fun u4 d2 r => ?_)
  obtain ⟨hd, hk⟩ := r
  rw [hd]
  rw [z0] at hk
  have i4 : iv u4 0 23 := by rw [hk]; exact kq 0 (by decide)
  refine ok_cb (sX12_isDownAt_c hS hx0 i0) (fun u7 d5 r => ?_)
  obtain ⟨hd, hu⟩ := r
  rw [hd]
  rw [z0] at hu
  rcases hu with ⟨hu, hD⟩ | ⟨hu, hD⟩ <;> rw [hu]
  · refine ok_if (fun z => absurd z (by decide)) (fun _ => ?_)
    refine ok_cb (sX12_timeAt_c hS hx0 i0) (fun u11 d9 r => ?_)
    obtain ⟨hd, ht⟩ := r
    rw [hd]
    rw [z0] at ht
    have i11 : iv u11 0 2147480000 := by rw [ht]; exact kt 0 (by decide)
    have t11 : u11.toInt = fT (rw_ d) 0 := by rw [ht]; rfl
    have j179 : ok (fX12_works_J179 10000 g x0 u4 u11 d) (fun u d' => Inv m_sX12_works__11 B d d' ∧ (u = 1 ∧ qle d d' ∨ u = 0 ∧ d' = d ∧ fTm (rw_ d) < fT (rw_ d) 0 + 99)) := by
      unfold fX12_works_J179
      refine ok_gd (kd_11 hS hx0) ?_
      refine ok_cb (sX12_worksAlone_c hS hlb hx0 i4 i11 hP hA hq hD (by rw [hk]; rfl) hB) (fun u19 d17 r => ?_)
      obtain ⟨h17, hr⟩ := r
      rw [t11] at hr
      refine ok_gd (hr.elim (fun z => Or.inr z.1) (fun z => Or.inl z.1)) (ok_some ⟨Inv.call hI h17 (by decide +kernel), hr⟩)
    refine ok_cb (sX12_chordOf__11 hS hx0 i4 hB) (fun u14 d12 r => ?_)
    obtain ⟨hd, i14⟩ := r
    rw [hd]
    refine ok_if (fun _ => j179) (fun c14 => ?_)
    have j14 := iv.w (c := 0) (e := 3) (le_r (nlt c14) (by decide : iv (0 : Int32) 0 0) i14) (by decide)
    have i300 := iv_add (l := 300) (h := 312) (by decide : iv (300 : Int32) 300 300) (iv_mul (l := 0) (h := 12) (by decide : iv (4 : Int32) 4 4) j14 (by decide)) (by decide)
    refine ok_ob (mo_now hS hx0) ?_
    refine ok_gd (kd_55 hS now_55) ?_
    refine ok_gd (ixg i300 (ln_55 hS now_55) (by decide)) ?_
    refine ok_gd (ixg (iv_add (l := 301) (h := 313) i300 (by decide : iv (1 : Int32) 1 1) (by decide)) (ln_55 hS now_55) (by decide)) ?_
    refine ok_bd (fun u25 _ => ?_)
    refine ok_bd (fun u26 _ => ?_)
    refine ok_gd (ixg (by decide : iv (6 : Int32) 6 6) (ln_55 hS now_55) (by decide)) ?_
    refine ok_bd (fun u28 e28 => ?_)
    have h6 := rdN_6 hB now_55
    have q28 := z_add (x := u11) (y := dI d 336 (6 : Int32).toNatClampNeg) rfl rfl (by have := i11.1; have := h6.1; omega) (by have := i11.2; have := h6.2; omega)
    rw [← e28] at q28
    refine ok_gd (ixg (by decide : iv (557 : Int32) 557 557) (ln_55 hS now_55) (by decide)) ?_
    have q0 : (dI d 336 (557 : Int32).toNatClampNeg).toInt = qQ d := by rw [e557]; rfl
    have j115 : ok (fX12_works_J115 10000 g x0 u4 u11 u14 u26 u28 d) (fun u d' => Inv m_sX12_works__11 B d d' ∧ (u = 1 ∧ qle d d' ∨ u = 0 ∧ d' = d ∧ fTm (rw_ d) < fT (rw_ d) 0 + 99)) := by
      unfold fX12_works_J115
      refine ok_gd (kd_11 hS hx0) ?_
      refine ok_ob (mo_now hS hx0) ?_
      refine ok_gd (kd_55 hS now_55) ?_
      refine ok_gd (ixg (by decide : iv (557 : Int32) 557 557) (ln_55 hS now_55) (by decide)) ?_
      refine ok_if (fun _ => j179) (fun c => ?_)
      have c2 := Int32.lt_iff_toInt_lt.mp (nle c)
      rw [q0, zo] at c2
      have i1 : iv (1 : Int32) 0 2499 := by decide
      refine ok_cb (sX12_isDownAt_c hS hx0 i1) (fun u38 d36 r => ?_)
      obtain ⟨hd, -⟩ := r
      rw [hd]
      refine ok_if (fun _ => j179) (fun _ => ?_)
      refine ok_cb (sX12_keyAt_c hS hx0 i1) (fun u42 d40 r => ?_)
      obtain ⟨hd, hk1⟩ := r
      rw [hd]
      refine ok_if (fun ck => ?_) (fun _ => j179)
      have i26 : iv u26 0 23 := by rw [← ck, hk1, z1]; exact kq 1 (by decide)
      refine ok_cb (sX12_timeAt_c hS hx0 i1) (fun u46 d44 r => ?_)
      obtain ⟨hd, -⟩ := r
      rw [hd]
      refine ok_if (fun _ => j179) (fun _ => ?_)
      refine ok_cv (sX12_drops_c hS hx0 (by decide : (0 : Int) ≤ (0 : Int32).toInt) hq0 hB) (fun d48 r1 => ?_)
      have h48 := Inv.call hI r1.1 (by decide +kernel)
      have l48 := qle_drop0 r1.2 (by omega)
      have q48 : qQ d48 = qQ d - 1 := r1.2.1
      refine ok_cv (sX12_drops_c hS hx0 (by decide : (0 : Int) ≤ (0 : Int32).toInt) (by omega) h48.1) (fun d50 r2 => ?_)
      have h50 := Inv.call h48 r2.1 (by decide +kernel)
      have l50 := l48.tr (qle_drop0 r2.2 (by omega))
      have hP50 : PLf (rw_ d50) := by
        have lo : ∀ j, j < 316 → rw_ d50 j = rw_ d j := fun j hj => (drop_lo (dropE_F r2.2) (by omega) (by omega)).trans (drop_lo (dropE_F r1.2) (by omega) (by omega))
        refine ⟨fun i hi => ?_, fun c hc => ?_⟩
        · rw [lo _ (by omega), lo _ (by omega)]; exact hP.1 i hi
        · rw [lo _ (by omega), lo _ (by omega)]; exact hP.2 c hc
      refine ok_cv (sX12_chords_c hS (LeB.use (k' := 16) hlb (by decide)) hx0 j14 i4 i26 hP50 h50.1) (fun d52 r3 => ?_)
      have h52 := Inv.call h50 r3.1 (by decide +kernel)
      have l52 := l50.sm (q_frm r3.1 (by decide +kernel) (by decide +kernel) (by decide +kernel) (by decide +kernel))
      refine ok_cv (sX12_reports__11 hS (LeB.rest (k' := 16) hlb (by decide)) hx0 h52.1) (fun d54 r4 => ?_)
      exact ok_some ⟨Inv.call h52 r4.1 (by decide +kernel), Or.inl ⟨rfl, l52.sm (q_frm r4.1 (by decide +kernel) (by decide +kernel) (by decide +kernel) (by decide +kernel))⟩⟩
    refine ok_if (fun _ => ?_) (fun _ => j115)
    refine ok_gd (ixg (by decide : iv (354 : Int32) 354 354) (ln_55 hS now_55) (by decide)) ?_
    refine ok_if (fun _ => j115) (fun c => ?_)
    have c2 := Int32.lt_iff_toInt_lt.mp (nle c)
    rw [e354] at c2
    refine ok_some ⟨Inv.mono hlb.1 hI, Or.inr ⟨rfl, rfl, ?_⟩⟩
    show (dI d 336 354).toInt < _
    have := h6.2
    omega
  · refine ok_if (fun _ => ?_) (fun z => absurd rfl z)
    refine ok_cv (sX12_drops_c hS hx0 (by decide : (0 : Int) ≤ (0 : Int32).toInt) hq0 hB) (fun d58 r1 => ?_)
    have h58 := Inv.call hI r1.1 (by decide +kernel)
    have l58 := qle_drop0 r1.2 (by omega)
    refine ok_cv (sX12_ends__11 hS hx0 i4 h58.1) (fun d60 r2 => ?_)
    have h60 := Inv.call h58 r2.1 (by decide +kernel)
    have l60 := l58.sm (q_frm r2.1 (by decide +kernel) (by decide +kernel) (by decide +kernel) (by decide +kernel))
    refine ok_cv (sX12_reports__11 hS (hlb.use (k' := 1) (by decide)) hx0 h60.1) (fun d62 r3 => ?_)
    refine ok_some ⟨Inv.mono (LeB.rest (k' := 1) hlb (by decide)).1 (Inv.call h60 r3.1 (by decide +kernel)), Or.inl ⟨rfl, l60.sm (q_frm r3.1 (by decide +kernel) (by decide +kernel) (by decide +kernel) (by decide +kernel))⟩⟩
/-! a tick -/
theorem lo_frm {M : Nat} {b : Nat → Int} {d d' : Ds} (h : Inv M b d d') (h0 : Nat.testBit M 3520 = false) : ∀ j, j < 352 → dI d' 336 j = dI d 336 j := by
  intro j hj
  refine h.2.1 336 j ?_
  have e : reg j = 0 := by
    have h1 := reg_m (show j ≤ 351 by omega)
    have h3 : reg 351 = 0 := by decide
    omega
  rw [now_55, cdn, if_neg (by decide), if_pos rfl, e]
  exact h0
theorem PLf_frm {d d' : Ds} (h : ∀ j, j < 352 → dI d' 336 j = dI d 336 j) (hP : PLf (rw_ d)) : PLf (rw_ d') := by
  have lo : ∀ j, j < 352 → rw_ d' j = rw_ d j := h
  refine ⟨fun i hi => ?_, fun c hc => ?_⟩
  · rw [lo _ (by omega), lo _ (by omega)]; exact hP.1 i hi
  · rw [lo _ (by omega), lo _ (by omega)]; exact hP.2 c hc
theorem sX12_repeats_c {g : Gs} (hS : Shp g) {b : Nat → Int} {x0 : Nat} (hx0 : cls x0 = 11) {d : Ds} (hR : 1 ≤ (dI d 336 9).toInt) (hB : Bnd b d) : ok (fX12_repeats 10000 g x0 d) (fun u d' => Inv m_sX12_repeats__11 b d d' ∧ True) := by
  have hI : Inv m_sX12_repeats__11 b d d := Inv.rf hB
  unfold fX12_repeats
  refine ok_gd (kd_11 hS hx0) ?_
  refine ok_ob (mo_now hS hx0) ?_
  refine ok_gd (kd_55 hS now_55) ?_
  refine ok_gd (ixg (by decide : iv (455 : Int32) 455 455) (ln_55 hS now_55) (by decide)) ?_
  refine ok_if (fun _ => ?_) (fun _ => ok_some ⟨hI, trivial⟩)
  refine ok_gd (ixg (by decide : iv (354 : Int32) 354 354) (ln_55 hS now_55) (by decide)) ?_
  refine ok_gd (ixg (by decide : iv (456 : Int32) 456 456) (ln_55 hS now_55) (by decide)) ?_
  refine ok_gd (ixg (by decide : iv (8 : Int32) 8 8) (ln_55 hS now_55) (by decide)) ?_
  refine ok_bd (fun u9 _ => ?_)
  have j54 : ok (fX12_repeats_J54 10000 g x0 d) (fun u d' => Inv m_sX12_repeats__11 b d d' ∧ True) := by
    unfold fX12_repeats_J54
    exact ok_some ⟨hI, trivial⟩
  refine ok_if (fun _ => j54) (fun _ => ?_)
  refine ok_gd (ixg (by decide : iv (9 : Int32) 9 9) (ln_55 hS now_55) (by decide)) ?_
  have e9 : (9 : Int32).toNatClampNeg = 9 := by decide
  refine ok_gd (fun z => ?_) ?_
  · rw [e9] at z
    rw [z] at hR
    exact absurd hR (by decide)
  · refine ok_if (fun _ => ?_) (fun _ => j54)
    refine ok_gd (ixg (by decide : iv (457 : Int32) 457 457) (ln_55 hS now_55) (by decide)) ?_
    refine ok_bd (fun d15 e13 => ?_)
    have h14 := Inv.set e13 hI (by rw [now_55]; exact (okN_b (by decide : iv (457 : Int32) 457 457) (by decide))) (mN (n := 6) now_55 (by decide : iv (457 : Int32) 457 457) (by decide) (by decide +kernel)) (nN now_55 (by decide : iv (457 : Int32) 457 457) (by decide +kernel))
    refine ok_gd (ixg (by decide : iv (458 : Int32) 458 458) (ln_55 hS now_55) (by decide)) ?_
    refine ok_bd (fun d17 e15 => ?_)
    have h16 := Inv.set e15 h14 (by rw [now_55]; exact (okN_b (by decide : iv (458 : Int32) 458 458) (by decide))) (mN (n := 6) now_55 (by decide : iv (458 : Int32) 458 458) (by decide) (by decide +kernel)) (nN now_55 (by decide : iv (458 : Int32) 458 458) (by decide +kernel))
    exact ok_some ⟨h16, trivial⟩
theorem km_24 {b : Nat → Int} {d : Ds} (hB : Bnd b d) : iv ((dI d 336 (0 : Int32).toNatClampNeg) * (dI d 336 (1 : Int32).toNatClampNeg)) 0 24 := iv_mul (l := 0) (h := 24) (rdN_0 hB now_55) (rdN_1 hB now_55) (by decide)
theorem sX12_ticks_L165_c {g : Gs} (hS : Shp g) {b : Nat → Int} {d0 : Ds} {x0 : Nat} (hx0 : cls x0 = 11) {y1 : Int32} {d : Ds} (hR : 1 ≤ (dI d0 336 9).toInt) (hI : Inv m_sX12_ticks__11 b d0 d) : ok (fX12_ticks_L165 10000 g x0 (y1, 0, d)) (fun u d' => Inv m_sX12_ticks__11 b d0 d' ∧ qsame d d') := by
  unfold fX12_ticks_L165
  refine ok_lp (fun a => Inv m_sX12_ticks__11 b d0 a.2.2 ∧ iv a.2.1 0 24 ∧ qsame d a.2.2) (fun a => (24 - a.2.1.toInt).toNat) ?_ 10000 _ ⟨hI, (by decide : iv (0 : Int32) 0 24), fun _ _ => rfl⟩ (by have : (0 : Int32).toInt = 0 := (by decide); dsimp only; omega)
  rintro K165 ⟨y1, y4, dd⟩ ⟨hI, hy4, hs⟩ hK
  dsimp only at hI hy4 hs hK ⊢
  unfold fX12_ticks_B165
  refine ok_gd (kd_11 hS hx0) ?_
  refine ok_cb (sX12_keysMany__11 hS hx0 hI.1) (fun u22 d20 r => ?_)
  rw [r.1, r.2]
  refine ok_if (fun _ => ?_) (fun c => ?_)
  · refine ok_cv (sX12_repeats_c hS hx0 (by rw [lo_frm hI (by decide +kernel) 9 (by decide)]; exact hR) hI.1) (fun d24 r => ?_)
    exact ok_some ⟨Inv.call hI r.1 (by decide +kernel), hs.tr (q_frm r.1 (by decide +kernel) (by decide +kernel) (by decide +kernel) (by decide +kernel))⟩
  · have h6 := iv.w (c := 0) (e := 23) (lt_l (nle c) hy4 (km_24 hI.1)) (by decide)
    obtain ⟨r26, e8, k9⟩ := sh_11_19 hS hx0
    refine ok_ob e8 ?_
    refine ok_gd (kd_57 hS k9) ?_
    refine ok_gd (ixg h6 (ln_57 hS k9) (by decide)) ?_
    have n11 := nn_fmul_x_1063256064 (hI.1.2.1 r26 y4.toNatClampNeg)
    refine ok_gd n11 ?_
    refine ok_bd (fun u30 e12 => ?_)
    have n13 : nnF u30 := by rw [e12]; exact n11
    refine ok_bd (fun d31 e14 => ?_)
    have h15 := Inv.setF e14 hI n13
    have s15 : qsame d d31 := hs.tr (fun _ _ => rdqF e14)
    have j217 : ∀ de, Inv m_sX12_ticks__11 b d0 de → qsame d de → ok (fX12_ticks_J217 10000 g x0 K165 y1 y4 de) (fun u d' => Inv m_sX12_ticks__11 b d0 d' ∧ qsame d d') := by
      intro de h s
      unfold fX12_ticks_J217
      refine ok_bd (fun u36 e => ?_)
      exact hK _ ⟨h, iv.w (iv_e e (iv_add (l := 1) (h := 24) h6 (by decide : iv (1 : Int32) 1 1) (by decide))) (by decide), s⟩ (ms_up (H := 24) e h6 (by decide : iv (1 : Int32) 1 1) (by decide))
    refine ok_cb (sX12_has hS h15.1) (fun u34 d32 r => ?_)
    rw [r.1]
    refine ok_if (fun _ => j217 _ h15 s15) (fun _ => ?_)
    have n20 := nn_fadd_x_1040187392 (h15.1.2.1 r26 y4.toNatClampNeg)
    refine ok_gd n20 ?_
    refine ok_bd (fun u38 e21 => ?_)
    have n22 : nnF u38 := by rw [e21]; exact n20
    refine ok_bd (fun d39 e23 => ?_)
    exact j217 _ (Inv.setF e23 h15 n22) (s15.tr (fun _ _ => rdqF e23))
theorem fT_congr {d d' : Ds} (h : qsame d d') : fT (rw_ d') 0 = fT (rw_ d) 0 ∧ fTm (rw_ d') = fTm (rw_ d) ∧ fQ (rw_ d') = fQ (rw_ d) := by
  refine ⟨?_, ?_, ?_⟩
  · show (dI d' 336 _).toInt = (dI d 336 _).toInt
    rw [h _ (by omega)]
  · show (dI d' 336 _).toInt = (dI d 336 _).toInt
    rw [h _ (by omega)]
  · show (dI d' 336 _).toInt = (dI d 336 _).toInt
    rw [h _ (by omega)]
theorem RQ_congr {d d' : Ds} (h : qsame d d') (hq : RQ (rw_ d)) : RQ (rw_ d') := by
  obtain ⟨e1, e2, e3⟩ := fT_congr h
  refine ⟨QA_congr h hq.1, QRl_congr h hq.2.1, ?_⟩
  rw [e1, e2, e3]
  exact hq.2.2
theorem sX12_ticks_L139_c {g : Gs} (hS : Shp g) {b B : Nat → Int} {d0 : Ds} {x0 : Nat} (hx0 : cls x0 = 11) {y1 : Int32} {d : Ds} (hlb : LeB b B (336) (17 * qQ d)) (hR : 1 ≤ (dI d0 336 9).toInt) (hP : PLf (rw_ d0)) (hA : QA (rw_ d)) (hq : QRl (rw_ d) 24) (hI : Inv m_sX12_ticks__11 b d0 d) : ok (fX12_ticks_L139 10000 g x0 (y1, 1, d)) (fun u d' => Inv m_sX12_ticks__11 B d0 d' ∧ RQ (rw_ d')) := by
  unfold fX12_ticks_L139
  have hm : (1 : Int32).toInt.toNat = 1 := by decide
  have hQ0 : qQ d ≤ 2500 := (qQ_iv hI.1).2
  refine ok_lp (fun a => iv a.2.1 0 1 ∧ ∃ b1, Inv m_sX12_ticks__11 b1 d0 a.2.2 ∧ LeB b1 B (336) (17 * qQ a.2.2) ∧ QA (rw_ a.2.2) ∧ QRl (rw_ a.2.2) 24 ∧ (a.2.1 = 0 → fTm (rw_ a.2.2) < fT (rw_ a.2.2) 0 + 99)) (fun a => 2 * (qQ a.2.2).toNat + a.2.1.toInt.toNat) ?_ 10000 (y1, 1, d) ?_ ?_
  rotate_left
  · dsimp only
    exact ⟨by decide, b, hI, hlb, hA, hq, fun z => absurd z (by decide)⟩
  · dsimp only
    rw [hm]
    omega
  rintro K139 ⟨y1, y3, dd⟩ ⟨i3, b1, hI, hl, hA, hq, hz⟩ hK
  dsimp only at i3 hI hl hA hq hz hK ⊢
  have j162 : (fQ (rw_ dd) = 0 ∨ fTm (rw_ dd) < fT (rw_ dd) 0 + 99) → ok (fX12_ticks_J162 10000 g x0 y1 dd) (fun u d' => Inv m_sX12_ticks__11 B d0 d' ∧ RQ (rw_ d')) := by
    intro h
    unfold fX12_ticks_J162
    refine ok_mono (sX12_ticks_L165_c hS hx0 hR hI) (fun u d' r => ⟨Inv.mono hl.1 r.1, RQ_congr r.2 ⟨hA, hq, h⟩⟩)
  unfold fX12_ticks_B139
  refine ok_if (fun c => j162 (Or.inr (hz c))) (fun c => ?_)
  refine ok_gd (kd_11 hS hx0) ?_
  refine ok_ob (mo_now hS hx0) ?_
  refine ok_gd (kd_55 hS now_55) ?_
  refine ok_gd (ixg (by decide : iv (557 : Int32) 557 557) (ln_55 hS now_55) (by decide)) ?_
  have q0 : (dI dd 336 (557 : Int32).toNatClampNeg).toInt = qQ dd := by rw [e557]; rfl
  have z0 : (0 : Int32).toInt = 0 := by decide
  have hQ := qQ_iv hI.1
  refine ok_if (fun c2 => j162 (Or.inl ?_)) (fun c2 => ?_)
  · have := Int32.le_iff_toInt_le.mp c2
    rw [q0, z0] at this
    have h0 : 0 ≤ qQ dd := hQ.1
    show qQ dd = 0
    omega
  · have c3 := Int32.lt_iff_toInt_lt.mp (nle c2)
    rw [q0, z0] at c3
    refine ok_cb (sX12_works_c hS (hl.use (k' := 17) ⟨by decide, by omega⟩) hx0 (PLf_frm (lo_frm hI (by decide +kernel)) hP) hA (by omega) hI.1) (fun u47 d45 r => ?_)
    obtain ⟨h45, hr⟩ := r
    have y1' : y3.toInt.toNat = 1 := by
      have h1 := i3.1
      have h2 := i3.2
      have h3 : ¬ y3.toInt = 0 := fun z => c (Int32.toInt_inj.mp (z.trans z0.symm))
      omega
    rcases hr with ⟨hu, hle⟩ | ⟨hu, hd, hw⟩
    · subst hu
      have hle1 := hle.1
      have hle2 := hle.2.1
      refine hK _ ⟨(by decide : iv (1 : Int32) 0 1), _, Inv.call hI h45 (by decide +kernel), (LeB.rest (k' := 17) hl ⟨by decide, by omega⟩).w (by dsimp only; omega), hle.2.2.2 hA, hle.2.2.1 _ hq, fun z => absurd (show (1 : Int32) = 0 from z) (by decide)⟩ ?_
      dsimp only
      rw [y1', hm]
      omega
    · rw [hd, hu]
      have hm0 : (0 : Int32).toInt.toNat = 0 := by decide
      refine hK _ ⟨(by decide : iv (0 : Int32) 0 1), b1, hI, hl, hA, hq, fun _ => hw⟩ ?_
      dsimp only
      rw [y1', hm0]
      omega
def tsI (y : Int) (f : Nat → Int32) : Prop := QA f ∧ QRl f y ∧ (fQ f = 0 ∨ fTm f ≤ fT f 0 + 99)
theorem tsI_congr {d d' : Ds} {y : Int} (h : qsame d d') (hq : tsI y (rw_ d)) : tsI y (rw_ d') := by
  obtain ⟨e1, e2, e3⟩ := fT_congr h
  refine ⟨QA_congr h hq.1, QRl_congr h hq.2.1, ?_⟩
  rw [e1, e2, e3]
  exact hq.2.2
theorem QRl_mono {f : Nat → Int32} {y y' : Int} (h : y ≤ y') (hq : QRl f y) : QRl f y' := fun i hi => ⟨(hq i hi).1, by have := (hq i hi).2; omega⟩
theorem tsI_q {f : Nat → Int32} {y : Int} (h : tsI y f) (h0 : 0 ≤ fQ f) (hy : y ≤ 23) : fQ f < 2500 := by
  rcases h.2.2 with h1 | h1
  · omega
  · by_cases hq : fQ f = 0
    · omega
    · have := (h.2.1 0 (by omega)).2
      omega
theorem tsI_chg {f f' : Nat → Int32} {k : Int32} {y : Int} (h0 : 0 ≤ fQ f) (hy : 0 ≤ y) (hk : iv k 0 23) (hks : ∀ i : Nat, (i : Int) < fQ f → iv (fK f i) 0 23) (h : chgF f f' k) (hq : tsI y f) : tsI (y + 1) f' := by
  refine ⟨QA_chg h0 hk hks h hq.1, QRl_chg h0 hy h hq.2.1, Or.inr ?_⟩
  obtain ⟨h1, h2, h3, h4, h5, h6, h7⟩ := h
  rw [h2]
  by_cases hz : fQ f = 0
  · rw [hz] at h7
    have h8 : fT f' 0 = fTm f := h7
    omega
  · have := (h4 0 (by omega)).2.2
    rw [this]
    rcases hq.2.2 with z | z
    · exact absurd z hz
    · exact z
theorem kq_ {b : Nat → Int} {d : Ds} (hB : Bnd b d) {i : Nat} (hi : (i : Int) < fQ (rw_ d)) : iv (fK (rw_ d) i) 0 23 := by
  have h1 : fQ (rw_ d) ≤ 2500 := (qQ_iv hB).2
  exact (rd_q hB (j := 1678 + 3 * i) (by omega)).2.2.2.2.2.2.2.2.2.2.2.2.1 (by omega)
theorem sX12_ticks_L33_c {g : Gs} (hS : Shp g) {b B : Nat → Int} {d0 : Ds} {x0 : Nat} (hx0 : cls x0 = 11) {y1 y2 : Int32} {d : Ds} (hlb : LeB b B (336) 42500) (hR : 1 ≤ (dI d0 336 9).toInt) (hP : PLf (rw_ d0)) (ht : tsI 0 (rw_ d)) (hI : Inv m_sX12_ticks__11 b d0 d) : ok (fX12_ticks_L33 10000 g x0 (y1, y2, 0, d)) (fun u d' => Inv m_sX12_ticks__11 B d0 d' ∧ RQ (rw_ d')) := by
  have z0 : (0 : Int32).toInt = 0 := by decide
  unfold fX12_ticks_L33
  refine ok_lp (fun a => Inv m_sX12_ticks__11 b d0 a.2.2.2 ∧ iv a.2.2.1 0 24 ∧ tsI a.2.2.1.toInt (rw_ a.2.2.2)) (fun a => (24 - a.2.2.1.toInt).toNat) ?_ 10000 (y1, y2, 0, d) ?_ ?_
  rotate_left
  · dsimp only
    exact ⟨hI, by decide, by rw [z0]; exact ht⟩
  · dsimp only
    omega
  rintro K33 ⟨y1, y2, y3, dd⟩ ⟨hI, hy3, ht⟩ hK
  dsimp only at hI hy3 ht hK ⊢
  unfold fX12_ticks_B33
  refine ok_gd (kd_11 hS hx0) ?_
  refine ok_cb (sX12_keysMany__11 hS hx0 hI.1) (fun u16 d14 r => ?_)
  rw [r.1, r.2]
  refine ok_if (fun c => ?_) (fun c => ?_)
  · refine sX12_ticks_L139_c hS hx0 (hlb.w ?_) hR hP ht.1 (QRl_mono hy3.2 ht.2.1) hI
    have : qQ dd ≤ 2500 := (qQ_iv hI.1).2
    omega
  · have h3 := iv.w (c := 0) (e := 23) (lt_l (nle c) hy3 (km_24 hI.1)) (by decide)
    have k1 := h3.1
    have k2 := h3.2
    have i355 := iv_add (l := 355) (h := 378) (by decide : iv (355 : Int32) 355 355) h3 (by decide)
    have q2 := z_add (x := y3) (y := 1) rfl (by decide : (1 : Int32).toInt = 1) (by omega) (by omega)
    have j131 : ∀ de, Inv m_sX12_ticks__11 b d0 de → tsI (y3.toInt + 1) (rw_ de) → ok (fX12_ticks_J131 10000 g x0 K33 y1 y2 y3 de) (fun u d' => Inv m_sX12_ticks__11 B d0 d' ∧ RQ (rw_ d')) := by
      intro de h s
      unfold fX12_ticks_J131
      refine ok_bd (fun u64 e => ?_)
      refine hK _ ⟨h, ⟨by dsimp only; rw [e, q2]; omega, by dsimp only; rw [e, q2]; omega⟩, ?_⟩ ?_
      · dsimp only
        rw [e, q2]
        exact s
      · dsimp only
        rw [e, q2]
        omega
    have j106 : ∀ z : Int32, ok (fX12_ticks_J106 10000 g x0 K33 y1 y2 y3 z ((355 : Int32) + y3) 336 dd) (fun u d' => Inv m_sX12_ticks__11 B d0 d' ∧ RQ (rw_ d')) := by
      intro z
      unfold fX12_ticks_J106
      refine ok_gd (kd_55 hS now_55) ?_
      refine ok_gd (ixg i355 (ln_55 hS now_55) (by decide)) ?_
      refine ok_bd (fun d57 e57 => ?_)
      have h57 := Inv.set e57 hI (by rw [now_55]; exact okN_b i355 (by decide)) (mN (n := 4) now_55 i355 (by decide) (by decide +kernel)) (nN now_55 i355 (by decide +kernel))
      have s57 := qs_w e57 i355 (by decide)
      have t57 := tsI_congr s57 ht
      refine ok_gd (kd_11 hS hx0) ?_
      refine ok_ob (mo_now hS hx0) ?_
      refine ok_gd (kd_55 hS now_55) ?_
      refine ok_gd (ixg i355 (ln_55 hS now_55) (by decide)) ?_
      refine ok_gd (ixg (by decide : iv (4 : Int32) 4 4) (ln_55 hS now_55) (by decide)) ?_
      have hq0 : 0 ≤ fQ (rw_ d57) := (qQ_iv h57.1).1
      refine ok_if (fun _ => ?_) (fun _ => j131 _ h57 ⟨t57.1, QRl_mono (by omega) t57.2.1, t57.2.2⟩)
      refine ok_cv (sX12_changes_c hS hx0 h3 (tsI_q t57 hq0 k2) h57.1) (fun d65 r => ?_)
      obtain ⟨h65, e, he, hs⟩ := r
      exact j131 _ (Inv.call h57 h65 (by decide +kernel)) (tsI_congr hs (tsI_chg hq0 k1 h3 (fun i hi => kq_ h57.1 hi) he t57))
    have j74 : ∀ z0 : Int32, ok (fX12_ticks_J74 10000 g x0 K33 y1 y2 y3 z0 dd) (fun u d' => Inv m_sX12_ticks__11 B d0 d' ∧ RQ (rw_ d')) := by
      intro z0
      unfold fX12_ticks_J74
      refine ok_gd (kd_11 hS hx0) ?_
      refine ok_ob (mo_now hS hx0) ?_
      refine ok_if (fun _ => j106 _) (fun _ => ?_)
      refine ok_gd (kd_55 hS now_55) ?_
      refine ok_gd (ixg i355 (ln_55 hS now_55) (by decide)) ?_
      exact j106 _
    refine ok_cb (sX12_has hS hI.1) (fun u50 d48 r => ?_)
    rw [r.1]
    refine ok_if (fun _ => ?_) (fun _ => by unfold fX12_ticks_J73; exact j74 _)
    refine ok_cb (sX12_has hS hI.1) (fun u71 d69 r => ?_)
    rw [r.1]
    refine ok_ob (mo_now hS hx0) ?_
    refine ok_gd (kd_55 hS now_55) ?_
    refine ok_gd (ixg (by decide : iv (353 : Int32) 353 353) (ln_55 hS now_55) (by decide)) ?_
    refine ok_cb (sX12_has hS hI.1) (fun u77 d75 r => ?_)
    rw [r.1]
    exact ok_if (fun _ => by unfold fX12_ticks_J73; exact j74 _) (fun _ => j74 _)
theorem sX12_ticks_c {g : Gs} (hS : Shp g) {b B : Nat → Int} {x0 : Nat} (hx0 : cls x0 = 11) {d : Ds} (hlb : LeB b B (336) 42501) (hR : 1 ≤ (dI d 336 9).toInt) (hP : PLf (rw_ d)) (hq : RQ (rw_ d)) (hB : Bnd b d) : ok (fX12_ticks 10000 g x0 d) (fun u d' => Inv m_sX12_ticks__11 B d d' ∧ RQ (rw_ d')) := by
  have ho : own 336 = 336 := by decide +kernel
  have hI : Inv m_sX12_ticks__11 (bp b 336 1) d d := Inv.mono (bp_le (by decide)) (Inv.rf hB)
  have hl1 := LeB.rest (k' := 1) hlb (by decide)
  have iT := rdN_354 hB now_55
  have iT2 := cnt_hi iT ho hlb
  unfold fX12_ticks
  refine ok_gd (kd_11 hS hx0) ?_
  refine ok_ob (mo_now hS hx0) ?_
  refine ok_gd (kd_55 hS now_55) ?_
  refine ok_gd (ixg (by decide : iv (354 : Int32) 354 354) (ln_55 hS now_55) (by decide)) ?_
  refine ok_bd (fun d5 e5 => ?_)
  have h5 := Inv.set e5 hI (by rw [now_55]; exact okN_354 (cnt_w5 iT ho hlb)) (mN (n := 3) now_55 (by decide : iv (354 : Int32) 354 354) (by decide) (by decide +kernel)) (nN now_55 (by decide : iv (354 : Int32) 354 354) (by decide +kernel))
  have q1 := z_add (x := dI d 336 (354 : Int32).toNatClampNeg) (y := 1) rfl (by decide : (1 : Int32).toInt = 1) (by have := iT2.1; omega) (by have := iT2.2; omega)
  have v5 : ∀ j, j ≠ 354 → rw_ d5 j = rw_ d j := by
    intro j hj
    show dI d5 336 j = dI d 336 j
    rw [e5, sI_rd, if_neg (fun z => hj (z.2.trans e354))]
  have t5 : fTm (rw_ d5) = fTm (rw_ d) + 1 := by
    show (dI d5 336 354).toInt = (dI d 336 354).toInt + 1
    rw [e5, sI_rd, if_pos ⟨rfl, e354.symm⟩, q1, e354]
  have ts5 : tsI 0 (rw_ d5) := by
    have eQ : fQ (rw_ d5) = fQ (rw_ d) := by unfold fQ; rw [v5 557 (by decide)]
    have eT : ∀ i, fT (rw_ d5) i = fT (rw_ d) i := fun i => by unfold fT; rw [v5 _ (by omega)]
    refine ⟨?_, fun i hi => ?_, ?_⟩
    · refine QA_shift (s := 0) (J := 0) (by omega) (fun i hi _ => absurd hi (by omega)) (fun i _ _ => ⟨?_, ?_⟩) (v5 353 (by decide)) hq.1
      · unfold fK; exact v5 _ (by omega)
      · unfold fD; exact v5 _ (by omega)
    · have := hq.2.1 i (by omega)
      rw [eQ, eT, t5]
      omega
    · rw [eQ, eT, t5]
      rcases hq.2.2 with z | z
      · exact Or.inl z
      · exact Or.inr (by omega)
  refine ok_gd (ixg (by decide : iv (352 : Int32) 352 352) (ln_55 hS now_55) (by decide)) ?_
  refine ok_cb (sX12_seenBy__11 hS hx0 h5.1) (fun u9 d7 r => ?_)
  have h7 := Inv.call h5 r.1 (by decide +kernel)
  have s7 := q_frm r.1 (by decide +kernel) (by decide +kernel) (by decide +kernel) (by decide +kernel)
  refine ok_cb (sX12_barredBy__11 hS hx0 h7.1) (fun u12 d10 r2 => ?_)
  rw [r2.1]
  exact sX12_ticks_L33_c hS hx0 hl1 hR hP (tsI_congr s7 ts5) h7
theorem sX12_ticks_w {g : Gs} (hS : Shp g) {b B : Nat → Int} {x0 : Nat} (hx0 : cls x0 = 11) {d : Ds} (hlb : LeB b B (336) 42501) (hR : 1 ≤ (dI d 336 9).toInt) (hW : RWf (rw_ d)) (hB : Bnd b d) : ok (fX12_ticks 10000 g x0 d) (fun u d' => Inv m_sX12_ticks__11 B d d' ∧ RWf (rw_ d') ∧ 1 ≤ (dI d' 336 9).toInt) := by
  refine ok_mono (sX12_ticks_c hS hx0 hlb hR hW.2.1 hW.1 hB) (fun u d' r => ?_)
  have lo := lo_frm r.1 (by decide +kernel)
  have e9 : 1 ≤ (dI d' 336 9).toInt := by rw [lo 9 (by decide)]; exact hR
  exact ⟨r.1, ⟨r.2, PLf_frm lo hW.2.1, Or.inr e9⟩, e9⟩
