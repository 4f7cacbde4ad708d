/-! the names of the words, as the model keeps them: no operation writes there -/
def kyc (k : Nat) : Int64 := [1359346, 62476912, 14118, 37093064, 397804, 34705308742, 11088176, 261256151, 8179, 1763212, 6931104, 70097, 9886, 6415353, 295092968, 5649913681, 1170473, 168727, 65782373, 323728].getD k 0
def KL (d : Ds) : Prop := ∀ k, k < 20 → dL d 335 k = kyc k
theorem KL.i {d d1 : Ds} {r j : Nat} {v : Int32} (h : KL d) (e : d1 = sI d r j v) : KL d1 := by
  subst e
  exact h
theorem KL.f {d d1 : Ds} {r j : Nat} {v : UInt32} (h : KL d) (e : d1 = sF d r j v) : KL d1 := by
  subst e
  exact h
theorem KL.w {d d1 : Ds} {r j : Nat} {v : Option Nat} (h : KL d) (e : d1 = sW d r j v) : KL d1 := by
  subst e
  exact h
theorem KL.ci {d d1 : Ds} {a r sp dp n : Nat} (h : KL d) (e : d1 = cI d a r sp dp n) : KL d1 := by
  subst e
  exact h
theorem KL.cf {d d1 : Ds} {a r sp dp n : Nat} (h : KL d) (e : d1 = cF d a r sp dp n) : KL d1 := by
  subst e
  exact h
theorem KL.l {d d1 : Ds} {r j : Nat} {v : Int64} (h : KL d) (hr : r ≠ 335) (e : d1 = sL d r j v) : KL d1 := by
  subst e
  intro k hk
  show va_up d.2.2.1 r (va_up (d.2.2.1 r) j v) 335 k = kyc k
  unfold va_up
  rw [if_neg (fun q => hr q.symm)]
  exact h k hk
theorem tok_ne {g : Gs} (hS : Shp g) {x r : Nat} (hc : chk g x 11) (e : gR g x 8 = some r) : r ≠ 335 := by
  have hx : x < 347 := by rw [← hS.1]; exact hc.1
  have hk : tkd x = 11 := by rw [← (hS.2.1 x hx).1]; exact hc.2
  have ex : x = 328 := by
    have := List.all_eq_true.mp (show (List.range 347).all (fun r => tkd r != 11 || r == 328) = true by decide +kernel) x (List.mem_range.mpr hx)
    rw [hk] at this
    simpa using this
  subst ex
  rw [hS.2.2 328 8 (by decide +kernel)] at e
  cases e
  decide +kernel
theorem k_fX11_appendFour_J46 (N : Nat) (g : Gs) (x0 : Nat) (x1 : Int32) (d : Ds) (hS : Shp g) (hZ : KL d) : pc (fX11_appendFour_J46 N g x0 x1 d) (fun _ d1 => KL d1) := by
  unfold fX11_appendFour_J46
  exact pc_some hZ
theorem k_fX11_appendFour_B3 (N : Nat) (g : Gs) (x0 : Nat) (x1 : Int32) (K3 : Int32 × Ds → Option (Unit × Ds)) (y2 : Int32) (d : Ds) (hS : Shp g) (hZ : KL d) (hK3 : ∀ a, KL a.2 → pc (K3 a) (fun _ d1 => KL d1)) : pc (fX11_appendFour_B3 N g x0 x1 K3 y2 d) (fun _ d1 => KL d1) := by
  unfold fX11_appendFour_B3
  refine pc_if (fun _ => ?_) (fun _ => ?_)
  · exact k_fX11_appendFour_J46 N g x0 x1 d hS hZ
  · refine pc_gd (fun c_1 => ?_)
    refine pc_if (fun _ => ?_) (fun _ => ?_)
    · exact k_fX11_appendFour_J46 N g x0 x1 d hS hZ
    · refine pc_ob (fun r4 e_2 => ?_)
      refine pc_gd (fun c_3 => ?_)
      refine pc_gd (fun c_4 => ?_)
      refine pc_bd (fun d7 e_5 => ?_)
      have z_6 := KL.i hZ e_5
      refine pc_bd (fun d8 e_7 => ?_)
      have z_8 := KL.i z_6 e_7
      refine pc_bd (fun u9 e_9 => ?_)
      exact hK3 _ z_8
theorem k_fX11_appendFour_L3 (N : Nat) (g : Gs) (x0 : Nat) (x1 : Int32) (hS : Shp g) (a0 : Int32) (a1 : Ds) (hZ : KL a1) : pc (fX11_appendFour_L3 N g x0 x1 (a0, a1)) (fun _ d1 => KL d1) := by
  unfold fX11_appendFour_L3
  refine pc_lp (fun a => KL a.2) ?_ N (a0, a1) hZ
  rintro K ⟨a0, a1⟩ hZ hK
  exact k_fX11_appendFour_B3 N g x0 x1 K a0 a1 hS hZ hK
theorem k_fX11_appendFour (N : Nat) (g : Gs) (x0 : Nat) (x1 : Int32) (d : Ds) (hS : Shp g) (hZ : KL d) : pc (fX11_appendFour N g x0 x1 d) (fun _ d1 => KL d1) := by
  unfold fX11_appendFour
  exact k_fX11_appendFour_L3 N g x0 x1 hS 24 d hZ
theorem k_fX11_feed (N : Nat) (g : Gs) (x0 : Nat) (x1 : Int32) (x2 : Int32) (x3 : Int32) (x4 : Int32) (x5 : Int32) (d : Ds) (hS : Shp g) (hZ : KL d) : pc (fX11_feed N g x0 x1 x2 x3 x4 x5 d) (fun _ d1 => KL d1) := by
  unfold fX11_feed
  refine pc_gd (fun c_1 => ?_)
  refine pc_if (fun _ => ?_) (fun _ => ?_)
  · refine pc_cv (k_fX11_appendFour N g x0 x1 d hS hZ) (fun d3 z_2 => ?_)
    refine pc_cv (k_fX11_appendFour N g x0 x2 d3 hS z_2) (fun d5 z_3 => ?_)
    refine pc_cv (k_fX11_appendFour N g x0 x3 d5 hS z_3) (fun d7 z_4 => ?_)
    refine pc_cv (k_fX11_appendFour N g x0 x4 d7 hS z_4) (fun d9 z_5 => ?_)
    refine pc_cv (k_fX11_appendFour N g x0 x5 d9 hS z_5) (fun d11 z_6 => ?_)
    exact pc_some z_6
  · exact pc_some hZ
theorem k_fX11_back_J12 (N : Nat) (g : Gs) (x0 : Nat) (x1 : Int32) (d : Ds) (hS : Shp g) (hZ : KL d) : pc (fX11_back_J12 N g x0 x1 d) (fun _ d1 => KL d1) := by
  unfold fX11_back_J12
  exact pc_some hZ
theorem k_fX11_back (N : Nat) (g : Gs) (x0 : Nat) (x1 : Int32) (d : Ds) (hS : Shp g) (hZ : KL d) : pc (fX11_back N g x0 x1 d) (fun _ d1 => KL d1) := by
  unfold fX11_back
  refine pc_if (fun _ => ?_) (fun _ => ?_)
  · exact k_fX11_back_J12 N g x0 x1 d hS hZ
  · refine pc_gd (fun c_1 => ?_)
    refine pc_if (fun _ => ?_) (fun _ => ?_)
    · refine pc_bd (fun d4 e_2 => ?_)
      have z_3 := KL.i hZ e_2
      exact pc_some z_3
    · exact k_fX11_back_J12 N g x0 x1 d hS hZ
theorem k_fX8_skipBlanks_J48 (N : Nat) (g : Gs) (x0 : Nat) (x1 : Nat) (x2 : Int32) (y3 : Int32) (d : Ds) (hS : Shp g) (hZ : KL d) : pc (fX8_skipBlanks_J48 N g x0 x1 x2 y3 d) (fun _ d1 => KL d1) := by
  unfold fX8_skipBlanks_J48
  exact pc_some hZ
theorem k_fX8_skipBlanks_J42 (N : Nat) (g : Gs) (x0 : Nat) (x1 : Nat) (x2 : Int32) (K2 : Int32 × Ds → Option (Int32 × Ds)) (y3 : Int32) (d : Ds) (hS : Shp g) (hZ : KL d) (hK2 : ∀ a, KL a.2 → pc (K2 a) (fun _ d1 => KL d1)) : pc (fX8_skipBlanks_J42 N g x0 x1 x2 K2 y3 d) (fun _ d1 => KL d1) := by
  unfold fX8_skipBlanks_J42
  refine pc_bd (fun u6 e_1 => ?_)
  exact hK2 _ hZ
theorem k_fX8_skipBlanks_B2 (N : Nat) (g : Gs) (x0 : Nat) (x1 : Nat) (x2 : Int32) (K2 : Int32 × Ds → Option (Int32 × Ds)) (y3 : Int32) (d : Ds) (hS : Shp g) (hZ : KL d) (hK2 : ∀ a, KL a.2 → pc (K2 a) (fun _ d1 => KL d1)) : pc (fX8_skipBlanks_B2 N g x0 x1 x2 K2 y3 d) (fun _ d1 => KL d1) := by
  unfold fX8_skipBlanks_B2
  refine pc_gd (fun c_1 => ?_)
  refine pc_if (fun _ => ?_) (fun _ => ?_)
  · exact k_fX8_skipBlanks_J48 N g x0 x1 x2 y3 d hS hZ
  · refine pc_gd (fun c_2 => ?_)
    refine pc_gd (fun c_3 => ?_)
    refine pc_if (fun _ => ?_) (fun _ => ?_)
    · exact k_fX8_skipBlanks_J42 N g x0 x1 x2 K2 y3 d hS hZ hK2
    · refine pc_if (fun _ => ?_) (fun _ => ?_)
      · exact k_fX8_skipBlanks_J42 N g x0 x1 x2 K2 y3 d hS hZ hK2
      · refine pc_if (fun _ => ?_) (fun _ => ?_)
        · exact k_fX8_skipBlanks_J42 N g x0 x1 x2 K2 y3 d hS hZ hK2
        · refine pc_if (fun _ => ?_) (fun _ => ?_)
          · exact k_fX8_skipBlanks_J42 N g x0 x1 x2 K2 y3 d hS hZ hK2
          · exact k_fX8_skipBlanks_J48 N g x0 x1 x2 y3 d hS hZ
theorem k_fX8_skipBlanks_L2 (N : Nat) (g : Gs) (x0 : Nat) (x1 : Nat) (x2 : Int32) (hS : Shp g) (a0 : Int32) (a1 : Ds) (hZ : KL a1) : pc (fX8_skipBlanks_L2 N g x0 x1 x2 (a0, a1)) (fun _ d1 => KL d1) := by
  unfold fX8_skipBlanks_L2
  refine pc_lp (fun a => KL a.2) ?_ N (a0, a1) hZ
  rintro K ⟨a0, a1⟩ hZ hK
  exact k_fX8_skipBlanks_B2 N g x0 x1 x2 K a0 a1 hS hZ hK
theorem k_fX8_skipBlanks (N : Nat) (g : Gs) (x0 : Nat) (x1 : Nat) (x2 : Int32) (d : Ds) (hS : Shp g) (hZ : KL d) : pc (fX8_skipBlanks N g x0 x1 x2 d) (fun _ d1 => KL d1) := by
  unfold fX8_skipBlanks
  exact k_fX8_skipBlanks_L2 N g x0 x1 x2 hS x2 d hZ
theorem k_fX8_cut_J164 (N : Nat) (g : Gs) (x0 : Nat) (x1 : Nat) (x2 : Int32) (d : Ds) (hS : Shp g) (hZ : KL d) : pc (fX8_cut_J164 N g x0 x1 x2 d) (fun _ d1 => KL d1) := by
  unfold fX8_cut_J164
  exact pc_some hZ
theorem k_fX8_isLetter_J17 (N : Nat) (g : Gs) (x0 : Int32) (z0 : Int32) (d : Ds) (hS : Shp g) (hZ : KL d) : pc (fX8_isLetter_J17 N g x0 z0 d) (fun _ d1 => KL d1) := by
  unfold fX8_isLetter_J17
  refine pc_gd (fun c_1 => ?_)
  exact pc_some hZ
theorem k_fX8_isLetter_J16 (N : Nat) (g : Gs) (x0 : Int32) (d : Ds) (hS : Shp g) (hZ : KL d) : pc (fX8_isLetter_J16 N g x0 d) (fun _ d1 => KL d1) := by
  unfold fX8_isLetter_J16
  exact k_fX8_isLetter_J17 N g x0 0 d hS hZ
theorem k_fX8_isLetter (N : Nat) (g : Gs) (x0 : Int32) (d : Ds) (hS : Shp g) (hZ : KL d) : pc (fX8_isLetter N g x0 d) (fun _ d1 => KL d1) := by
  unfold fX8_isLetter
  refine pc_if (fun _ => ?_) (fun _ => ?_)
  · exact k_fX8_isLetter_J16 N g x0 d hS hZ
  · refine pc_if (fun _ => ?_) (fun _ => ?_)
    · exact k_fX8_isLetter_J16 N g x0 d hS hZ
    · exact k_fX8_isLetter_J17 N g x0 1 d hS hZ
theorem k_fX8_isDigit_J17 (N : Nat) (g : Gs) (x0 : Int32) (z0 : Int32) (d : Ds) (hS : Shp g) (hZ : KL d) : pc (fX8_isDigit_J17 N g x0 z0 d) (fun _ d1 => KL d1) := by
  unfold fX8_isDigit_J17
  refine pc_gd (fun c_1 => ?_)
  exact pc_some hZ
theorem k_fX8_isDigit_J16 (N : Nat) (g : Gs) (x0 : Int32) (d : Ds) (hS : Shp g) (hZ : KL d) : pc (fX8_isDigit_J16 N g x0 d) (fun _ d1 => KL d1) := by
  unfold fX8_isDigit_J16
  exact k_fX8_isDigit_J17 N g x0 0 d hS hZ
theorem k_fX8_isDigit (N : Nat) (g : Gs) (x0 : Int32) (d : Ds) (hS : Shp g) (hZ : KL d) : pc (fX8_isDigit N g x0 d) (fun _ d1 => KL d1) := by
  unfold fX8_isDigit
  refine pc_if (fun _ => ?_) (fun _ => ?_)
  · exact k_fX8_isDigit_J16 N g x0 d hS hZ
  · refine pc_if (fun _ => ?_) (fun _ => ?_)
    · exact k_fX8_isDigit_J16 N g x0 d hS hZ
    · exact k_fX8_isDigit_J17 N g x0 1 d hS hZ
theorem k_fX8_cut_J143 (N : Nat) (g : Gs) (x0 : Nat) (x1 : Nat) (x2 : Int32) (K28 : Int32 × Ds → Option (Unit × Ds)) (y4 : Int32) (d : Ds) (hS : Shp g) (hZ : KL d) (hK28 : ∀ a, KL a.2 → pc (K28 a) (fun _ d1 => KL d1)) : pc (fX8_cut_J143 N g x0 x1 x2 K28 y4 d) (fun _ d1 => KL d1) := by
  unfold fX8_cut_J143
  refine pc_gd (fun c_1 => ?_)
  refine pc_bd (fun d44 e_2 => ?_)
  have z_3 := KL.i hZ e_2
  refine pc_cb (k_fX8_skipBlanks N g x0 x1 y4 d44 hS z_3) (fun u47 d45 z_4 => ?_)
  exact hK28 _ z_4
theorem k_fX8_cut_J142 (N : Nat) (g : Gs) (x0 : Nat) (x1 : Nat) (x2 : Int32) (K28 : Int32 × Ds → Option (Unit × Ds)) (y4 : Int32) (z0 : Int32) (z1 : Int32) (z2 : Nat) (d : Ds) (hS : Shp g) (hZ : KL d) (hK28 : ∀ a, KL a.2 → pc (K28 a) (fun _ d1 => KL d1)) : pc (fX8_cut_J142 N g x0 x1 x2 K28 y4 z0 z1 z2 d) (fun _ d1 => KL d1) := by
  unfold fX8_cut_J142
  refine pc_gd (fun c_1 => ?_)
  refine pc_gd (fun c_2 => ?_)
  refine pc_bd (fun d42 e_3 => ?_)
  have z_4 := KL.i hZ e_3
  exact k_fX8_cut_J143 N g x0 x1 x2 K28 y4 d42 hS z_4 hK28
theorem k_fX8_cutInt_J69 (N : Nat) (g : Gs) (x0 : Nat) (x1 : Nat) (x2 : Int32) (y3 : Int32) (y4 : Int32) (z0 : Int32) (z1 : Int32) (z2 : Nat) (d : Ds) (hS : Shp g) (hZ : KL d) : pc (fX8_cutInt_J69 N g x0 x1 x2 y3 y4 z0 z1 z2 d) (fun _ d1 => KL d1) := by
  unfold fX8_cutInt_J69
  refine pc_gd (fun c_1 => ?_)
  refine pc_gd (fun c_2 => ?_)
  refine pc_bd (fun d8 e_3 => ?_)
  have z_4 := KL.i hZ e_3
  refine pc_gd (fun c_5 => ?_)
  refine pc_ob (fun r10 e_6 => ?_)
  refine pc_gd (fun c_7 => ?_)
  refine pc_gd (fun c_8 => ?_)
  refine pc_bd (fun d13 e_9 => ?_)
  have z_10 := KL.i z_4 e_9
  exact pc_some z_10
theorem k_fX8_cutInt_J49 (N : Nat) (g : Gs) (x0 : Nat) (x1 : Nat) (x2 : Int32) (y3 : Int32) (y4 : Int32) (d : Ds) (hS : Shp g) (hZ : KL d) : pc (fX8_cutInt_J49 N g x0 x1 x2 y3 y4 d) (fun _ d1 => KL d1) := by
  unfold fX8_cutInt_J49
  refine pc_gd (fun c_1 => ?_)
  refine pc_ob (fun r4 e_2 => ?_)
  refine pc_if (fun _ => ?_) (fun _ => ?_)
  · exact k_fX8_cutInt_J69 N g x0 x1 x2 y3 y4 4 (dI d x0 4) r4 d hS hZ
  · exact k_fX8_cutInt_J69 N g x0 x1 x2 y3 y4 2 (dI d x0 4) r4 d hS hZ
theorem k_fX8_cutInt_J43 (N : Nat) (g : Gs) (x0 : Nat) (x1 : Nat) (x2 : Int32) (K5 : Int32 × Int32 × Ds → Option (Int32 × Ds)) (y3 : Int32) (y4 : Int32) (d : Ds) (hS : Shp g) (hZ : KL d) (hK5 : ∀ a, KL a.2.2 → pc (K5 a) (fun _ d1 => KL d1)) : pc (fX8_cutInt_J43 N g x0 x1 x2 K5 y3 y4 d) (fun _ d1 => KL d1) := by
  unfold fX8_cutInt_J43
  refine pc_bd (fun u21 e_1 => ?_)
  exact hK5 _ hZ
theorem k_fX8_cutInt_B5 (N : Nat) (g : Gs) (x0 : Nat) (x1 : Nat) (x2 : Int32) (K5 : Int32 × Int32 × Ds → Option (Int32 × Ds)) (y3 : Int32) (y4 : Int32) (d : Ds) (hS : Shp g) (hZ : KL d) (hK5 : ∀ a, KL a.2.2 → pc (K5 a) (fun _ d1 => KL d1)) : pc (fX8_cutInt_B5 N g x0 x1 x2 K5 y3 y4 d) (fun _ d1 => KL d1) := by
  unfold fX8_cutInt_B5
  refine pc_gd (fun c_1 => ?_)
  refine pc_if (fun _ => ?_) (fun _ => ?_)
  · exact k_fX8_cutInt_J49 N g x0 x1 x2 y3 y4 d hS hZ
  · refine pc_gd (fun c_2 => ?_)
    refine pc_gd (fun c_3 => ?_)
    refine pc_cb (k_fX8_isDigit N g (dI d x1 y3.toNatClampNeg) d hS hZ) (fun u18 d16 z_4 => ?_)
    refine pc_if (fun _ => ?_) (fun _ => ?_)
    · exact k_fX8_cutInt_J49 N g x0 x1 x2 y3 y4 d16 hS z_4
    · refine pc_if (fun _ => ?_) (fun _ => ?_)
      · exact k_fX8_cutInt_J43 N g x0 x1 x2 K5 y3 y4 d16 hS z_4 hK5
      · refine pc_bd (fun u22 e_5 => ?_)
        exact k_fX8_cutInt_J43 N g x0 x1 x2 K5 y3 u22 d16 hS z_4 hK5
theorem k_fX8_cutInt_L5 (N : Nat) (g : Gs) (x0 : Nat) (x1 : Nat) (x2 : Int32) (hS : Shp g) (a0 : Int32) (a1 : Int32) (a2 : Ds) (hZ : KL a2) : pc (fX8_cutInt_L5 N g x0 x1 x2 (a0, a1, a2)) (fun _ d1 => KL d1) := by
  unfold fX8_cutInt_L5
  refine pc_lp (fun a => KL a.2.2) ?_ N (a0, a1, a2) hZ
  rintro K ⟨a0, a1, a2⟩ hZ hK
  exact k_fX8_cutInt_B5 N g x0 x1 x2 K a0 a1 a2 hS hZ hK
theorem k_fX8_cutInt (N : Nat) (g : Gs) (x0 : Nat) (x1 : Nat) (x2 : Int32) (d : Ds) (hS : Shp g) (hZ : KL d) : pc (fX8_cutInt N g x0 x1 x2 d) (fun _ d1 => KL d1) := by
  unfold fX8_cutInt
  exact k_fX8_cutInt_L5 N g x0 x1 x2 hS x2 0 d hZ
theorem k_fJ0_coder_7d493_J14 (N : Nat) (g : Gs) (x0 : Nat) (z0 : Int32) (d : Ds) (hS : Shp g) (hZ : KL d) : pc (fJ0_coder_7d493_J14 N g x0 z0 d) (fun _ d1 => KL d1) := by
  unfold fJ0_coder_7d493_J14
  refine pc_gd (fun c_1 => ?_)
  exact pc_some hZ
theorem k_fJ0_coder_7d493 (N : Nat) (g : Gs) (x0 : Nat) (d : Ds) (hS : Shp g) (hZ : KL d) : pc (fJ0_coder_7d493 N g x0 d) (fun _ d1 => KL d1) := by
  unfold fJ0_coder_7d493
  refine pc_if (fun _ => ?_) (fun _ => ?_)
  · exact k_fJ0_coder_7d493_J14 N g x0 1 d hS hZ
  · refine pc_gd (fun c_1 => ?_)
    exact k_fJ0_coder_7d493_J14 N g x0 0 d hS hZ
theorem k_fJ0_length_8abf5 (N : Nat) (g : Gs) (x0 : Nat) (d : Ds) (hS : Shp g) (hZ : KL d) : pc (fJ0_length_8abf5 N g x0 d) (fun _ d1 => KL d1) := by
  unfold fJ0_length_8abf5
  refine pc_gd (fun c_1 => ?_)
  refine pc_gd (fun c_2 => ?_)
  refine pc_cb (k_fJ0_coder_7d493 N g x0 d hS hZ) (fun u5 d3 z_3 => ?_)
  exact pc_some z_3
theorem k_fJ0_isLatin1_aae02_J18 (N : Nat) (g : Gs) (x0 : Nat) (z0 : Int32) (d : Ds) (hS : Shp g) (hZ : KL d) : pc (fJ0_isLatin1_aae02_J18 N g x0 z0 d) (fun _ d1 => KL d1) := by
  unfold fJ0_isLatin1_aae02_J18
  refine pc_gd (fun c_1 => ?_)
  exact pc_some hZ
theorem k_fJ0_isLatin1_aae02_J17 (N : Nat) (g : Gs) (x0 : Nat) (d : Ds) (hS : Shp g) (hZ : KL d) : pc (fJ0_isLatin1_aae02_J17 N g x0 d) (fun _ d1 => KL d1) := by
  unfold fJ0_isLatin1_aae02_J17
  exact k_fJ0_isLatin1_aae02_J18 N g x0 0 d hS hZ
theorem k_fJ0_isLatin1_aae02 (N : Nat) (g : Gs) (x0 : Nat) (d : Ds) (hS : Shp g) (hZ : KL d) : pc (fJ0_isLatin1_aae02 N g x0 d) (fun _ d1 => KL d1) := by
  unfold fJ0_isLatin1_aae02
  refine pc_if (fun _ => ?_) (fun _ => ?_)
  · exact k_fJ0_isLatin1_aae02_J17 N g x0 d hS hZ
  · refine pc_gd (fun c_1 => ?_)
    refine pc_if (fun _ => ?_) (fun _ => ?_)
    · exact k_fJ0_isLatin1_aae02_J18 N g x0 1 d hS hZ
    · exact k_fJ0_isLatin1_aae02_J17 N g x0 d hS hZ
theorem k_fJ3_checkIndex_8e157_J9 (N : Nat) (g : Gs) (x0 : Int32) (x1 : Int32) (x2 : Option Nat) (d : Ds) (hS : Shp g) (hZ : KL d) : pc (fJ3_checkIndex_8e157_J9 N g x0 x1 x2 d) (fun _ d1 => KL d1) := by
  unfold fJ3_checkIndex_8e157_J9
  exact pc_none
theorem k_fJ3_checkIndex_8e157 (N : Nat) (g : Gs) (x0 : Int32) (x1 : Int32) (x2 : Option Nat) (d : Ds) (hS : Shp g) (hZ : KL d) : pc (fJ3_checkIndex_8e157 N g x0 x1 x2 d) (fun _ d1 => KL d1) := by
  unfold fJ3_checkIndex_8e157
  refine pc_if (fun _ => ?_) (fun _ => ?_)
  · exact k_fJ3_checkIndex_8e157_J9 N g x0 x1 x2 d hS hZ
  · refine pc_if (fun _ => ?_) (fun _ => ?_)
    · exact pc_some hZ
    · exact k_fJ3_checkIndex_8e157_J9 N g x0 x1 x2 d hS hZ
theorem k_fJ0_checkIndex_df160 (N : Nat) (g : Gs) (x0 : Int32) (x1 : Int32) (d : Ds) (hS : Shp g) (hZ : KL d) : pc (fJ0_checkIndex_df160 N g x0 x1 d) (fun _ d1 => KL d1) := by
  unfold fJ0_checkIndex_df160
  refine pc_cb (k_fJ3_checkIndex_8e157 N g x0 x1 none d hS hZ) (fun u3 d1 z_1 => ?_)
  exact pc_some z_1
theorem k_fJ1_charAt_3b067 (N : Nat) (g : Gs) (x0 : Nat) (x1 : Int32) (d : Ds) (hS : Shp g) (hZ : KL d) : pc (fJ1_charAt_3b067 N g x0 x1 d) (fun _ d1 => KL d1) := by
  unfold fJ1_charAt_3b067
  refine pc_gd (fun c_1 => ?_)
  refine pc_cv (k_fJ0_checkIndex_df160 N g x1 (Int32.ofNat (wsl (x0 - 100041))) d hS hZ) (fun d2 z_2 => ?_)
  refine pc_gd (fun c_3 => ?_)
  refine pc_gd (fun c_4 => ?_)
  exact pc_some z_2
theorem k_fJ0_charAt_5068e (N : Nat) (g : Gs) (x0 : Nat) (x1 : Int32) (d : Ds) (hS : Shp g) (hZ : KL d) : pc (fJ0_charAt_5068e N g x0 x1 d) (fun _ d1 => KL d1) := by
  unfold fJ0_charAt_5068e
  refine pc_gd (fun c_1 => ?_)
  refine pc_cb (k_fJ0_isLatin1_aae02 N g x0 d hS hZ) (fun u4 d2 z_2 => ?_)
  refine pc_if (fun _ => ?_) (fun _ => ?_)
  · exact pc_none
  · refine pc_cb (k_fJ1_charAt_3b067 N g (x0 + 20) x1 d2 hS z_2) (fun u8 d6 z_3 => ?_)
    refine pc_gd (fun c_4 => ?_)
    exact pc_some z_3
theorem k_fX8_isSpelt_B15 (N : Nat) (g : Gs) (x0 : Nat) (x1 : Nat) (x2 : Int32) (x3 : Int32) (K15 : Int32 × Ds → Option (Int32 × Ds)) (y4 : Int32) (d : Ds) (hS : Shp g) (hZ : KL d) (hK15 : ∀ a, KL a.2 → pc (K15 a) (fun _ d1 => KL d1)) : pc (fX8_isSpelt_B15 N g x0 x1 x2 x3 K15 y4 d) (fun _ d1 => KL d1) := by
  unfold fX8_isSpelt_B15
  refine pc_gd (fun c_1 => ?_)
  refine pc_cb (k_fJ0_length_8abf5 N g x0 d hS hZ) (fun u9 d7 z_2 => ?_)
  refine pc_if (fun _ => ?_) (fun _ => ?_)
  · exact pc_some z_2
  · refine pc_cb (k_fJ0_charAt_5068e N g x0 y4 d7 hS z_2) (fun u13 d11 z_3 => ?_)
    refine pc_gd (fun c_4 => ?_)
    refine pc_gd (fun c_5 => ?_)
    refine pc_if (fun _ => ?_) (fun _ => ?_)
    · refine pc_bd (fun u17 e_6 => ?_)
      exact hK15 _ z_3
    · exact pc_some z_3
theorem k_fX8_isSpelt_L15 (N : Nat) (g : Gs) (x0 : Nat) (x1 : Nat) (x2 : Int32) (x3 : Int32) (hS : Shp g) (a0 : Int32) (a1 : Ds) (hZ : KL a1) : pc (fX8_isSpelt_L15 N g x0 x1 x2 x3 (a0, a1)) (fun _ d1 => KL d1) := by
  unfold fX8_isSpelt_L15
  refine pc_lp (fun a => KL a.2) ?_ N (a0, a1) hZ
  rintro K ⟨a0, a1⟩ hZ hK
  exact k_fX8_isSpelt_B15 N g x0 x1 x2 x3 K a0 a1 hS hZ hK
theorem k_fX8_isSpelt (N : Nat) (g : Gs) (x0 : Nat) (x1 : Nat) (x2 : Int32) (x3 : Int32) (d : Ds) (hS : Shp g) (hZ : KL d) : pc (fX8_isSpelt N g x0 x1 x2 x3 d) (fun _ d1 => KL d1) := by
  unfold fX8_isSpelt
  refine pc_gd (fun c_1 => ?_)
  refine pc_cb (k_fJ0_length_8abf5 N g x0 d hS hZ) (fun u4 d2 z_2 => ?_)
  refine pc_if (fun _ => ?_) (fun _ => ?_)
  · exact k_fX8_isSpelt_L15 N g x0 x1 x2 x3 hS 0 d2 z_2
  · exact pc_some z_2
theorem k_fX8_cutWord_J87 (N : Nat) (g : Gs) (x0 : Nat) (x1 : Nat) (x2 : Int32) (K48 : Int32 × Nat × Int32 × Int32 × Ds → Option (Int32 × Ds)) (y3 : Int32) (y4 : Nat) (y5 : Int32) (y6 : Int32) (d : Ds) (hS : Shp g) (hZ : KL d) (hK48 : ∀ a, KL a.2.2.2.2 → pc (K48 a) (fun _ d1 => KL d1)) : pc (fX8_cutWord_J87 N g x0 x1 x2 K48 y3 y4 y5 y6 d) (fun _ d1 => KL d1) := by
  unfold fX8_cutWord_J87
  refine pc_bd (fun u16 e_1 => ?_)
  exact hK48 _ hZ
theorem k_fX8_cutWord_B48 (N : Nat) (g : Gs) (x0 : Nat) (x1 : Nat) (x2 : Int32) (K48 : Int32 × Nat × Int32 × Int32 × Ds → Option (Int32 × Ds)) (y3 : Int32) (y4 : Nat) (y5 : Int32) (y6 : Int32) (d : Ds) (hS : Shp g) (hZ : KL d) (hK48 : ∀ a, KL a.2.2.2.2 → pc (K48 a) (fun _ d1 => KL d1)) : pc (fX8_cutWord_B48 N g x0 x1 x2 K48 y3 y4 y5 y6 d) (fun _ d1 => KL d1) := by
  unfold fX8_cutWord_B48
  refine pc_if (fun _ => ?_) (fun _ => ?_)
  · exact pc_some hZ
  · refine pc_gd (fun c_1 => ?_)
    refine pc_gd (fun c_2 => ?_)
    refine pc_gd (fun c_3 => ?_)
    refine pc_cb (k_fX8_isSpelt N g ((100000 + y6.toNatClampNeg) + 21) x1 x2 y3 d hS hZ) (fun u14 d12 z_4 => ?_)
    refine pc_if (fun _ => ?_) (fun _ => ?_)
    · exact k_fX8_cutWord_J87 N g x0 x1 x2 K48 y3 y4 y5 y6 d12 hS z_4 hK48
    · refine pc_gd (fun c_5 => ?_)
      refine pc_ob (fun r18 e_6 => ?_)
      refine pc_gd (fun c_7 => ?_)
      refine pc_gd (fun c_8 => ?_)
      refine pc_gd (fun c_9 => ?_)
      refine pc_bd (fun d22 e_10 => ?_)
      have z_11 := KL.w z_4 e_10
      exact k_fX8_cutWord_J87 N g x0 x1 x2 K48 y3 y4 y5 y6 d22 hS z_11 hK48
theorem k_fX8_cutWord_L48 (N : Nat) (g : Gs) (x0 : Nat) (x1 : Nat) (x2 : Int32) (hS : Shp g) (a0 : Int32) (a1 : Nat) (a2 : Int32) (a3 : Int32) (a4 : Ds) (hZ : KL a4) : pc (fX8_cutWord_L48 N g x0 x1 x2 (a0, a1, a2, a3, a4)) (fun _ d1 => KL d1) := by
  unfold fX8_cutWord_L48
  refine pc_lp (fun a => KL a.2.2.2.2) ?_ N (a0, a1, a2, a3, a4) hZ
  rintro K ⟨a0, a1, a2, a3, a4⟩ hZ hK
  exact k_fX8_cutWord_B48 N g x0 x1 x2 K a0 a1 a2 a3 a4 hS hZ hK
theorem k_fX8_cutWord_J25 (N : Nat) (g : Gs) (x0 : Nat) (x1 : Nat) (x2 : Int32) (y3 : Int32) (d : Ds) (hS : Shp g) (hZ : KL d) : pc (fX8_cutWord_J25 N g x0 x1 x2 y3 d) (fun _ d1 => KL d1) := by
  unfold fX8_cutWord_J25
  refine pc_gd (fun c_1 => ?_)
  refine pc_ob (fun r4 e_2 => ?_)
  refine pc_gd (fun c_3 => ?_)
  refine pc_gd (fun c_4 => ?_)
  refine pc_bd (fun d7 e_5 => ?_)
  have z_6 := KL.i hZ e_5
  exact k_fX8_cutWord_L48 N g x0 x1 x2 hS y3 100020 20 0 d7 z_6
theorem k_fX8_cutWord_B2 (N : Nat) (g : Gs) (x0 : Nat) (x1 : Nat) (x2 : Int32) (K2 : Int32 × Ds → Option (Int32 × Ds)) (y3 : Int32) (d : Ds) (hS : Shp g) (hZ : KL d) (hK2 : ∀ a, KL a.2 → pc (K2 a) (fun _ d1 => KL d1)) : pc (fX8_cutWord_B2 N g x0 x1 x2 K2 y3 d) (fun _ d1 => KL d1) := by
  unfold fX8_cutWord_B2
  refine pc_gd (fun c_1 => ?_)
  refine pc_if (fun _ => ?_) (fun _ => ?_)
  · exact k_fX8_cutWord_J25 N g x0 x1 x2 y3 d hS hZ
  · refine pc_gd (fun c_2 => ?_)
    refine pc_gd (fun c_3 => ?_)
    refine pc_cb (k_fX8_isLetter N g (dI d x1 y3.toNatClampNeg) d hS hZ) (fun u27 d25 z_4 => ?_)
    refine pc_if (fun _ => ?_) (fun _ => ?_)
    · exact k_fX8_cutWord_J25 N g x0 x1 x2 y3 d25 hS z_4
    · refine pc_bd (fun u29 e_5 => ?_)
      exact hK2 _ z_4
theorem k_fX8_cutWord_L2 (N : Nat) (g : Gs) (x0 : Nat) (x1 : Nat) (x2 : Int32) (hS : Shp g) (a0 : Int32) (a1 : Ds) (hZ : KL a1) : pc (fX8_cutWord_L2 N g x0 x1 x2 (a0, a1)) (fun _ d1 => KL d1) := by
  unfold fX8_cutWord_L2
  refine pc_lp (fun a => KL a.2) ?_ N (a0, a1) hZ
  rintro K ⟨a0, a1⟩ hZ hK
  exact k_fX8_cutWord_B2 N g x0 x1 x2 K a0 a1 hS hZ hK
theorem k_fX8_cutWord (N : Nat) (g : Gs) (x0 : Nat) (x1 : Nat) (x2 : Int32) (d : Ds) (hS : Shp g) (hZ : KL d) : pc (fX8_cutWord N g x0 x1 x2 d) (fun _ d1 => KL d1) := by
  unfold fX8_cutWord
  exact k_fX8_cutWord_L2 N g x0 x1 x2 hS x2 d hZ
theorem k_fX8_cut_B28 (N : Nat) (g : Gs) (x0 : Nat) (x1 : Nat) (x2 : Int32) (K28 : Int32 × Ds → Option (Unit × Ds)) (y3 : Int32) (d : Ds) (hS : Shp g) (hZ : KL d) (hK28 : ∀ a, KL a.2 → pc (K28 a) (fun _ d1 => KL d1)) : pc (fX8_cut_B28 N g x0 x1 x2 K28 y3 d) (fun _ d1 => KL d1) := by
  unfold fX8_cut_B28
  refine pc_gd (fun c_1 => ?_)
  refine pc_if (fun _ => ?_) (fun _ => ?_)
  · exact k_fX8_cut_J164 N g x0 x1 x2 d hS hZ
  · refine pc_if (fun _ => ?_) (fun _ => ?_)
    · exact k_fX8_cut_J164 N g x0 x1 x2 d hS hZ
    · refine pc_ob (fun r14 e_2 => ?_)
      refine pc_gd (fun c_3 => ?_)
      refine pc_gd (fun c_4 => ?_)
      refine pc_bd (fun d17 e_5 => ?_)
      have z_6 := KL.i hZ e_5
      refine pc_ob (fun r18 e_7 => ?_)
      refine pc_gd (fun c_8 => ?_)
      refine pc_gd (fun c_9 => ?_)
      refine pc_gd (fun c_10 => ?_)
      refine pc_bd (fun d22 e_11 => ?_)
      have z_12 := KL.w z_6 e_11
      refine pc_ob (fun r23 e_13 => ?_)
      refine pc_gd (fun c_14 => ?_)
      refine pc_gd (fun c_15 => ?_)
      refine pc_bd (fun d26 e_16 => ?_)
      have z_17 := KL.i z_12 e_16
      refine pc_bd (fun u27 e_18 => ?_)
      refine pc_gd (fun c_19 => ?_)
      refine pc_gd (fun c_20 => ?_)
      refine pc_cb (k_fX8_isLetter N g (dI d26 x1 y3.toNatClampNeg) d26 hS z_17) (fun u32 d30 z_21 => ?_)
      refine pc_if (fun _ => ?_) (fun _ => ?_)
      · refine pc_cb (k_fX8_isDigit N g (dI d30 x1 y3.toNatClampNeg) d30 hS z_21) (fun u36 d34 z_22 => ?_)
        refine pc_if (fun _ => ?_) (fun _ => ?_)
        · refine pc_ob (fun r38 e_23 => ?_)
          refine pc_if (fun _ => ?_) (fun _ => ?_)
          · exact k_fX8_cut_J142 N g x0 x1 x2 K28 u27 3 (dI d34 x0 4) r38 d34 hS z_22 hK28
          · exact k_fX8_cut_J142 N g x0 x1 x2 K28 u27 4 (dI d34 x0 4) r38 d34 hS z_22 hK28
        · refine pc_cb (k_fX8_cutInt N g x0 x1 y3 d34 hS z_22) (fun u50 d48 z_24 => ?_)
          exact k_fX8_cut_J143 N g x0 x1 x2 K28 u50 d48 hS z_24 hK28
      · refine pc_cb (k_fX8_cutWord N g x0 x1 y3 d30 hS z_21) (fun u53 d51 z_25 => ?_)
        exact k_fX8_cut_J143 N g x0 x1 x2 K28 u53 d51 hS z_25 hK28
theorem k_fX8_cut_L28 (N : Nat) (g : Gs) (x0 : Nat) (x1 : Nat) (x2 : Int32) (hS : Shp g) (a0 : Int32) (a1 : Ds) (hZ : KL a1) : pc (fX8_cut_L28 N g x0 x1 x2 (a0, a1)) (fun _ d1 => KL d1) := by
  unfold fX8_cut_L28
  refine pc_lp (fun a => KL a.2) ?_ N (a0, a1) hZ
  rintro K ⟨a0, a1⟩ hZ hK
  exact k_fX8_cut_B28 N g x0 x1 x2 K a0 a1 hS hZ hK
theorem k_fX8_cut_J18 (N : Nat) (g : Gs) (x0 : Nat) (x1 : Nat) (x2 : Int32) (z0 : Int32) (z1 : Nat) (d : Ds) (hS : Shp g) (hZ : KL d) : pc (fX8_cut_J18 N g x0 x1 x2 z0 z1 d) (fun _ d1 => KL d1) := by
  unfold fX8_cut_J18
  refine pc_gd (fun c_1 => ?_)
  refine pc_bd (fun d6 e_2 => ?_)
  have z_3 := KL.i hZ e_2
  refine pc_gd (fun c_4 => ?_)
  refine pc_cb (k_fX8_skipBlanks N g x0 x1 0 d6 hS z_3) (fun u10 d8 z_5 => ?_)
  exact k_fX8_cut_L28 N g x0 x1 x2 hS u10 d8 z_5
theorem k_fX8_cut (N : Nat) (g : Gs) (x0 : Nat) (x1 : Nat) (x2 : Int32) (d : Ds) (hS : Shp g) (hZ : KL d) : pc (fX8_cut N g x0 x1 x2 d) (fun _ d1 => KL d1) := by
  unfold fX8_cut
  refine pc_gd (fun c_1 => ?_)
  refine pc_bd (fun d2 e_2 => ?_)
  have z_3 := KL.i hZ e_2
  refine pc_gd (fun c_4 => ?_)
  refine pc_if (fun _ => ?_) (fun _ => ?_)
  · exact k_fX8_cut_J18 N g x0 x1 x2 (Int32.ofNat (gL g x1)) x0 d2 hS z_3
  · exact k_fX8_cut_J18 N g x0 x1 x2 x2 x0 d2 hS z_3
theorem k_fX2_tell (N : Nat) (g : Gs) (x0 : Nat) (x1 : Int32) (x2 : Int32) (x3 : Int32) (d : Ds) (hS : Shp g) (hZ : KL d) : pc (fX2_tell N g x0 x1 x2 x3 d) (fun _ d1 => KL d1) := by
  unfold fX2_tell
  refine pc_gd (fun c_1 => ?_)
  refine pc_bd (fun d2 e_2 => ?_)
  have z_3 := KL.i hZ e_2
  refine pc_bd (fun d3 e_4 => ?_)
  have z_5 := KL.i z_3 e_4
  refine pc_bd (fun d4 e_6 => ?_)
  have z_7 := KL.i z_5 e_6
  exact pc_some z_7
theorem k_fX0_clear_J81 (N : Nat) (g : Gs) (x0 : Nat) (K55 : Int32 × Ds → Option (Unit × Ds)) (y1 : Int32) (z0 : Int32) (z1 : Nat) (d : Ds) (hS : Shp g) (hZ : KL d) (hK55 : ∀ a, KL a.2 → pc (K55 a) (fun _ d1 => KL d1)) : pc (fX0_clear_J81 N g x0 K55 y1 z0 z1 d) (fun _ d1 => KL d1) := by
  unfold fX0_clear_J81
  refine pc_gd (fun c_1 => ?_)
  refine pc_cv (k_fX2_tell N g z1 z0 (-1) (-1) d hS hZ) (fun d22 z_2 => ?_)
  refine pc_bd (fun u24 e_3 => ?_)
  exact hK55 _ z_2
theorem k_fX0_clear_B55 (N : Nat) (g : Gs) (x0 : Nat) (K55 : Int32 × Ds → Option (Unit × Ds)) (y1 : Int32) (d : Ds) (hS : Shp g) (hZ : KL d) (hK55 : ∀ a, KL a.2 → pc (K55 a) (fun _ d1 => KL d1)) : pc (fX0_clear_B55 N g x0 K55 y1 d) (fun _ d1 => KL d1) := by
  unfold fX0_clear_B55
  refine pc_gd (fun c_1 => ?_)
  refine pc_ob (fun r13 e_2 => ?_)
  refine pc_gd (fun c_3 => ?_)
  refine pc_if (fun _ => ?_) (fun _ => ?_)
  · refine pc_bd (fun d16 e_4 => ?_)
    have z_5 := KL.i hZ e_4
    refine pc_bd (fun d17 e_6 => ?_)
    have z_7 := KL.i z_5 e_6
    exact pc_some z_7
  · refine pc_gd (fun c_8 => ?_)
    refine pc_ob (fun r19 e_9 => ?_)
    refine pc_if (fun _ => ?_) (fun _ => ?_)
    · exact k_fX0_clear_J81 N g x0 K55 y1 5 r19 d hS hZ hK55
    · exact k_fX0_clear_J81 N g x0 K55 y1 4 r19 d hS hZ hK55
theorem k_fX0_clear_L55 (N : Nat) (g : Gs) (x0 : Nat) (hS : Shp g) (a0 : Int32) (a1 : Ds) (hZ : KL a1) : pc (fX0_clear_L55 N g x0 (a0, a1)) (fun _ d1 => KL d1) := by
  unfold fX0_clear_L55
  refine pc_lp (fun a => KL a.2) ?_ N (a0, a1) hZ
  rintro K ⟨a0, a1⟩ hZ hK
  exact k_fX0_clear_B55 N g x0 K a0 a1 hS hZ hK
theorem k_fX0_clear (N : Nat) (g : Gs) (x0 : Nat) (d : Ds) (hS : Shp g) (hZ : KL d) : pc (fX0_clear N g x0 d) (fun _ d1 => KL d1) := by
  unfold fX0_clear
  refine pc_gd (fun c_1 => ?_)
  refine pc_bd (fun d2 e_2 => ?_)
  have z_3 := KL.i hZ e_2
  refine pc_bd (fun d3 e_4 => ?_)
  have z_5 := KL.i z_3 e_4
  refine pc_bd (fun d4 e_6 => ?_)
  have z_7 := KL.i z_5 e_6
  refine pc_bd (fun d5 e_8 => ?_)
  have z_9 := KL.i z_7 e_8
  refine pc_bd (fun d6 e_10 => ?_)
  have z_11 := KL.i z_9 e_10
  refine pc_bd (fun d7 e_12 => ?_)
  have z_13 := KL.i z_11 e_12
  refine pc_bd (fun d8 e_14 => ?_)
  have z_15 := KL.i z_13 e_14
  refine pc_bd (fun d9 e_16 => ?_)
  have z_17 := KL.i z_15 e_16
  refine pc_bd (fun d10 e_18 => ?_)
  have z_19 := KL.i z_17 e_18
  refine pc_bd (fun d11 e_20 => ?_)
  have z_21 := KL.i z_19 e_20
  exact k_fX0_clear_L55 N g x0 hS 0 d11 z_21
theorem k_fX8_wordAt_J22 (N : Nat) (g : Gs) (x0 : Nat) (x1 : Int32) (z0 : Option Nat) (d : Ds) (hS : Shp g) (hZ : KL d) : pc (fX8_wordAt_J22 N g x0 x1 z0 d) (fun _ d1 => KL d1) := by
  unfold fX8_wordAt_J22
  exact pc_some hZ
theorem k_fX8_wordAt_J21 (N : Nat) (g : Gs) (x0 : Nat) (x1 : Int32) (d : Ds) (hS : Shp g) (hZ : KL d) : pc (fX8_wordAt_J21 N g x0 x1 d) (fun _ d1 => KL d1) := by
  unfold fX8_wordAt_J21
  exact k_fX8_wordAt_J22 N g x0 x1 none d hS hZ
theorem k_fX8_wordAt (N : Nat) (g : Gs) (x0 : Nat) (x1 : Int32) (d : Ds) (hS : Shp g) (hZ : KL d) : pc (fX8_wordAt N g x0 x1 d) (fun _ d1 => KL d1) := by
  unfold fX8_wordAt
  refine pc_if (fun _ => ?_) (fun _ => ?_)
  · exact k_fX8_wordAt_J21 N g x0 x1 d hS hZ
  · refine pc_gd (fun c_1 => ?_)
    refine pc_if (fun _ => ?_) (fun _ => ?_)
    · exact k_fX8_wordAt_J21 N g x0 x1 d hS hZ
    · refine pc_ob (fun r4 e_2 => ?_)
      refine pc_gd (fun c_3 => ?_)
      refine pc_gd (fun c_4 => ?_)
      refine pc_bd (fun u7 e_5 => ?_)
      exact k_fX8_wordAt_J22 N g x0 x1 u7 d hS hZ
theorem k_fX8_kindAt_J22 (N : Nat) (g : Gs) (x0 : Nat) (x1 : Int32) (z0 : Int32) (d : Ds) (hS : Shp g) (hZ : KL d) : pc (fX8_kindAt_J22 N g x0 x1 z0 d) (fun _ d1 => KL d1) := by
  unfold fX8_kindAt_J22
  exact pc_some hZ
theorem k_fX8_kindAt_J21 (N : Nat) (g : Gs) (x0 : Nat) (x1 : Int32) (d : Ds) (hS : Shp g) (hZ : KL d) : pc (fX8_kindAt_J21 N g x0 x1 d) (fun _ d1 => KL d1) := by
  unfold fX8_kindAt_J21
  exact k_fX8_kindAt_J22 N g x0 x1 0 d hS hZ
theorem k_fX8_kindAt (N : Nat) (g : Gs) (x0 : Nat) (x1 : Int32) (d : Ds) (hS : Shp g) (hZ : KL d) : pc (fX8_kindAt N g x0 x1 d) (fun _ d1 => KL d1) := by
  unfold fX8_kindAt
  refine pc_if (fun _ => ?_) (fun _ => ?_)
  · exact k_fX8_kindAt_J21 N g x0 x1 d hS hZ
  · refine pc_gd (fun c_1 => ?_)
    refine pc_if (fun _ => ?_) (fun _ => ?_)
    · exact k_fX8_kindAt_J21 N g x0 x1 d hS hZ
    · refine pc_ob (fun r4 e_2 => ?_)
      refine pc_gd (fun c_3 => ?_)
      refine pc_gd (fun c_4 => ?_)
      exact k_fX8_kindAt_J22 N g x0 x1 (dI d r4 x1.toNatClampNeg) d hS hZ
theorem k_fX7_fail (N : Nat) (g : Gs) (x0 : Nat) (x1 : Int32) (d : Ds) (hS : Shp g) (hZ : KL d) : pc (fX7_fail N g x0 x1 d) (fun _ d1 => KL d1) := by
  unfold fX7_fail
  refine pc_gd (fun c_1 => ?_)
  refine pc_bd (fun d2 e_2 => ?_)
  have z_3 := KL.i hZ e_2
  refine pc_bd (fun d3 e_4 => ?_)
  have z_5 := KL.i z_3 e_4
  exact pc_some z_5
theorem k_fX7_takeToken (N : Nat) (g : Gs) (x0 : Nat) (x1 : Int32) (d : Ds) (hS : Shp g) (hZ : KL d) : pc (fX7_takeToken N g x0 x1 d) (fun _ d1 => KL d1) := by
  unfold fX7_takeToken
  refine pc_gd (fun c_1 => ?_)
  refine pc_ob (fun r2 e_2 => ?_)
  refine pc_gd (fun c_3 => ?_)
  refine pc_cb (k_fX8_kindAt N g r2 (dI d x0 3) d hS hZ) (fun u6 d4 z_4 => ?_)
  refine pc_if (fun _ => ?_) (fun _ => ?_)
  · refine pc_if (fun _ => ?_) (fun _ => ?_)
    · refine pc_bd (fun d9 e_5 => ?_)
      have z_6 := KL.i z_4 e_5
      exact pc_some z_6
    · refine pc_cb (k_fX7_fail N g x0 2 d4 hS z_4) (fun u12 d10 z_7 => ?_)
      refine pc_gd (fun c_8 => ?_)
      exact pc_some z_7
  · refine pc_cb (k_fX7_fail N g x0 1 d4 hS z_4) (fun u16 d14 z_9 => ?_)
    refine pc_gd (fun c_10 => ?_)
    exact pc_some z_9
theorem k_fX7_takeBoard_J40 (N : Nat) (g : Gs) (x0 : Nat) (d : Ds) (hS : Shp g) (hZ : KL d) : pc (fX7_takeBoard_J40 N g x0 d) (fun _ d1 => KL d1) := by
  unfold fX7_takeBoard_J40
  exact pc_some hZ
theorem k_fX8_numberAt_J22 (N : Nat) (g : Gs) (x0 : Nat) (x1 : Int32) (z0 : Int32) (d : Ds) (hS : Shp g) (hZ : KL d) : pc (fX8_numberAt_J22 N g x0 x1 z0 d) (fun _ d1 => KL d1) := by
  unfold fX8_numberAt_J22
  exact pc_some hZ
theorem k_fX8_numberAt_J21 (N : Nat) (g : Gs) (x0 : Nat) (x1 : Int32) (d : Ds) (hS : Shp g) (hZ : KL d) : pc (fX8_numberAt_J21 N g x0 x1 d) (fun _ d1 => KL d1) := by
  unfold fX8_numberAt_J21
  exact k_fX8_numberAt_J22 N g x0 x1 0 d hS hZ
theorem k_fX8_numberAt (N : Nat) (g : Gs) (x0 : Nat) (x1 : Int32) (d : Ds) (hS : Shp g) (hZ : KL d) : pc (fX8_numberAt N g x0 x1 d) (fun _ d1 => KL d1) := by
  unfold fX8_numberAt
  refine pc_if (fun _ => ?_) (fun _ => ?_)
  · exact k_fX8_numberAt_J21 N g x0 x1 d hS hZ
  · refine pc_gd (fun c_1 => ?_)
    refine pc_if (fun _ => ?_) (fun _ => ?_)
    · exact k_fX8_numberAt_J21 N g x0 x1 d hS hZ
    · refine pc_ob (fun r4 e_2 => ?_)
      refine pc_gd (fun c_3 => ?_)
      refine pc_gd (fun c_4 => ?_)
      exact k_fX8_numberAt_J22 N g x0 x1 (dI d r4 x1.toNatClampNeg) d hS hZ
theorem k_fX7_noteLater_J17 (N : Nat) (g : Gs) (x0 : Nat) (x1 : Int32) (x2 : Int32) (d : Ds) (hS : Shp g) (hZ : KL d) : pc (fX7_noteLater_J17 N g x0 x1 x2 d) (fun _ d1 => KL d1) := by
  unfold fX7_noteLater_J17
  exact pc_some hZ
theorem k_fX7_noteLater (N : Nat) (g : Gs) (x0 : Nat) (x1 : Int32) (x2 : Int32) (d : Ds) (hS : Shp g) (hZ : KL d) : pc (fX7_noteLater N g x0 x1 x2 d) (fun _ d1 => KL d1) := by
  unfold fX7_noteLater
  refine pc_gd (fun c_1 => ?_)
  refine pc_if (fun _ => ?_) (fun _ => ?_)
  · refine pc_bd (fun d3 e_2 => ?_)
    have z_3 := KL.i hZ e_2
    refine pc_bd (fun d4 e_4 => ?_)
    have z_5 := KL.i z_3 e_4
    exact k_fX7_noteLater_J17 N g x0 x1 x2 d4 hS z_5
  · exact k_fX7_noteLater_J17 N g x0 x1 x2 d hS hZ
theorem k_fX7_takeNumber_J52 (N : Nat) (g : Gs) (x0 : Nat) (x1 : Int32) (x2 : Int32) (d : Ds) (hS : Shp g) (hZ : KL d) : pc (fX7_takeNumber_J52 N g x0 x1 x2 d) (fun _ d1 => KL d1) := by
  unfold fX7_takeNumber_J52
  exact pc_some hZ
theorem k_fX7_takeNumber_J41 (N : Nat) (g : Gs) (x0 : Nat) (x1 : Int32) (x2 : Int32) (d : Ds) (hS : Shp g) (hZ : KL d) : pc (fX7_takeNumber_J41 N g x0 x1 x2 d) (fun _ d1 => KL d1) := by
  unfold fX7_takeNumber_J41
  refine pc_gd (fun c_1 => ?_)
  refine pc_cv (k_fX7_noteLater N g x0 5 ((dI d x0 3) - 1) d hS hZ) (fun d14 z_2 => ?_)
  exact k_fX7_takeNumber_J52 N g x0 x1 x2 d14 hS z_2
theorem k_fX7_takeNumber (N : Nat) (g : Gs) (x0 : Nat) (x1 : Int32) (x2 : Int32) (d : Ds) (hS : Shp g) (hZ : KL d) : pc (fX7_takeNumber N g x0 x1 x2 d) (fun _ d1 => KL d1) := by
  unfold fX7_takeNumber
  refine pc_gd (fun c_1 => ?_)
  refine pc_ob (fun r2 e_2 => ?_)
  refine pc_gd (fun c_3 => ?_)
  refine pc_cb (k_fX8_numberAt N g r2 (dI d x0 3) d hS hZ) (fun u6 d4 z_4 => ?_)
  refine pc_bd (fun d7 e_5 => ?_)
  have z_6 := KL.i z_4 e_5
  refine pc_cb (k_fX7_takeToken N g x0 2 d7 hS z_6) (fun u10 d8 z_7 => ?_)
  refine pc_if (fun _ => ?_) (fun _ => ?_)
  · exact pc_some z_7
  · refine pc_if (fun _ => ?_) (fun _ => ?_)
    · exact k_fX7_takeNumber_J41 N g x0 x1 x2 d8 hS z_7
    · refine pc_if (fun _ => ?_) (fun _ => ?_)
      · exact k_fX7_takeNumber_J52 N g x0 x1 x2 d8 hS z_7
      · exact k_fX7_takeNumber_J41 N g x0 x1 x2 d8 hS z_7
theorem k_fX7_takeBoard (N : Nat) (g : Gs) (x0 : Nat) (d : Ds) (hS : Shp g) (hZ : KL d) : pc (fX7_takeBoard N g x0 d) (fun _ d1 => KL d1) := by
  unfold fX7_takeBoard
  refine pc_gd (fun c_1 => ?_)
  refine pc_ob (fun r2 e_2 => ?_)
  refine pc_gd (fun c_3 => ?_)
  refine pc_cb (k_fX8_wordAt N g r2 (dI d x0 3) d hS hZ) (fun u6 d4 z_4 => ?_)
  refine pc_gd (fun c_5 => ?_)
  refine pc_gd (fun c_6 => ?_)
  refine pc_if (fun _ => ?_) (fun _ => ?_)
  · refine pc_cb (k_fX7_takeToken N g x0 1 d4 hS z_4) (fun u12 d10 z_7 => ?_)
    refine pc_if (fun _ => ?_) (fun _ => ?_)
    · exact k_fX7_takeBoard_J40 N g x0 d10 hS z_7
    · refine pc_cb (k_fX7_takeNumber N g x0 1 4 d10 hS z_7) (fun u16 d14 z_8 => ?_)
      refine pc_if (fun _ => ?_) (fun _ => ?_)
      · exact k_fX7_takeBoard_J40 N g x0 d14 hS z_8
      · refine pc_ob (fun r18 e_9 => ?_)
        refine pc_gd (fun c_10 => ?_)
        refine pc_bd (fun d20 e_11 => ?_)
        have z_12 := KL.i z_8 e_11
        refine pc_cb (k_fX7_takeNumber N g x0 1 6 d20 hS z_12) (fun u23 d21 z_13 => ?_)
        refine pc_if (fun _ => ?_) (fun _ => ?_)
        · exact pc_some z_13
        · refine pc_bd (fun d25 e_14 => ?_)
          have z_15 := KL.i z_13 e_14
          refine pc_cb (k_fX7_takeToken N g x0 3 d25 hS z_15) (fun u28 d26 z_16 => ?_)
          refine pc_gd (fun c_17 => ?_)
          exact pc_some z_16
  · refine pc_cb (k_fX7_fail N g x0 1 d4 hS z_4) (fun u32 d30 z_18 => ?_)
    refine pc_gd (fun c_19 => ?_)
    exact pc_some z_18
theorem k_fX7_readTape_J122 (N : Nat) (g : Gs) (x0 : Nat) (x1 : Nat) (x2 : Int32) (z0 : Int32) (z1 : Nat) (d : Ds) (hS : Shp g) (hZ : KL d) : pc (fX7_readTape_J122 N g x0 x1 x2 z0 z1 d) (fun _ d1 => KL d1) := by
  unfold fX7_readTape_J122
  refine pc_gd (fun c_1 => ?_)
  refine pc_bd (fun d27 e_2 => ?_)
  have z_3 := KL.i hZ e_2
  refine pc_gd (fun c_4 => ?_)
  exact pc_some z_3
theorem k_fX8_placeAt_J25 (N : Nat) (g : Gs) (x0 : Nat) (x1 : Int32) (z0 : Int32) (d : Ds) (hS : Shp g) (hZ : KL d) : pc (fX8_placeAt_J25 N g x0 x1 z0 d) (fun _ d1 => KL d1) := by
  unfold fX8_placeAt_J25
  exact pc_some hZ
theorem k_fX8_placeAt_J21 (N : Nat) (g : Gs) (x0 : Nat) (x1 : Int32) (d : Ds) (hS : Shp g) (hZ : KL d) : pc (fX8_placeAt_J21 N g x0 x1 d) (fun _ d1 => KL d1) := by
  unfold fX8_placeAt_J21
  refine pc_gd (fun c_1 => ?_)
  exact k_fX8_placeAt_J25 N g x0 x1 (dI d x0 5) d hS hZ
theorem k_fX8_placeAt (N : Nat) (g : Gs) (x0 : Nat) (x1 : Int32) (d : Ds) (hS : Shp g) (hZ : KL d) : pc (fX8_placeAt N g x0 x1 d) (fun _ d1 => KL d1) := by
  unfold fX8_placeAt
  refine pc_if (fun _ => ?_) (fun _ => ?_)
  · exact k_fX8_placeAt_J21 N g x0 x1 d hS hZ
  · refine pc_gd (fun c_1 => ?_)
    refine pc_if (fun _ => ?_) (fun _ => ?_)
    · exact k_fX8_placeAt_J21 N g x0 x1 d hS hZ
    · refine pc_ob (fun r5 e_2 => ?_)
      refine pc_gd (fun c_3 => ?_)
      refine pc_gd (fun c_4 => ?_)
      exact k_fX8_placeAt_J25 N g x0 x1 (dI d r5 x1.toNatClampNeg) d hS hZ
theorem k_fX7_readTape_J99 (N : Nat) (g : Gs) (x0 : Nat) (x1 : Nat) (x2 : Int32) (d : Ds) (hS : Shp g) (hZ : KL d) : pc (fX7_readTape_J99 N g x0 x1 x2 d) (fun _ d1 => KL d1) := by
  unfold fX7_readTape_J99
  refine pc_gd (fun c_1 => ?_)
  refine pc_if (fun _ => ?_) (fun _ => ?_)
  · exact k_fX7_readTape_J122 N g x0 x1 x2 (-1) x0 d hS hZ
  · refine pc_ob (fun r21 e_2 => ?_)
    refine pc_gd (fun c_3 => ?_)
    refine pc_cb (k_fX8_placeAt N g r21 (dI d x0 6) d hS hZ) (fun u25 d23 z_4 => ?_)
    exact k_fX7_readTape_J122 N g x0 x1 x2 u25 x0 d23 hS z_4
theorem k_fX7_readTape_J76 (N : Nat) (g : Gs) (x0 : Nat) (x1 : Nat) (x2 : Int32) (d : Ds) (hS : Shp g) (hZ : KL d) : pc (fX7_readTape_J76 N g x0 x1 x2 d) (fun _ d1 => KL d1) := by
  unfold fX7_readTape_J76
  refine pc_gd (fun c_1 => ?_)
  refine pc_if (fun _ => ?_) (fun _ => ?_)
  · refine pc_bd (fun d29 e_2 => ?_)
    have z_3 := KL.i hZ e_2
    refine pc_bd (fun d30 e_4 => ?_)
    have z_5 := KL.i z_3 e_4
    exact k_fX7_readTape_J99 N g x0 x1 x2 d30 hS z_5
  · exact k_fX7_readTape_J99 N g x0 x1 x2 d hS hZ
theorem k_fX7_takeLine_J23 (N : Nat) (g : Gs) (x0 : Nat) (d : Ds) (hS : Shp g) (hZ : KL d) : pc (fX7_takeLine_J23 N g x0 d) (fun _ d1 => KL d1) := by
  unfold fX7_takeLine_J23
  refine pc_gd (fun c_1 => ?_)
  refine pc_cb (k_fX7_fail N g x0 1 d hS hZ) (fun u11 d9 z_2 => ?_)
  refine pc_gd (fun c_3 => ?_)
  exact pc_some z_2
theorem k_fX7_takeLine_J65 (N : Nat) (g : Gs) (x0 : Nat) (d : Ds) (hS : Shp g) (hZ : KL d) : pc (fX7_takeLine_J65 N g x0 d) (fun _ d1 => KL d1) := by
  unfold fX7_takeLine_J65
  refine pc_gd (fun c_1 => ?_)
  refine pc_cb (k_fX7_fail N g x0 2 d hS hZ) (fun u70 d68 z_2 => ?_)
  refine pc_gd (fun c_3 => ?_)
  exact pc_some z_2
theorem k_fX7_takeLine_J187 (N : Nat) (g : Gs) (x0 : Nat) (z0 : Int32) (d : Ds) (hS : Shp g) (hZ : KL d) : pc (fX7_takeLine_J187 N g x0 z0 d) (fun _ d1 => KL d1) := by
  unfold fX7_takeLine_J187
  refine pc_gd (fun c_1 => ?_)
  exact pc_some hZ
theorem k_fX7_takeLine_J186 (N : Nat) (g : Gs) (x0 : Nat) (d : Ds) (hS : Shp g) (hZ : KL d) : pc (fX7_takeLine_J186 N g x0 d) (fun _ d1 => KL d1) := by
  unfold fX7_takeLine_J186
  exact k_fX7_takeLine_J187 N g x0 0 d hS hZ
theorem k_fX7_takeLine_J170 (N : Nat) (g : Gs) (x0 : Nat) (y2 : Int32) (d : Ds) (hS : Shp g) (hZ : KL d) : pc (fX7_takeLine_J170 N g x0 y2 d) (fun _ d1 => KL d1) := by
  unfold fX7_takeLine_J170
  refine pc_if (fun _ => ?_) (fun _ => ?_)
  · exact k_fX7_takeLine_J186 N g x0 d hS hZ
  · refine pc_gd (fun c_1 => ?_)
    refine pc_cb (k_fX7_takeToken N g x0 3 d hS hZ) (fun u46 d44 z_2 => ?_)
    refine pc_if (fun _ => ?_) (fun _ => ?_)
    · exact k_fX7_takeLine_J186 N g x0 d44 hS z_2
    · exact k_fX7_takeLine_J187 N g x0 1 d44 hS z_2
theorem k_fX0_keys (N : Nat) (g : Gs) (x0 : Nat) (d : Ds) (hS : Shp g) (hZ : KL d) : pc (fX0_keys N g x0 d) (fun _ d1 => KL d1) := by
  unfold fX0_keys
  refine pc_gd (fun c_1 => ?_)
  exact pc_some hZ
theorem k_fX0_toldDeed_J19 (N : Nat) (g : Gs) (x0 : Nat) (x1 : Int32) (x2 : Int32) (d : Ds) (hS : Shp g) (hZ : KL d) : pc (fX0_toldDeed_J19 N g x0 x1 x2 d) (fun _ d1 => KL d1) := by
  unfold fX0_toldDeed_J19
  exact pc_some hZ
theorem k_fX0_toldDeed (N : Nat) (g : Gs) (x0 : Nat) (x1 : Int32) (x2 : Int32) (d : Ds) (hS : Shp g) (hZ : KL d) : pc (fX0_toldDeed N g x0 x1 x2 d) (fun _ d1 => KL d1) := by
  unfold fX0_toldDeed
  refine pc_if (fun _ => ?_) (fun _ => ?_)
  · exact k_fX0_toldDeed_J19 N g x0 x1 x2 d hS hZ
  · refine pc_if (fun _ => ?_) (fun _ => ?_)
    · exact k_fX0_toldDeed_J19 N g x0 x1 x2 d hS hZ
    · refine pc_if (fun _ => ?_) (fun _ => ?_)
      · exact k_fX0_toldDeed_J19 N g x0 x1 x2 d hS hZ
      · refine pc_if (fun _ => ?_) (fun _ => ?_)
        · refine pc_gd (fun c_1 => ?_)
          refine pc_ob (fun r6 e_2 => ?_)
          refine pc_gd (fun c_3 => ?_)
          refine pc_gd (fun c_4 => ?_)
          refine pc_ob (fun r9 e_5 => ?_)
          exact pc_some hZ
        · exact k_fX0_toldDeed_J19 N g x0 x1 x2 d hS hZ
theorem k_fX7_takeDeed_J24 (N : Nat) (g : Gs) (x0 : Nat) (d : Ds) (hS : Shp g) (hZ : KL d) : pc (fX7_takeDeed_J24 N g x0 d) (fun _ d1 => KL d1) := by
  unfold fX7_takeDeed_J24
  refine pc_gd (fun c_1 => ?_)
  refine pc_cb (k_fX7_fail N g x0 1 d hS hZ) (fun u11 d9 z_2 => ?_)
  refine pc_gd (fun c_3 => ?_)
  exact pc_some z_2
theorem k_fX7_takeDeed_J67 (N : Nat) (g : Gs) (x0 : Nat) (d : Ds) (hS : Shp g) (hZ : KL d) : pc (fX7_takeDeed_J67 N g x0 d) (fun _ d1 => KL d1) := by
  unfold fX7_takeDeed_J67
  exact pc_some hZ
theorem k_fX7_takeDeed_J181 (N : Nat) (g : Gs) (x0 : Nat) (y2 : Option Nat) (d : Ds) (hS : Shp g) (hZ : KL d) : pc (fX7_takeDeed_J181 N g x0 y2 d) (fun _ d1 => KL d1) := by
  unfold fX7_takeDeed_J181
  refine pc_ob (fun r38 e_1 => ?_)
  refine pc_gd (fun c_2 => ?_)
  refine pc_gd (fun c_3 => ?_)
  refine pc_cb (k_fX7_takeNumber N g x0 (wfv 0 (r38 - 100000)) (wfv 1 (r38 - 100000)) d hS hZ) (fun u43 d41 z_4 => ?_)
  refine pc_if (fun _ => ?_) (fun _ => ?_)
  · exact pc_some z_4
  · refine pc_ob (fun r45 e_5 => ?_)
    refine pc_gd (fun c_6 => ?_)
    refine pc_bd (fun d47 e_7 => ?_)
    have z_8 := KL.i z_4 e_7
    exact pc_some z_8
theorem k_fX7_takeDeed_J166 (N : Nat) (g : Gs) (x0 : Nat) (y2 : Option Nat) (z0 : Int32) (z1 : Nat) (d : Ds) (hS : Shp g) (hZ : KL d) : pc (fX7_takeDeed_J166 N g x0 y2 z0 z1 d) (fun _ d1 => KL d1) := by
  unfold fX7_takeDeed_J166
  refine pc_gd (fun c_1 => ?_)
  refine pc_bd (fun d64 e_2 => ?_)
  have z_3 := KL.i hZ e_2
  exact k_fX7_takeDeed_J181 N g x0 y2 d64 hS z_3
theorem k_fX7_takeDeed_J138 (N : Nat) (g : Gs) (x0 : Nat) (y2 : Option Nat) (d : Ds) (hS : Shp g) (hZ : KL d) : pc (fX7_takeDeed_J138 N g x0 y2 d) (fun _ d1 => KL d1) := by
  unfold fX7_takeDeed_J138
  refine pc_gd (fun c_1 => ?_)
  refine pc_cb (k_fX7_takeToken N g x0 1 d hS hZ) (fun u57 d55 z_2 => ?_)
  refine pc_if (fun _ => ?_) (fun _ => ?_)
  · exact pc_some z_2
  · refine pc_ob (fun r59 e_3 => ?_)
    refine pc_gd (fun c_4 => ?_)
    refine pc_gd (fun c_5 => ?_)
    refine pc_if (fun _ => ?_) (fun _ => ?_)
    · exact k_fX7_takeDeed_J166 N g x0 y2 6 r59 d55 hS z_2
    · exact k_fX7_takeDeed_J166 N g x0 y2 7 r59 d55 hS z_2
theorem k_fX7_takeDeed (N : Nat) (g : Gs) (x0 : Nat) (d : Ds) (hS : Shp g) (hZ : KL d) : pc (fX7_takeDeed N g x0 d) (fun _ d1 => KL d1) := by
  unfold fX7_takeDeed
  refine pc_gd (fun c_1 => ?_)
  refine pc_ob (fun r2 e_2 => ?_)
  refine pc_gd (fun c_3 => ?_)
  refine pc_cb (k_fX8_wordAt N g r2 (dI d x0 3) d hS hZ) (fun u6 d4 z_4 => ?_)
  refine pc_if (fun _ => ?_) (fun _ => ?_)
  · exact k_fX7_takeDeed_J24 N g x0 d4 hS z_4
  · refine pc_ob (fun r13 e_5 => ?_)
    refine pc_gd (fun c_6 => ?_)
    refine pc_if (fun _ => ?_) (fun _ => ?_)
    · exact k_fX7_takeDeed_J24 N g x0 d4 hS z_4
    · refine pc_cb (k_fX7_takeToken N g x0 1 d4 hS z_4) (fun u18 d16 z_7 => ?_)
      refine pc_if (fun _ => ?_) (fun _ => ?_)
      · exact pc_some z_7
      · refine pc_ob (fun r20 e_8 => ?_)
        refine pc_gd (fun c_9 => ?_)
        refine pc_cv (k_fX2_tell N g r20 (wfv 2 (r13 - 100000)) (-1) (-1) d16 hS z_7) (fun d22 z_10 => ?_)
        refine pc_gd (fun c_11 => ?_)
        refine pc_gd (fun c_12 => ?_)
        refine pc_if (fun _ => ?_) (fun _ => ?_)
        · exact k_fX7_takeDeed_J67 N g x0 d22 hS z_10
        · refine pc_gd (fun c_13 => ?_)
          refine pc_if (fun _ => ?_) (fun _ => ?_)
          · exact k_fX7_takeDeed_J67 N g x0 d22 hS z_10
          · refine pc_cb (k_fX7_takeNumber N g x0 (wfv 0 (r13 - 100000)) (wfv 1 (r13 - 100000)) d22 hS z_10) (fun u31 d29 z_14 => ?_)
            refine pc_if (fun _ => ?_) (fun _ => ?_)
            · exact pc_some z_14
            · refine pc_bd (fun d33 e_15 => ?_)
              have z_16 := KL.i z_14 e_15
              refine pc_gd (fun c_17 => ?_)
              refine pc_if (fun _ => ?_) (fun _ => ?_)
              · refine pc_cb (k_fX8_wordAt N g r2 (dI d33 x0 3) d33 hS z_16) (fun u50 d48 z_18 => ?_)
                refine pc_gd (fun c_19 => ?_)
                refine pc_gd (fun c_20 => ?_)
                refine pc_if (fun _ => ?_) (fun _ => ?_)
                · exact k_fX7_takeDeed_J138 N g x0 u50 d48 hS z_18
                · refine pc_gd (fun c_21 => ?_)
                  refine pc_if (fun _ => ?_) (fun _ => ?_)
                  · exact k_fX7_takeDeed_J138 N g x0 u50 d48 hS z_18
                  · refine pc_cb (k_fX7_fail N g x0 1 d48 hS z_18) (fun u69 d67 z_22 => ?_)
                    refine pc_gd (fun c_23 => ?_)
                    exact pc_some z_22
              · refine pc_gd (fun c_24 => ?_)
                refine pc_if (fun _ => ?_) (fun _ => ?_)
                · exact k_fX7_takeDeed_J181 N g x0 u6 d33 hS z_16
                · exact pc_some z_16
theorem k_fX7_takeKey_J79 (N : Nat) (g : Gs) (x0 : Nat) (d : Ds) (hS : Shp g) (hZ : KL d) : pc (fX7_takeKey_J79 N g x0 d) (fun _ d1 => KL d1) := by
  unfold fX7_takeKey_J79
  exact pc_some hZ
theorem k_fX2_copyFrom (N : Nat) (g : Gs) (x0 : Nat) (x1 : Nat) (d : Ds) (hS : Shp g) (hZ : KL d) : pc (fX2_copyFrom N g x0 x1 d) (fun _ d1 => KL d1) := by
  unfold fX2_copyFrom
  refine pc_gd (fun c_1 => ?_)
  refine pc_gd (fun c_2 => ?_)
  refine pc_cv (k_fX2_tell N g x0 (dI d x1 0) (dI d x1 1) (dI d x1 2) d hS hZ) (fun d3 z_3 => ?_)
  exact pc_some z_3
theorem k_fX7_takeKey (N : Nat) (g : Gs) (x0 : Nat) (d : Ds) (hS : Shp g) (hZ : KL d) : pc (fX7_takeKey N g x0 d) (fun _ d1 => KL d1) := by
  unfold fX7_takeKey
  refine pc_gd (fun c_1 => ?_)
  refine pc_gd (fun c_2 => ?_)
  refine pc_cb (k_fX7_takeNumber N g x0 (wfv 0 (100008 - 100000)) (wfv 1 (100008 - 100000)) d hS hZ) (fun u5 d3 z_3 => ?_)
  refine pc_if (fun _ => ?_) (fun _ => ?_)
  · exact pc_some z_3
  · refine pc_bd (fun u7 e_4 => ?_)
    refine pc_ob (fun r8 e_5 => ?_)
    refine pc_gd (fun c_6 => ?_)
    refine pc_cb (k_fX0_keys N g r8 d3 hS z_3) (fun u12 d10 z_7 => ?_)
    refine pc_cb (k_fX7_takeNumber N g x0 0 (u12 - 1) d10 hS z_7) (fun u15 d13 z_8 => ?_)
    refine pc_if (fun _ => ?_) (fun _ => ?_)
    · exact pc_some z_8
    · refine pc_cb (k_fX0_toldDeed N g r8 u7 (dI d13 x0 4) d13 hS z_8) (fun u19 d17 z_9 => ?_)
      refine pc_cb (k_fX7_takeDeed N g x0 d17 hS z_9) (fun u22 d20 z_10 => ?_)
      refine pc_if (fun _ => ?_) (fun _ => ?_)
      · exact pc_some z_10
      · refine pc_if (fun _ => ?_) (fun _ => ?_)
        · exact k_fX7_takeKey_J79 N g x0 d20 hS z_10
        · refine pc_ob (fun r25 e_11 => ?_)
          refine pc_ob (fun r26 e_12 => ?_)
          refine pc_gd (fun c_13 => ?_)
          refine pc_cv (k_fX2_copyFrom N g r26 r25 d20 hS z_10) (fun d28 z_14 => ?_)
          exact k_fX7_takeKey_J79 N g x0 d28 hS z_14
theorem k_fX7_takeChordKey_J38 (N : Nat) (g : Gs) (x0 : Nat) (x1 : Int32) (d : Ds) (hS : Shp g) (hZ : KL d) : pc (fX7_takeChordKey_J38 N g x0 x1 d) (fun _ d1 => KL d1) := by
  unfold fX7_takeChordKey_J38
  refine pc_gd (fun c_1 => ?_)
  refine pc_ob (fun r12 e_2 => ?_)
  refine pc_gd (fun c_3 => ?_)
  refine pc_cb (k_fX0_keys N g r12 d hS hZ) (fun u16 d14 z_4 => ?_)
  refine pc_cb (k_fX7_takeNumber N g x0 0 (u16 - 1) d14 hS z_4) (fun u19 d17 z_5 => ?_)
  refine pc_gd (fun c_6 => ?_)
  exact pc_some z_5
theorem k_fX7_takeChordKey_J29 (N : Nat) (g : Gs) (x0 : Nat) (x1 : Int32) (d : Ds) (hS : Shp g) (hZ : KL d) : pc (fX7_takeChordKey_J29 N g x0 x1 d) (fun _ d1 => KL d1) := by
  unfold fX7_takeChordKey_J29
  refine pc_gd (fun c_1 => ?_)
  refine pc_cv (k_fX7_noteLater N g x0 3 (dI d x0 3) d hS hZ) (fun d9 z_2 => ?_)
  exact k_fX7_takeChordKey_J38 N g x0 x1 d9 hS z_2
theorem k_fX0_chordOf_J30 (N : Nat) (g : Gs) (x0 : Nat) (x1 : Int32) (y2 : Int32) (d : Ds) (hS : Shp g) (hZ : KL d) : pc (fX0_chordOf_J30 N g x0 x1 y2 d) (fun _ d1 => KL d1) := by
  unfold fX0_chordOf_J30
  exact pc_some hZ
theorem k_fX0_chordOf_B2 (N : Nat) (g : Gs) (x0 : Nat) (x1 : Int32) (K2 : Int32 × Ds → Option (Int32 × Ds)) (y2 : Int32) (d : Ds) (hS : Shp g) (hZ : KL d) (hK2 : ∀ a, KL a.2 → pc (K2 a) (fun _ d1 => KL d1)) : pc (fX0_chordOf_B2 N g x0 x1 K2 y2 d) (fun _ d1 => KL d1) := by
  unfold fX0_chordOf_B2
  refine pc_gd (fun c_1 => ?_)
  refine pc_if (fun _ => ?_) (fun _ => ?_)
  · exact pc_some hZ
  · refine pc_ob (fun r3 e_2 => ?_)
    refine pc_gd (fun c_3 => ?_)
    refine pc_gd (fun c_4 => ?_)
    refine pc_if (fun _ => ?_) (fun _ => ?_)
    · exact k_fX0_chordOf_J30 N g x0 x1 y2 d hS hZ
    · refine pc_ob (fun r7 e_5 => ?_)
      refine pc_gd (fun c_6 => ?_)
      refine pc_gd (fun c_7 => ?_)
      refine pc_if (fun _ => ?_) (fun _ => ?_)
      · exact k_fX0_chordOf_J30 N g x0 x1 y2 d hS hZ
      · refine pc_bd (fun u11 e_8 => ?_)
        exact hK2 _ hZ
theorem k_fX0_chordOf_L2 (N : Nat) (g : Gs) (x0 : Nat) (x1 : Int32) (hS : Shp g) (a0 : Int32) (a1 : Ds) (hZ : KL a1) : pc (fX0_chordOf_L2 N g x0 x1 (a0, a1)) (fun _ d1 => KL d1) := by
  unfold fX0_chordOf_L2
  refine pc_lp (fun a => KL a.2) ?_ N (a0, a1) hZ
  rintro K ⟨a0, a1⟩ hZ hK
  exact k_fX0_chordOf_B2 N g x0 x1 K a0 a1 hS hZ hK
theorem k_fX0_chordOf (N : Nat) (g : Gs) (x0 : Nat) (x1 : Int32) (d : Ds) (hS : Shp g) (hZ : KL d) : pc (fX0_chordOf N g x0 x1 d) (fun _ d1 => KL d1) := by
  unfold fX0_chordOf
  exact k_fX0_chordOf_L2 N g x0 x1 hS 0 d hZ
theorem k_fX7_takeChordKey (N : Nat) (g : Gs) (x0 : Nat) (x1 : Int32) (d : Ds) (hS : Shp g) (hZ : KL d) : pc (fX7_takeChordKey N g x0 x1 d) (fun _ d1 => KL d1) := by
  unfold fX7_takeChordKey
  refine pc_gd (fun c_1 => ?_)
  refine pc_ob (fun r2 e_2 => ?_)
  refine pc_gd (fun c_3 => ?_)
  refine pc_cb (k_fX8_numberAt N g r2 (dI d x0 3) d hS hZ) (fun u6 d4 z_4 => ?_)
  refine pc_if (fun _ => ?_) (fun _ => ?_)
  · exact k_fX7_takeChordKey_J29 N g x0 x1 d4 hS z_4
  · refine pc_ob (fun r21 e_5 => ?_)
    refine pc_gd (fun c_6 => ?_)
    refine pc_cb (k_fX0_chordOf N g r21 u6 d4 hS z_4) (fun u25 d23 z_7 => ?_)
    refine pc_if (fun _ => ?_) (fun _ => ?_)
    · exact k_fX7_takeChordKey_J38 N g x0 x1 d23 hS z_7
    · exact k_fX7_takeChordKey_J29 N g x0 x1 d23 hS z_7
theorem k_fX0_addChord_J51 (N : Nat) (g : Gs) (x0 : Nat) (x1 : Int32) (x2 : Int32) (x3 : Nat) (d : Ds) (hS : Shp g) (hZ : KL d) : pc (fX0_addChord_J51 N g x0 x1 x2 x3 d) (fun _ d1 => KL d1) := by
  unfold fX0_addChord_J51
  exact pc_some hZ
theorem k_fX0_addChord (N : Nat) (g : Gs) (x0 : Nat) (x1 : Int32) (x2 : Int32) (x3 : Nat) (d : Ds) (hS : Shp g) (hZ : KL d) : pc (fX0_addChord N g x0 x1 x2 x3 d) (fun _ d1 => KL d1) := by
  unfold fX0_addChord
  refine pc_gd (fun c_1 => ?_)
  refine pc_if (fun _ => ?_) (fun _ => ?_)
  · exact k_fX0_addChord_J51 N g x0 x1 x2 x3 d hS hZ
  · refine pc_ob (fun r3 e_2 => ?_)
    refine pc_gd (fun c_3 => ?_)
    refine pc_gd (fun c_4 => ?_)
    refine pc_bd (fun d6 e_5 => ?_)
    have z_6 := KL.i hZ e_5
    refine pc_ob (fun r7 e_7 => ?_)
    refine pc_gd (fun c_8 => ?_)
    refine pc_gd (fun c_9 => ?_)
    refine pc_bd (fun d10 e_10 => ?_)
    have z_11 := KL.i z_6 e_10
    refine pc_ob (fun r11 e_12 => ?_)
    refine pc_gd (fun c_13 => ?_)
    refine pc_gd (fun c_14 => ?_)
    refine pc_ob (fun r14 e_15 => ?_)
    refine pc_gd (fun c_16 => ?_)
    refine pc_cv (k_fX2_copyFrom N g r14 x3 d10 hS z_11) (fun d16 z_17 => ?_)
    refine pc_bd (fun d18 e_18 => ?_)
    have z_19 := KL.i z_17 e_18
    exact k_fX0_addChord_J51 N g x0 x1 x2 x3 d18 hS z_19
theorem k_fX7_takeChord_J72 (N : Nat) (g : Gs) (x0 : Nat) (y1 : Int32) (y2 : Int32) (d : Ds) (hS : Shp g) (hZ : KL d) : pc (fX7_takeChord_J72 N g x0 y1 y2 d) (fun _ d1 => KL d1) := by
  unfold fX7_takeChord_J72
  refine pc_gd (fun c_1 => ?_)
  refine pc_cb (k_fX7_takeDeed N g x0 d hS hZ) (fun u23 d21 z_2 => ?_)
  refine pc_if (fun _ => ?_) (fun _ => ?_)
  · exact pc_some z_2
  · refine pc_ob (fun r25 e_3 => ?_)
    refine pc_ob (fun r26 e_4 => ?_)
    refine pc_gd (fun c_5 => ?_)
    refine pc_cv (k_fX0_addChord N g r25 y1 y2 r26 d21 hS z_2) (fun d28 z_6 => ?_)
    exact pc_some z_6
theorem k_fX7_takeChord (N : Nat) (g : Gs) (x0 : Nat) (d : Ds) (hS : Shp g) (hZ : KL d) : pc (fX7_takeChord N g x0 d) (fun _ d1 => KL d1) := by
  unfold fX7_takeChord
  refine pc_gd (fun c_1 => ?_)
  refine pc_cb (k_fX7_takeChordKey N g x0 (-1) d hS hZ) (fun u4 d2 z_2 => ?_)
  refine pc_if (fun _ => ?_) (fun _ => ?_)
  · exact pc_some z_2
  · refine pc_bd (fun u6 e_3 => ?_)
    refine pc_cb (k_fX7_takeChordKey N g x0 u6 d2 hS z_2) (fun u9 d7 z_4 => ?_)
    refine pc_if (fun _ => ?_) (fun _ => ?_)
    · exact pc_some z_4
    · refine pc_bd (fun u11 e_5 => ?_)
      refine pc_ob (fun r12 e_6 => ?_)
      refine pc_gd (fun c_7 => ?_)
      refine pc_cb (k_fX8_wordAt N g r12 (dI d7 x0 3) d7 hS z_4) (fun u16 d14 z_8 => ?_)
      refine pc_gd (fun c_9 => ?_)
      refine pc_gd (fun c_10 => ?_)
      refine pc_if (fun _ => ?_) (fun _ => ?_)
      · exact k_fX7_takeChord_J72 N g x0 u6 u11 d14 hS z_8
      · refine pc_gd (fun c_11 => ?_)
        refine pc_if (fun _ => ?_) (fun _ => ?_)
        · exact k_fX7_takeChord_J72 N g x0 u6 u11 d14 hS z_8
        · refine pc_gd (fun c_12 => ?_)
          refine pc_if (fun _ => ?_) (fun _ => ?_)
          · exact k_fX7_takeChord_J72 N g x0 u6 u11 d14 hS z_8
          · refine pc_cv (k_fX7_noteLater N g x0 5 (dI d14 x0 3) d14 hS z_8) (fun d34 z_13 => ?_)
            exact k_fX7_takeChord_J72 N g x0 u6 u11 d34 hS z_13
theorem k_fX0_addMacro_J33 (N : Nat) (g : Gs) (x0 : Nat) (x1 : Int32) (d : Ds) (hS : Shp g) (hZ : KL d) : pc (fX0_addMacro_J33 N g x0 x1 d) (fun _ d1 => KL d1) := by
  unfold fX0_addMacro_J33
  exact pc_some hZ
theorem k_fX0_addMacroCode_J49 (N : Nat) (g : Gs) (x0 : Nat) (x1 : Int32) (d : Ds) (hS : Shp g) (hZ : KL d) : pc (fX0_addMacroCode_J49 N g x0 x1 d) (fun _ d1 => KL d1) := by
  unfold fX0_addMacroCode_J49
  exact pc_some hZ
theorem k_fX0_addMacroCode (N : Nat) (g : Gs) (x0 : Nat) (x1 : Int32) (d : Ds) (hS : Shp g) (hZ : KL d) : pc (fX0_addMacroCode N g x0 x1 d) (fun _ d1 => KL d1) := by
  unfold fX0_addMacroCode
  refine pc_gd (fun c_1 => ?_)
  refine pc_bd (fun u2 e_2 => ?_)
  refine pc_if (fun _ => ?_) (fun _ => ?_)
  · exact k_fX0_addMacroCode_J49 N g x0 x1 d hS hZ
  · refine pc_ob (fun r4 e_3 => ?_)
    refine pc_gd (fun c_4 => ?_)
    refine pc_gd (fun c_5 => ?_)
    refine pc_if (fun _ => ?_) (fun _ => ?_)
    · exact k_fX0_addMacroCode_J49 N g x0 x1 d hS hZ
    · refine pc_ob (fun r8 e_6 => ?_)
      refine pc_gd (fun c_7 => ?_)
      refine pc_gd (fun c_8 => ?_)
      refine pc_bd (fun d11 e_9 => ?_)
      have z_10 := KL.i hZ e_9
      refine pc_bd (fun d12 e_11 => ?_)
      have z_12 := KL.i z_10 e_11
      exact k_fX0_addMacroCode_J49 N g x0 x1 d12 hS z_12
theorem k_fX0_addMacro (N : Nat) (g : Gs) (x0 : Nat) (x1 : Int32) (d : Ds) (hS : Shp g) (hZ : KL d) : pc (fX0_addMacro N g x0 x1 d) (fun _ d1 => KL d1) := by
  unfold fX0_addMacro
  refine pc_gd (fun c_1 => ?_)
  refine pc_if (fun _ => ?_) (fun _ => ?_)
  · exact k_fX0_addMacro_J33 N g x0 x1 d hS hZ
  · refine pc_ob (fun r3 e_2 => ?_)
    refine pc_gd (fun c_3 => ?_)
    refine pc_gd (fun c_4 => ?_)
    refine pc_bd (fun d6 e_5 => ?_)
    have z_6 := KL.i hZ e_5
    refine pc_bd (fun d7 e_7 => ?_)
    have z_8 := KL.i z_6 e_7
    refine pc_cv (k_fX0_addMacroCode N g x0 x1 d7 hS z_8) (fun d8 z_9 => ?_)
    exact k_fX0_addMacro_J33 N g x0 x1 d8 hS z_9
theorem k_fX7_takeMacro_J105 (N : Nat) (g : Gs) (x0 : Nat) (d : Ds) (hS : Shp g) (hZ : KL d) : pc (fX7_takeMacro_J105 N g x0 d) (fun _ d1 => KL d1) := by
  unfold fX7_takeMacro_J105
  exact pc_some hZ
theorem k_fX7_takeMacro_B34 (N : Nat) (g : Gs) (x0 : Nat) (K34 : Int32 × Ds → Option (Int32 × Ds)) (y1 : Int32) (d : Ds) (hS : Shp g) (hZ : KL d) (hK34 : ∀ a, KL a.2 → pc (K34 a) (fun _ d1 => KL d1)) : pc (fX7_takeMacro_B34 N g x0 K34 y1 d) (fun _ d1 => KL d1) := by
  unfold fX7_takeMacro_B34
  refine pc_if (fun _ => ?_) (fun _ => ?_)
  · exact k_fX7_takeMacro_J105 N g x0 d hS hZ
  · refine pc_gd (fun c_1 => ?_)
    refine pc_ob (fun r13 e_2 => ?_)
    refine pc_gd (fun c_3 => ?_)
    refine pc_cb (k_fX8_kindAt N g r13 (dI d x0 3) d hS hZ) (fun u17 d15 z_4 => ?_)
    refine pc_if (fun _ => ?_) (fun _ => ?_)
    · refine pc_if (fun _ => ?_) (fun _ => ?_)
      · refine pc_cb (k_fX7_fail N g x0 2 d15 hS z_4) (fun u32 d30 z_5 => ?_)
        refine pc_gd (fun c_6 => ?_)
        exact pc_some z_5
      · refine pc_gd (fun c_7 => ?_)
        refine pc_cb (k_fX7_takeNumber N g x0 (wfv 0 (100010 - 100000)) (wfv 1 (100010 - 100000)) d15 hS z_4) (fun u23 d21 z_8 => ?_)
        refine pc_if (fun _ => ?_) (fun _ => ?_)
        · exact pc_some z_8
        · refine pc_ob (fun r25 e_9 => ?_)
          refine pc_gd (fun c_10 => ?_)
          refine pc_cv (k_fX0_addMacroCode N g r25 (dI d21 x0 4) d21 hS z_8) (fun d27 z_11 => ?_)
          refine pc_bd (fun u29 e_12 => ?_)
          exact hK34 _ z_11
    · exact k_fX7_takeMacro_J105 N g x0 d15 hS z_4
theorem k_fX7_takeMacro_L34 (N : Nat) (g : Gs) (x0 : Nat) (hS : Shp g) (a0 : Int32) (a1 : Ds) (hZ : KL a1) : pc (fX7_takeMacro_L34 N g x0 (a0, a1)) (fun _ d1 => KL d1) := by
  unfold fX7_takeMacro_L34
  refine pc_lp (fun a => KL a.2) ?_ N (a0, a1) hZ
  rintro K ⟨a0, a1⟩ hZ hK
  exact k_fX7_takeMacro_B34 N g x0 K a0 a1 hS hZ hK
theorem k_fX7_takeMacro (N : Nat) (g : Gs) (x0 : Nat) (d : Ds) (hS : Shp g) (hZ : KL d) : pc (fX7_takeMacro N g x0 d) (fun _ d1 => KL d1) := by
  unfold fX7_takeMacro
  refine pc_gd (fun c_1 => ?_)
  refine pc_gd (fun c_2 => ?_)
  refine pc_cb (k_fX7_takeNumber N g x0 (wfv 0 (100010 - 100000)) (wfv 1 (100010 - 100000)) d hS hZ) (fun u5 d3 z_3 => ?_)
  refine pc_if (fun _ => ?_) (fun _ => ?_)
  · exact pc_some z_3
  · refine pc_ob (fun r7 e_4 => ?_)
    refine pc_gd (fun c_5 => ?_)
    refine pc_cv (k_fX0_addMacro N g r7 (dI d3 x0 4) d3 hS z_3) (fun d9 z_6 => ?_)
    exact k_fX7_takeMacro_L34 N g x0 hS 1 d9 z_6
theorem k_fX7_takeSetting_J142 (N : Nat) (g : Gs) (x0 : Nat) (x1 : Option Nat) (d : Ds) (hS : Shp g) (hZ : KL d) : pc (fX7_takeSetting_J142 N g x0 x1 d) (fun _ d1 => KL d1) := by
  unfold fX7_takeSetting_J142
  exact pc_some hZ
theorem k_fX7_takeSetting (N : Nat) (g : Gs) (x0 : Nat) (x1 : Option Nat) (d : Ds) (hS : Shp g) (hZ : KL d) : pc (fX7_takeSetting N g x0 x1 d) (fun _ d1 => KL d1) := by
  unfold fX7_takeSetting
  refine pc_ob (fun r1 e_1 => ?_)
  refine pc_gd (fun c_2 => ?_)
  refine pc_gd (fun c_3 => ?_)
  refine pc_cb (k_fX7_takeNumber N g x0 (wfv 0 (r1 - 100000)) (wfv 1 (r1 - 100000)) d hS hZ) (fun u6 d4 z_4 => ?_)
  refine pc_if (fun _ => ?_) (fun _ => ?_)
  · exact pc_some z_4
  · refine pc_gd (fun c_5 => ?_)
    refine pc_gd (fun c_6 => ?_)
    refine pc_if (fun _ => ?_) (fun _ => ?_)
    · refine pc_ob (fun r36 e_7 => ?_)
      refine pc_gd (fun c_8 => ?_)
      refine pc_bd (fun d38 e_9 => ?_)
      have z_10 := KL.i z_4 e_9
      exact k_fX7_takeSetting_J142 N g x0 x1 d38 hS z_10
    · refine pc_gd (fun c_11 => ?_)
      refine pc_if (fun _ => ?_) (fun _ => ?_)
      · refine pc_ob (fun r33 e_12 => ?_)
        refine pc_gd (fun c_13 => ?_)
        refine pc_bd (fun d35 e_14 => ?_)
        have z_15 := KL.i z_4 e_14
        exact k_fX7_takeSetting_J142 N g x0 x1 d35 hS z_15
      · refine pc_gd (fun c_16 => ?_)
        refine pc_if (fun _ => ?_) (fun _ => ?_)
        · refine pc_ob (fun r30 e_17 => ?_)
          refine pc_gd (fun c_18 => ?_)
          refine pc_bd (fun d32 e_19 => ?_)
          have z_20 := KL.i z_4 e_19
          exact k_fX7_takeSetting_J142 N g x0 x1 d32 hS z_20
        · refine pc_gd (fun c_21 => ?_)
          refine pc_if (fun _ => ?_) (fun _ => ?_)
          · refine pc_ob (fun r27 e_22 => ?_)
            refine pc_gd (fun c_23 => ?_)
            refine pc_bd (fun d29 e_24 => ?_)
            have z_25 := KL.i z_4 e_24
            exact k_fX7_takeSetting_J142 N g x0 x1 d29 hS z_25
          · refine pc_gd (fun c_26 => ?_)
            refine pc_if (fun _ => ?_) (fun _ => ?_)
            · refine pc_ob (fun r19 e_27 => ?_)
              refine pc_gd (fun c_28 => ?_)
              refine pc_bd (fun d21 e_29 => ?_)
              have z_30 := KL.i z_4 e_29
              refine pc_cb (k_fX7_takeNumber N g x0 1 20 d21 hS z_30) (fun u24 d22 z_31 => ?_)
              refine pc_if (fun _ => ?_) (fun _ => ?_)
              · exact pc_some z_31
              · refine pc_bd (fun d26 e_32 => ?_)
                have z_33 := KL.i z_31 e_32
                exact k_fX7_takeSetting_J142 N g x0 x1 d26 hS z_33
            · exact k_fX7_takeSetting_J142 N g x0 x1 d4 hS z_4
theorem k_fX7_takeLine_J71 (N : Nat) (g : Gs) (x0 : Nat) (y1 : Option Nat) (d : Ds) (hS : Shp g) (hZ : KL d) : pc (fX7_takeLine_J71 N g x0 y1 d) (fun _ d1 => KL d1) := by
  unfold fX7_takeLine_J71
  refine pc_gd (fun c_1 => ?_)
  refine pc_cb (k_fX7_takeToken N g x0 1 d hS hZ) (fun u25 d23 z_2 => ?_)
  refine pc_if (fun _ => ?_) (fun _ => ?_)
  · exact pc_some z_2
  · refine pc_gd (fun c_3 => ?_)
    refine pc_gd (fun c_4 => ?_)
    refine pc_if (fun _ => ?_) (fun _ => ?_)
    · refine pc_ob (fun r60 e_5 => ?_)
      refine pc_gd (fun c_6 => ?_)
      refine pc_bd (fun d62 e_7 => ?_)
      have z_8 := KL.i z_2 e_7
      exact k_fX7_takeLine_J170 N g x0 1 d62 hS z_8
    · refine pc_gd (fun c_9 => ?_)
      refine pc_if (fun _ => ?_) (fun _ => ?_)
      · refine pc_ob (fun r57 e_10 => ?_)
        refine pc_gd (fun c_11 => ?_)
        refine pc_bd (fun d59 e_12 => ?_)
        have z_13 := KL.i z_2 e_12
        exact k_fX7_takeLine_J170 N g x0 1 d59 hS z_13
      · refine pc_gd (fun c_14 => ?_)
        refine pc_if (fun _ => ?_) (fun _ => ?_)
        · refine pc_cb (k_fX7_takeKey N g x0 d23 hS z_2) (fun u56 d54 z_15 => ?_)
          exact k_fX7_takeLine_J170 N g x0 u56 d54 hS z_15
        · refine pc_gd (fun c_16 => ?_)
          refine pc_if (fun _ => ?_) (fun _ => ?_)
          · refine pc_cb (k_fX7_takeChord N g x0 d23 hS z_2) (fun u53 d51 z_17 => ?_)
            exact k_fX7_takeLine_J170 N g x0 u53 d51 hS z_17
          · refine pc_gd (fun c_18 => ?_)
            refine pc_if (fun _ => ?_) (fun _ => ?_)
            · refine pc_cb (k_fX7_takeMacro N g x0 d23 hS z_2) (fun u50 d48 z_19 => ?_)
              exact k_fX7_takeLine_J170 N g x0 u50 d48 hS z_19
            · refine pc_cb (k_fX7_takeSetting N g x0 y1 d23 hS z_2) (fun u40 d38 z_20 => ?_)
              exact k_fX7_takeLine_J170 N g x0 u40 d38 hS z_20
theorem k_fX7_takeLine_J47 (N : Nat) (g : Gs) (x0 : Nat) (y1 : Option Nat) (d : Ds) (hS : Shp g) (hZ : KL d) : pc (fX7_takeLine_J47 N g x0 y1 d) (fun _ d1 => KL d1) := by
  unfold fX7_takeLine_J47
  refine pc_gd (fun c_1 => ?_)
  refine pc_gd (fun c_2 => ?_)
  refine pc_if (fun _ => ?_) (fun _ => ?_)
  · refine pc_gd (fun c_3 => ?_)
    refine pc_ob (fun r64 e_4 => ?_)
    refine pc_gd (fun c_5 => ?_)
    refine pc_if (fun _ => ?_) (fun _ => ?_)
    · exact k_fX7_takeLine_J65 N g x0 d hS hZ
    · exact k_fX7_takeLine_J71 N g x0 y1 d hS hZ
  · exact k_fX7_takeLine_J71 N g x0 y1 d hS hZ
theorem k_fX7_takeLine (N : Nat) (g : Gs) (x0 : Nat) (d : Ds) (hS : Shp g) (hZ : KL d) : pc (fX7_takeLine N g x0 d) (fun _ d1 => KL d1) := by
  unfold fX7_takeLine
  refine pc_gd (fun c_1 => ?_)
  refine pc_ob (fun r2 e_2 => ?_)
  refine pc_gd (fun c_3 => ?_)
  refine pc_cb (k_fX8_wordAt N g r2 (dI d x0 3) d hS hZ) (fun u6 d4 z_4 => ?_)
  refine pc_if (fun _ => ?_) (fun _ => ?_)
  · exact k_fX7_takeLine_J23 N g x0 d4 hS z_4
  · refine pc_ob (fun r13 e_5 => ?_)
    refine pc_gd (fun c_6 => ?_)
    refine pc_if (fun _ => ?_) (fun _ => ?_)
    · exact k_fX7_takeLine_J23 N g x0 d4 hS z_4
    · refine pc_gd (fun c_7 => ?_)
      refine pc_gd (fun c_8 => ?_)
      refine pc_if (fun _ => ?_) (fun _ => ?_)
      · refine pc_ob (fun r72 e_9 => ?_)
        refine pc_gd (fun c_10 => ?_)
        refine pc_if (fun _ => ?_) (fun _ => ?_)
        · exact k_fX7_takeLine_J65 N g x0 d4 hS z_4
        · exact k_fX7_takeLine_J47 N g x0 u6 d4 hS z_4
      · exact k_fX7_takeLine_J47 N g x0 u6 d4 hS z_4
theorem k_fX7_readTape_B39 (N : Nat) (g : Gs) (x0 : Nat) (x1 : Nat) (x2 : Int32) (K39 : Int32 × Int32 × Ds → Option (Int32 × Ds)) (y3 : Int32) (y4 : Int32) (d : Ds) (hS : Shp g) (hZ : KL d) (hK39 : ∀ a, KL a.2.2 → pc (K39 a) (fun _ d1 => KL d1)) : pc (fX7_readTape_B39 N g x0 x1 x2 K39 y3 y4 d) (fun _ d1 => KL d1) := by
  unfold fX7_readTape_B39
  refine pc_if (fun _ => ?_) (fun _ => ?_)
  · exact k_fX7_readTape_J76 N g x0 x1 x2 d hS hZ
  · refine pc_if (fun _ => ?_) (fun _ => ?_)
    · exact k_fX7_readTape_J76 N g x0 x1 x2 d hS hZ
    · refine pc_gd (fun c_1 => ?_)
      refine pc_ob (fun r33 e_2 => ?_)
      refine pc_gd (fun c_3 => ?_)
      refine pc_cb (k_fX8_kindAt N g r33 (dI d x0 3) d hS hZ) (fun u37 d35 z_4 => ?_)
      refine pc_if (fun _ => ?_) (fun _ => ?_)
      · exact k_fX7_readTape_J76 N g x0 x1 x2 d35 hS z_4
      · refine pc_cb (k_fX7_takeLine N g x0 d35 hS z_4) (fun u41 d39 z_5 => ?_)
        refine pc_bd (fun u42 e_6 => ?_)
        exact hK39 _ z_5
theorem k_fX7_readTape_L39 (N : Nat) (g : Gs) (x0 : Nat) (x1 : Nat) (x2 : Int32) (hS : Shp g) (a0 : Int32) (a1 : Int32) (a2 : Ds) (hZ : KL a2) : pc (fX7_readTape_L39 N g x0 x1 x2 (a0, a1, a2)) (fun _ d1 => KL d1) := by
  unfold fX7_readTape_L39
  refine pc_lp (fun a => KL a.2.2) ?_ N (a0, a1, a2) hZ
  rintro K ⟨a0, a1, a2⟩ hZ hK
  exact k_fX7_readTape_B39 N g x0 x1 x2 K a0 a1 a2 hS hZ hK
theorem k_fX7_readTape (N : Nat) (g : Gs) (x0 : Nat) (x1 : Nat) (x2 : Int32) (d : Ds) (hS : Shp g) (hZ : KL d) : pc (fX7_readTape N g x0 x1 x2 d) (fun _ d1 => KL d1) := by
  unfold fX7_readTape
  refine pc_gd (fun c_1 => ?_)
  refine pc_ob (fun r2 e_2 => ?_)
  refine pc_gd (fun c_3 => ?_)
  refine pc_cv (k_fX8_cut N g r2 x1 x2 d hS hZ) (fun d4 z_4 => ?_)
  refine pc_ob (fun r6 e_5 => ?_)
  refine pc_gd (fun c_6 => ?_)
  refine pc_cv (k_fX0_clear N g r6 d4 hS z_4) (fun d8 z_7 => ?_)
  refine pc_bd (fun d10 e_8 => ?_)
  have z_9 := KL.i z_7 e_8
  refine pc_bd (fun d11 e_10 => ?_)
  have z_11 := KL.i z_9 e_10
  refine pc_bd (fun d12 e_12 => ?_)
  have z_13 := KL.i z_11 e_12
  refine pc_cb (k_fX7_takeBoard N g x0 d12 hS z_13) (fun u15 d13 z_14 => ?_)
  exact k_fX7_readTape_L39 N g x0 x1 x2 hS u15 0 d13 z_14
theorem k_fX0_copyFrom_B122 (N : Nat) (g : Gs) (x0 : Nat) (x1 : Nat) (K122 : Int32 × Ds → Option (Unit × Ds)) (y2 : Int32) (d : Ds) (hS : Shp g) (hZ : KL d) (hK122 : ∀ a, KL a.2 → pc (K122 a) (fun _ d1 => KL d1)) : pc (fX0_copyFrom_B122 N g x0 x1 K122 y2 d) (fun _ d1 => KL d1) := by
  unfold fX0_copyFrom_B122
  refine pc_if (fun _ => ?_) (fun _ => ?_)
  · refine pc_gd (fun c_1 => ?_)
    refine pc_gd (fun c_2 => ?_)
    refine pc_bd (fun d24 e_3 => ?_)
    have z_4 := KL.i hZ e_3
    refine pc_ob (fun r25 e_5 => ?_)
    refine pc_ob (fun r26 e_6 => ?_)
    refine pc_gd (fun c_7 => ?_)
    refine pc_gd (fun c_8 => ?_)
    refine pc_gd (fun c_9 => ?_)
    refine pc_gd (fun c_10 => ?_)
    refine pc_gd (fun c_11 => ?_)
    refine pc_gd (fun c_12 => ?_)
    refine pc_bd (fun d33 e_13 => ?_)
    have z_14 := KL.ci z_4 e_13
    refine pc_ob (fun r34 e_15 => ?_)
    refine pc_ob (fun r35 e_16 => ?_)
    refine pc_gd (fun c_17 => ?_)
    refine pc_gd (fun c_18 => ?_)
    refine pc_gd (fun c_19 => ?_)
    refine pc_gd (fun c_20 => ?_)
    refine pc_gd (fun c_21 => ?_)
    refine pc_bd (fun d41 e_22 => ?_)
    have z_23 := KL.ci z_14 e_22
    exact pc_some z_23
  · refine pc_gd (fun c_24 => ?_)
    refine pc_ob (fun r43 e_25 => ?_)
    refine pc_gd (fun c_26 => ?_)
    refine pc_ob (fun r45 e_27 => ?_)
    refine pc_gd (fun c_28 => ?_)
    refine pc_gd (fun c_29 => ?_)
    refine pc_gd (fun c_30 => ?_)
    refine pc_gd (fun c_31 => ?_)
    refine pc_bd (fun d50 e_32 => ?_)
    have z_33 := KL.i hZ e_32
    refine pc_ob (fun r51 e_34 => ?_)
    refine pc_ob (fun r52 e_35 => ?_)
    refine pc_gd (fun c_36 => ?_)
    refine pc_gd (fun c_37 => ?_)
    refine pc_gd (fun c_38 => ?_)
    refine pc_gd (fun c_39 => ?_)
    refine pc_bd (fun d57 e_40 => ?_)
    have z_41 := KL.i z_33 e_40
    refine pc_ob (fun r58 e_42 => ?_)
    refine pc_gd (fun c_43 => ?_)
    refine pc_gd (fun c_44 => ?_)
    refine pc_ob (fun r61 e_45 => ?_)
    refine pc_ob (fun r62 e_46 => ?_)
    refine pc_gd (fun c_47 => ?_)
    refine pc_gd (fun c_48 => ?_)
    refine pc_ob (fun r65 e_49 => ?_)
    refine pc_gd (fun c_50 => ?_)
    refine pc_cv (k_fX2_copyFrom N g r61 r65 d57 hS z_41) (fun d67 z_51 => ?_)
    refine pc_bd (fun u69 e_52 => ?_)
    exact hK122 _ z_51
theorem k_fX0_copyFrom_L122 (N : Nat) (g : Gs) (x0 : Nat) (x1 : Nat) (hS : Shp g) (a0 : Int32) (a1 : Ds) (hZ : KL a1) : pc (fX0_copyFrom_L122 N g x0 x1 (a0, a1)) (fun _ d1 => KL d1) := by
  unfold fX0_copyFrom_L122
  refine pc_lp (fun a => KL a.2) ?_ N (a0, a1) hZ
  rintro K ⟨a0, a1⟩ hZ hK
  exact k_fX0_copyFrom_B122 N g x0 x1 K a0 a1 hS hZ hK
theorem k_fX0_copyFrom_B82 (N : Nat) (g : Gs) (x0 : Nat) (x1 : Nat) (K82 : Int32 × Ds → Option (Unit × Ds)) (y2 : Int32) (d : Ds) (hS : Shp g) (hZ : KL d) (hK82 : ∀ a, KL a.2 → pc (K82 a) (fun _ d1 => KL d1)) : pc (fX0_copyFrom_B82 N g x0 x1 K82 y2 d) (fun _ d1 => KL d1) := by
  unfold fX0_copyFrom_B82
  refine pc_gd (fun c_1 => ?_)
  refine pc_ob (fun r16 e_2 => ?_)
  refine pc_gd (fun c_3 => ?_)
  refine pc_if (fun _ => ?_) (fun _ => ?_)
  · refine pc_gd (fun c_4 => ?_)
    refine pc_bd (fun d20 e_5 => ?_)
    have z_6 := KL.i hZ e_5
    exact k_fX0_copyFrom_L122 N g x0 x1 hS 0 d20 z_6
  · refine pc_gd (fun c_7 => ?_)
    refine pc_ob (fun r71 e_8 => ?_)
    refine pc_gd (fun c_9 => ?_)
    refine pc_ob (fun r73 e_10 => ?_)
    refine pc_gd (fun c_11 => ?_)
    refine pc_gd (fun c_12 => ?_)
    refine pc_ob (fun r76 e_13 => ?_)
    refine pc_gd (fun c_14 => ?_)
    refine pc_cv (k_fX2_copyFrom N g r71 r76 d hS hZ) (fun d78 z_15 => ?_)
    refine pc_bd (fun u80 e_16 => ?_)
    exact hK82 _ z_15
theorem k_fX0_copyFrom_L82 (N : Nat) (g : Gs) (x0 : Nat) (x1 : Nat) (hS : Shp g) (a0 : Int32) (a1 : Ds) (hZ : KL a1) : pc (fX0_copyFrom_L82 N g x0 x1 (a0, a1)) (fun _ d1 => KL d1) := by
  unfold fX0_copyFrom_L82
  refine pc_lp (fun a => KL a.2) ?_ N (a0, a1) hZ
  rintro K ⟨a0, a1⟩ hZ hK
  exact k_fX0_copyFrom_B82 N g x0 x1 K a0 a1 hS hZ hK
theorem k_fX0_copyFrom (N : Nat) (g : Gs) (x0 : Nat) (x1 : Nat) (d : Ds) (hS : Shp g) (hZ : KL d) : pc (fX0_copyFrom N g x0 x1 d) (fun _ d1 => KL d1) := by
  unfold fX0_copyFrom
  refine pc_gd (fun c_1 => ?_)
  refine pc_gd (fun c_2 => ?_)
  refine pc_bd (fun d3 e_3 => ?_)
  have z_4 := KL.i hZ e_3
  refine pc_bd (fun d4 e_5 => ?_)
  have z_6 := KL.i z_4 e_5
  refine pc_gd (fun c_7 => ?_)
  refine pc_bd (fun d6 e_8 => ?_)
  have z_9 := KL.i z_6 e_8
  refine pc_gd (fun c_10 => ?_)
  refine pc_bd (fun d8 e_11 => ?_)
  have z_12 := KL.i z_9 e_11
  refine pc_bd (fun d9 e_13 => ?_)
  have z_14 := KL.i z_12 e_13
  refine pc_bd (fun d10 e_15 => ?_)
  have z_16 := KL.i z_14 e_15
  refine pc_bd (fun d11 e_17 => ?_)
  have z_18 := KL.i z_16 e_17
  refine pc_bd (fun d12 e_19 => ?_)
  have z_20 := KL.i z_18 e_19
  refine pc_bd (fun d13 e_21 => ?_)
  have z_22 := KL.i z_20 e_21
  refine pc_bd (fun d14 e_23 => ?_)
  have z_24 := KL.i z_22 e_23
  exact k_fX0_copyFrom_L82 N g x0 x1 hS 0 d14 z_24
theorem k_fX6_clear_B22 (N : Nat) (g : Gs) (x0 : Nat) (K22 : Int32 × Ds → Option (Unit × Ds)) (y1 : Int32) (d : Ds) (hS : Shp g) (hZ : KL d) (hK22 : ∀ a, KL a.2 → pc (K22 a) (fun _ d1 => KL d1)) : pc (fX6_clear_B22 N g x0 K22 y1 d) (fun _ d1 => KL d1) := by
  unfold fX6_clear_B22
  refine pc_if (fun _ => ?_) (fun _ => ?_)
  · exact pc_some hZ
  · refine pc_gd (fun c_1 => ?_)
    refine pc_ob (fun r8 e_2 => ?_)
    refine pc_gd (fun c_3 => ?_)
    refine pc_gd (fun c_4 => ?_)
    refine pc_bd (fun d11 e_5 => ?_)
    have z_6 := KL.i hZ e_5
    refine pc_ob (fun r12 e_7 => ?_)
    refine pc_gd (fun c_8 => ?_)
    refine pc_gd (fun c_9 => ?_)
    refine pc_bd (fun d15 e_10 => ?_)
    have z_11 := KL.f z_6 e_10
    refine pc_ob (fun r16 e_12 => ?_)
    refine pc_gd (fun c_13 => ?_)
    refine pc_gd (fun c_14 => ?_)
    refine pc_bd (fun d19 e_15 => ?_)
    have z_16 := KL.i z_11 e_15
    refine pc_ob (fun r20 e_17 => ?_)
    refine pc_gd (fun c_18 => ?_)
    refine pc_gd (fun c_19 => ?_)
    refine pc_bd (fun d23 e_20 => ?_)
    have z_21 := KL.i z_16 e_20
    refine pc_ob (fun r24 e_22 => ?_)
    refine pc_gd (fun c_23 => ?_)
    refine pc_gd (fun c_24 => ?_)
    refine pc_bd (fun d27 e_25 => ?_)
    have z_26 := KL.i z_21 e_25
    refine pc_bd (fun u28 e_27 => ?_)
    exact hK22 _ z_26
theorem k_fX6_clear_L22 (N : Nat) (g : Gs) (x0 : Nat) (hS : Shp g) (a0 : Int32) (a1 : Ds) (hZ : KL a1) : pc (fX6_clear_L22 N g x0 (a0, a1)) (fun _ d1 => KL d1) := by
  unfold fX6_clear_L22
  refine pc_lp (fun a => KL a.2) ?_ N (a0, a1) hZ
  rintro K ⟨a0, a1⟩ hZ hK
  exact k_fX6_clear_B22 N g x0 K a0 a1 hS hZ hK
theorem k_fX6_clear (N : Nat) (g : Gs) (x0 : Nat) (d : Ds) (hS : Shp g) (hZ : KL d) : pc (fX6_clear N g x0 d) (fun _ d1 => KL d1) := by
  unfold fX6_clear
  refine pc_gd (fun c_1 => ?_)
  refine pc_bd (fun d2 e_2 => ?_)
  have z_3 := KL.i hZ e_2
  refine pc_bd (fun d3 e_4 => ?_)
  have z_5 := KL.i z_3 e_4
  refine pc_bd (fun d4 e_6 => ?_)
  have z_7 := KL.i z_5 e_6
  refine pc_bd (fun d5 e_8 => ?_)
  have z_9 := KL.i z_7 e_8
  exact k_fX6_clear_L22 N g x0 hS 0 d5 z_9
theorem k_fX4_clear (N : Nat) (g : Gs) (x0 : Nat) (d : Ds) (hS : Shp g) (hZ : KL d) : pc (fX4_clear N g x0 d) (fun _ d1 => KL d1) := by
  unfold fX4_clear
  refine pc_gd (fun c_1 => ?_)
  refine pc_bd (fun d2 e_2 => ?_)
  have z_3 := KL.i hZ e_2
  refine pc_bd (fun d3 e_4 => ?_)
  have z_5 := KL.i z_3 e_4
  exact pc_some z_5
theorem k_fX3_clear_B2 (N : Nat) (g : Gs) (x0 : Nat) (K2 : Int32 × Ds → Option (Unit × Ds)) (y1 : Int32) (d : Ds) (hS : Shp g) (hZ : KL d) (hK2 : ∀ a, KL a.2 → pc (K2 a) (fun _ d1 => KL d1)) : pc (fX3_clear_B2 N g x0 K2 y1 d) (fun _ d1 => KL d1) := by
  unfold fX3_clear_B2
  refine pc_if (fun _ => ?_) (fun _ => ?_)
  · refine pc_gd (fun c_1 => ?_)
    refine pc_bd (fun d3 e_2 => ?_)
    have z_3 := KL.i hZ e_2
    refine pc_bd (fun d4 e_4 => ?_)
    have z_5 := KL.i z_3 e_4
    exact pc_some z_5
  · refine pc_gd (fun c_6 => ?_)
    refine pc_ob (fun r6 e_7 => ?_)
    refine pc_gd (fun c_8 => ?_)
    refine pc_gd (fun c_9 => ?_)
    refine pc_bd (fun d9 e_10 => ?_)
    have z_11 := KL.i hZ e_10
    refine pc_ob (fun r10 e_12 => ?_)
    refine pc_gd (fun c_13 => ?_)
    refine pc_gd (fun c_14 => ?_)
    refine pc_bd (fun d13 e_15 => ?_)
    have z_16 := KL.i z_11 e_15
    refine pc_ob (fun r14 e_17 => ?_)
    refine pc_gd (fun c_18 => ?_)
    refine pc_gd (fun c_19 => ?_)
    refine pc_bd (fun d17 e_20 => ?_)
    have z_21 := KL.i z_16 e_20
    refine pc_bd (fun u18 e_22 => ?_)
    exact hK2 _ z_21
theorem k_fX3_clear_L2 (N : Nat) (g : Gs) (x0 : Nat) (hS : Shp g) (a0 : Int32) (a1 : Ds) (hZ : KL a1) : pc (fX3_clear_L2 N g x0 (a0, a1)) (fun _ d1 => KL d1) := by
  unfold fX3_clear_L2
  refine pc_lp (fun a => KL a.2) ?_ N (a0, a1) hZ
  rintro K ⟨a0, a1⟩ hZ hK
  exact k_fX3_clear_B2 N g x0 K a0 a1 hS hZ hK
theorem k_fX3_clear (N : Nat) (g : Gs) (x0 : Nat) (d : Ds) (hS : Shp g) (hZ : KL d) : pc (fX3_clear N g x0 d) (fun _ d1 => KL d1) := by
  unfold fX3_clear
  exact k_fX3_clear_L2 N g x0 hS 0 d hZ
theorem k_fX5_makeLatest_J21 (N : Nat) (g : Gs) (x0 : Nat) (x1 : Int32) (x2 : Int32) (z0 : Int32) (z1 : Nat) (d : Ds) (hS : Shp g) (hZ : KL d) : pc (fX5_makeLatest_J21 N g x0 x1 x2 z0 z1 d) (fun _ d1 => KL d1) := by
  unfold fX5_makeLatest_J21
  refine pc_gd (fun c_1 => ?_)
  refine pc_bd (fun d6 e_2 => ?_)
  have z_3 := KL.i hZ e_2
  exact pc_some z_3
theorem k_fX5_makeLatest (N : Nat) (g : Gs) (x0 : Nat) (x1 : Int32) (x2 : Int32) (d : Ds) (hS : Shp g) (hZ : KL d) : pc (fX5_makeLatest N g x0 x1 x2 d) (fun _ d1 => KL d1) := by
  unfold fX5_makeLatest
  refine pc_gd (fun c_1 => ?_)
  refine pc_bd (fun d2 e_2 => ?_)
  have z_3 := KL.i hZ e_2
  refine pc_bd (fun d3 e_4 => ?_)
  have z_5 := KL.i z_3 e_4
  refine pc_if (fun _ => ?_) (fun _ => ?_)
  · exact k_fX5_makeLatest_J21 N g x0 x1 x2 (-1) x0 d3 hS z_5
  · exact k_fX5_makeLatest_J21 N g x0 x1 x2 0 x0 d3 hS z_5
theorem k_fX5_clear (N : Nat) (g : Gs) (x0 : Nat) (d : Ds) (hS : Shp g) (hZ : KL d) : pc (fX5_clear N g x0 d) (fun _ d1 => KL d1) := by
  unfold fX5_clear
  refine pc_gd (fun c_1 => ?_)
  refine pc_bd (fun d2 e_2 => ?_)
  have z_3 := KL.i hZ e_2
  refine pc_bd (fun d3 e_4 => ?_)
  have z_5 := KL.i z_3 e_4
  refine pc_cv (k_fX5_makeLatest N g x0 (-1) (-1) d3 hS z_5) (fun d4 z_6 => ?_)
  exact pc_some z_6
theorem k_fX1_clear (N : Nat) (g : Gs) (x0 : Nat) (d : Ds) (hS : Shp g) (hZ : KL d) : pc (fX1_clear N g x0 d) (fun _ d1 => KL d1) := by
  unfold fX1_clear
  refine pc_gd (fun c_1 => ?_)
  refine pc_bd (fun d2 e_2 => ?_)
  have z_3 := KL.i hZ e_2
  refine pc_ob (fun r3 e_4 => ?_)
  refine pc_gd (fun c_5 => ?_)
  refine pc_cv (k_fX6_clear N g r3 d2 hS z_3) (fun d5 z_6 => ?_)
  refine pc_ob (fun r7 e_7 => ?_)
  refine pc_gd (fun c_8 => ?_)
  refine pc_cv (k_fX4_clear N g r7 d5 hS z_6) (fun d9 z_9 => ?_)
  refine pc_ob (fun r11 e_10 => ?_)
  refine pc_gd (fun c_11 => ?_)
  refine pc_cv (k_fX3_clear N g r11 d9 hS z_9) (fun d13 z_12 => ?_)
  refine pc_ob (fun r15 e_13 => ?_)
  refine pc_gd (fun c_14 => ?_)
  refine pc_cv (k_fX5_clear N g r15 d13 hS z_12) (fun d17 z_15 => ?_)
  exact pc_some z_15
theorem k_fX11_read_J62 (N : Nat) (g : Gs) (x0 : Nat) (y1 : Int32) (d : Ds) (hS : Shp g) (hZ : KL d) : pc (fX11_read_J62 N g x0 y1 d) (fun _ d1 => KL d1) := by
  unfold fX11_read_J62
  exact pc_some hZ
theorem k_fX11_read (N : Nat) (g : Gs) (x0 : Nat) (d : Ds) (hS : Shp g) (hZ : KL d) : pc (fX11_read N g x0 d) (fun _ d1 => KL d1) := by
  unfold fX11_read
  refine pc_gd (fun c_1 => ?_)
  refine pc_ob (fun r2 e_2 => ?_)
  refine pc_ob (fun r3 e_3 => ?_)
  refine pc_gd (fun c_4 => ?_)
  refine pc_cb (k_fX7_readTape N g r2 r3 (dI d x0 1) d hS hZ) (fun u7 d5 z_5 => ?_)
  refine pc_bd (fun d8 e_6 => ?_)
  have z_7 := KL.i z_5 e_6
  refine pc_bd (fun d9 e_8 => ?_)
  have z_9 := KL.i z_7 e_8
  refine pc_if (fun _ => ?_) (fun _ => ?_)
  · refine pc_ob (fun r11 e_10 => ?_)
    refine pc_ob (fun r12 e_11 => ?_)
    refine pc_gd (fun c_12 => ?_)
    refine pc_cv (k_fX0_copyFrom N g r11 r12 d9 hS z_9) (fun d14 z_13 => ?_)
    refine pc_ob (fun r16 e_14 => ?_)
    refine pc_gd (fun c_15 => ?_)
    refine pc_cv (k_fX1_clear N g r16 d14 hS z_13) (fun d18 z_16 => ?_)
    refine pc_bd (fun d20 e_17 => ?_)
    have z_18 := KL.i z_16 e_17
    exact k_fX11_read_J62 N g x0 u7 d20 hS z_18
  · exact k_fX11_read_J62 N g x0 u7 d9 hS z_9
theorem k_fX11_place (N : Nat) (g : Gs) (x0 : Nat) (d : Ds) (hS : Shp g) (hZ : KL d) : pc (fX11_place N g x0 d) (fun _ d1 => KL d1) := by
  unfold fX11_place
  refine pc_gd (fun c_1 => ?_)
  exact pc_some hZ
theorem k_fX0_hasKey_J17 (N : Nat) (g : Gs) (x0 : Nat) (x1 : Int32) (z0 : Int32) (d : Ds) (hS : Shp g) (hZ : KL d) : pc (fX0_hasKey_J17 N g x0 x1 z0 d) (fun _ d1 => KL d1) := by
  unfold fX0_hasKey_J17
  refine pc_gd (fun c_1 => ?_)
  exact pc_some hZ
theorem k_fX0_hasKey_J16 (N : Nat) (g : Gs) (x0 : Nat) (x1 : Int32) (d : Ds) (hS : Shp g) (hZ : KL d) : pc (fX0_hasKey_J16 N g x0 x1 d) (fun _ d1 => KL d1) := by
  unfold fX0_hasKey_J16
  exact k_fX0_hasKey_J17 N g x0 x1 0 d hS hZ
theorem k_fX0_hasKey (N : Nat) (g : Gs) (x0 : Nat) (x1 : Int32) (d : Ds) (hS : Shp g) (hZ : KL d) : pc (fX0_hasKey N g x0 x1 d) (fun _ d1 => KL d1) := by
  unfold fX0_hasKey
  refine pc_if (fun _ => ?_) (fun _ => ?_)
  · exact k_fX0_hasKey_J16 N g x0 x1 d hS hZ
  · refine pc_gd (fun c_1 => ?_)
    refine pc_cb (k_fX0_keys N g x0 d hS hZ) (fun u6 d4 z_2 => ?_)
    refine pc_if (fun _ => ?_) (fun _ => ?_)
    · exact k_fX0_hasKey_J16 N g x0 x1 d4 hS z_2
    · exact k_fX0_hasKey_J17 N g x0 x1 1 d4 hS z_2
theorem k_fX11_press_J31 (N : Nat) (g : Gs) (x0 : Nat) (x1 : Int32) (x2 : Int32) (d : Ds) (hS : Shp g) (hZ : KL d) : pc (fX11_press_J31 N g x0 x1 x2 d) (fun _ d1 => KL d1) := by
  unfold fX11_press_J31
  exact pc_some hZ
theorem k_fX11_isIn_J13 (N : Nat) (g : Gs) (x0 : Int32) (x1 : Int32) (z0 : Int32) (d : Ds) (hS : Shp g) (hZ : KL d) : pc (fX11_isIn_J13 N g x0 x1 z0 d) (fun _ d1 => KL d1) := by
  unfold fX11_isIn_J13
  refine pc_gd (fun c_1 => ?_)
  exact pc_some hZ
theorem k_fX11_isIn (N : Nat) (g : Gs) (x0 : Int32) (x1 : Int32) (d : Ds) (hS : Shp g) (hZ : KL d) : pc (fX11_isIn N g x0 x1 d) (fun _ d1 => KL d1) := by
  unfold fX11_isIn
  refine pc_if (fun _ => ?_) (fun _ => ?_)
  · exact k_fX11_isIn_J13 N g x0 x1 0 d hS hZ
  · exact k_fX11_isIn_J13 N g x0 x1 1 d hS hZ
theorem k_fX9_join_J152 (N : Nat) (g : Gs) (x0 : Nat) (x1 : Nat) (x2 : Int32) (d : Ds) (hS : Shp g) (hZ : KL d) : pc (fX9_join_J152 N g x0 x1 x2 d) (fun _ d1 => KL d1) := by
  unfold fX9_join_J152
  exact pc_some hZ
theorem k_fX9_join_J146 (N : Nat) (g : Gs) (x0 : Nat) (x1 : Nat) (x2 : Int32) (K39 : Int32 × Ds → Option (Unit × Ds)) (y3 : Int32) (d : Ds) (hS : Shp g) (hZ : KL d) (hK39 : ∀ a, KL a.2 → pc (K39 a) (fun _ d1 => KL d1)) : pc (fX9_join_J146 N g x0 x1 x2 K39 y3 d) (fun _ d1 => KL d1) := by
  unfold fX9_join_J146
  refine pc_bd (fun u25 e_1 => ?_)
  exact hK39 _ hZ
theorem k_fX9_join_J140 (N : Nat) (g : Gs) (x0 : Nat) (x1 : Nat) (x2 : Int32) (K39 : Int32 × Ds → Option (Unit × Ds)) (K109 : Int32 × Int32 × Int32 × Int32 × Ds → Option (Unit × Ds)) (y3 : Int32) (y4 : Int32) (y5 : Int32) (y6 : Int32) (d : Ds) (hS : Shp g) (hZ : KL d) (hK39 : ∀ a, KL a.2 → pc (K39 a) (fun _ d1 => KL d1)) (hK109 : ∀ a, KL a.2.2.2.2 → pc (K109 a) (fun _ d1 => KL d1)) : pc (fX9_join_J140 N g x0 x1 x2 K39 K109 y3 y4 y5 y6 d) (fun _ d1 => KL d1) := by
  unfold fX9_join_J140
  refine pc_bd (fun u34 e_1 => ?_)
  exact hK109 _ hZ
theorem k_fX9_join_B109 (N : Nat) (g : Gs) (x0 : Nat) (x1 : Nat) (x2 : Int32) (K39 : Int32 × Ds → Option (Unit × Ds)) (K109 : Int32 × Int32 × Int32 × Int32 × Ds → Option (Unit × Ds)) (y3 : Int32) (y4 : Int32) (y5 : Int32) (y6 : Int32) (d : Ds) (hS : Shp g) (hZ : KL d) (hK39 : ∀ a, KL a.2 → pc (K39 a) (fun _ d1 => KL d1)) (hK109 : ∀ a, KL a.2.2.2.2 → pc (K109 a) (fun _ d1 => KL d1)) : pc (fX9_join_B109 N g x0 x1 x2 K39 K109 y3 y4 y5 y6 d) (fun _ d1 => KL d1) := by
  unfold fX9_join_B109
  refine pc_gd (fun c_1 => ?_)
  refine pc_ob (fun r29 e_2 => ?_)
  refine pc_gd (fun c_3 => ?_)
  refine pc_if (fun _ => ?_) (fun _ => ?_)
  · exact k_fX9_join_J146 N g x0 x1 x2 K39 y3 d hS hZ hK39
  · refine pc_gd (fun c_4 => ?_)
    refine pc_if (fun _ => ?_) (fun _ => ?_)
    · refine pc_bd (fun d35 e_5 => ?_)
      have z_6 := KL.i hZ e_5
      exact k_fX9_join_J140 N g x0 x1 x2 K39 K109 y3 y4 y5 y6 d35 hS z_6 hK39 hK109
    · exact k_fX9_join_J140 N g x0 x1 x2 K39 K109 y3 y4 y5 y6 d hS hZ hK39 hK109
theorem k_fX9_join_L109 (N : Nat) (g : Gs) (x0 : Nat) (x1 : Nat) (x2 : Int32) (K39 : Int32 × Ds → Option (Unit × Ds)) (hS : Shp g) (a0 : Int32) (a1 : Int32) (a2 : Int32) (a3 : Int32) (a4 : Ds) (hZ : KL a4) (hK39 : ∀ a, KL a.2 → pc (K39 a) (fun _ d1 => KL d1)) : pc (fX9_join_L109 N g x0 x1 x2 K39 (a0, a1, a2, a3, a4)) (fun _ d1 => KL d1) := by
  unfold fX9_join_L109
  refine pc_lp (fun a => KL a.2.2.2.2) ?_ N (a0, a1, a2, a3, a4) hZ
  rintro K ⟨a0, a1, a2, a3, a4⟩ hZ hK
  exact k_fX9_join_B109 N g x0 x1 x2 K39 K a0 a1 a2 a3 a4 hS hZ hK39 hK
theorem k_fX9_join_B39 (N : Nat) (g : Gs) (x0 : Nat) (x1 : Nat) (x2 : Int32) (K39 : Int32 × Ds → Option (Unit × Ds)) (y3 : Int32) (d : Ds) (hS : Shp g) (hZ : KL d) (hK39 : ∀ a, KL a.2 → pc (K39 a) (fun _ d1 => KL d1)) : pc (fX9_join_B39 N g x0 x1 x2 K39 y3 d) (fun _ d1 => KL d1) := by
  unfold fX9_join_B39
  refine pc_gd (fun c_1 => ?_)
  refine pc_cb (k_fX0_hasKey N g x1 y3 d hS hZ) (fun u10 d8 z_2 => ?_)
  refine pc_if (fun _ => ?_) (fun _ => ?_)
  · exact k_fX9_join_J152 N g x0 x1 x2 d8 hS z_2
  · refine pc_if (fun _ => ?_) (fun _ => ?_)
    · exact k_fX9_join_J152 N g x0 x1 x2 d8 hS z_2
    · refine pc_gd (fun c_3 => ?_)
      refine pc_ob (fun r14 e_4 => ?_)
      refine pc_gd (fun c_5 => ?_)
      refine pc_gd (fun c_6 => ?_)
      refine pc_gd (fun c_7 => ?_)
      refine pc_bd (fun u18 e_8 => ?_)
      refine pc_gd (fun c_9 => ?_)
      refine pc_bd (fun u20 e_10 => ?_)
      refine pc_cb (k_fX11_isIn N g x2 y3 d8 hS z_2) (fun u23 d21 z_11 => ?_)
      refine pc_if (fun _ => ?_) (fun _ => ?_)
      · exact k_fX9_join_J146 N g x0 x1 x2 K39 y3 d21 hS z_11 hK39
      · refine pc_if (fun _ => ?_) (fun _ => ?_)
        · exact k_fX9_join_J146 N g x0 x1 x2 K39 y3 d21 hS z_11 hK39
        · refine pc_bd (fun d27 e_12 => ?_)
          have z_13 := KL.i z_11 e_12
          exact k_fX9_join_L109 N g x0 x1 x2 K39 hS y3 u18 u20 0 d27 z_13 hK39
theorem k_fX9_join_L39 (N : Nat) (g : Gs) (x0 : Nat) (x1 : Nat) (x2 : Int32) (hS : Shp g) (a0 : Int32) (a1 : Ds) (hZ : KL a1) : pc (fX9_join_L39 N g x0 x1 x2 (a0, a1)) (fun _ d1 => KL d1) := by
  unfold fX9_join_L39
  refine pc_lp (fun a => KL a.2) ?_ N (a0, a1) hZ
  rintro K ⟨a0, a1⟩ hZ hK
  exact k_fX9_join_B39 N g x0 x1 x2 K a0 a1 hS hZ hK
theorem k_fX9_join_B2 (N : Nat) (g : Gs) (x0 : Nat) (x1 : Nat) (x2 : Int32) (K2 : Int32 × Ds → Option (Unit × Ds)) (y3 : Int32) (d : Ds) (hS : Shp g) (hZ : KL d) (hK2 : ∀ a, KL a.2 → pc (K2 a) (fun _ d1 => KL d1)) : pc (fX9_join_B2 N g x0 x1 x2 K2 y3 d) (fun _ d1 => KL d1) := by
  unfold fX9_join_B2
  refine pc_gd (fun c_1 => ?_)
  refine pc_ob (fun r2 e_2 => ?_)
  refine pc_gd (fun c_3 => ?_)
  refine pc_if (fun _ => ?_) (fun _ => ?_)
  · refine pc_gd (fun c_4 => ?_)
    refine pc_bd (fun d6 e_5 => ?_)
    have z_6 := KL.i hZ e_5
    exact k_fX9_join_L39 N g x0 x1 x2 hS 0 d6 z_6
  · refine pc_gd (fun c_7 => ?_)
    refine pc_bd (fun d37 e_8 => ?_)
    have z_9 := KL.i hZ e_8
    refine pc_bd (fun u38 e_10 => ?_)
    exact hK2 _ z_9
theorem k_fX9_join_L2 (N : Nat) (g : Gs) (x0 : Nat) (x1 : Nat) (x2 : Int32) (hS : Shp g) (a0 : Int32) (a1 : Ds) (hZ : KL a1) : pc (fX9_join_L2 N g x0 x1 x2 (a0, a1)) (fun _ d1 => KL d1) := by
  unfold fX9_join_L2
  refine pc_lp (fun a => KL a.2) ?_ N (a0, a1) hZ
  rintro K ⟨a0, a1⟩ hZ hK
  exact k_fX9_join_B2 N g x0 x1 x2 K a0 a1 hS hZ hK
theorem k_fX9_join (N : Nat) (g : Gs) (x0 : Nat) (x1 : Nat) (x2 : Int32) (d : Ds) (hS : Shp g) (hZ : KL d) : pc (fX9_join N g x0 x1 x2 d) (fun _ d1 => KL d1) := by
  unfold fX9_join
  exact k_fX9_join_L2 N g x0 x1 x2 hS 0 d hZ
theorem k_fX9_bar_J86 (N : Nat) (g : Gs) (x0 : Nat) (x1 : Nat) (x2 : Int32) (K27 : Int32 × Int32 × Ds → Option (Unit × Ds)) (y4 : Int32) (y5 : Int32) (d : Ds) (hS : Shp g) (hZ : KL d) (hK27 : ∀ a, KL a.2.2 → pc (K27 a) (fun _ d1 => KL d1)) : pc (fX9_bar_J86 N g x0 x1 x2 K27 y4 y5 d) (fun _ d1 => KL d1) := by
  unfold fX9_bar_J86
  refine pc_bd (fun u10 e_1 => ?_)
  exact hK27 _ hZ
theorem k_fJ6_bitCount_0f7a4 (N : Nat) (g : Gs) (x0 : Int32) (d : Ds) (hS : Shp g) (hZ : KL d) : pc (fJ6_bitCount_0f7a4 N g x0 d) (fun _ d1 => KL d1) := by
  unfold fJ6_bitCount_0f7a4
  refine pc_bd (fun u1 e_1 => ?_)
  refine pc_bd (fun u2 e_2 => ?_)
  refine pc_bd (fun u3 e_3 => ?_)
  refine pc_bd (fun u4 e_4 => ?_)
  refine pc_bd (fun u5 e_5 => ?_)
  exact pc_some hZ
theorem k_fX9_bar_B27 (N : Nat) (g : Gs) (x0 : Nat) (x1 : Nat) (x2 : Int32) (K27 : Int32 × Int32 × Ds → Option (Unit × Ds)) (y4 : Int32) (y5 : Int32) (d : Ds) (hS : Shp g) (hZ : KL d) (hK27 : ∀ a, KL a.2.2 → pc (K27 a) (fun _ d1 => KL d1)) : pc (fX9_bar_B27 N g x0 x1 x2 K27 y4 y5 d) (fun _ d1 => KL d1) := by
  unfold fX9_bar_B27
  refine pc_gd (fun c_1 => ?_)
  refine pc_if (fun _ => ?_) (fun _ => ?_)
  · exact pc_some hZ
  · refine pc_gd (fun c_2 => ?_)
    refine pc_bd (fun u8 e_3 => ?_)
    refine pc_if (fun _ => ?_) (fun _ => ?_)
    · exact k_fX9_bar_J86 N g x0 x1 x2 K27 y4 y5 d hS hZ hK27
    · refine pc_cb (k_fJ6_bitCount_0f7a4 N g u8 d hS hZ) (fun u13 d11 z_4 => ?_)
      refine pc_if (fun _ => ?_) (fun _ => ?_)
      · exact k_fX9_bar_J86 N g x0 x1 x2 K27 y4 y5 d11 hS z_4 hK27
      · refine pc_bd (fun d15 e_5 => ?_)
        have z_6 := KL.i z_4 e_5
        exact k_fX9_bar_J86 N g x0 x1 x2 K27 y4 y5 d15 hS z_6 hK27
theorem k_fX9_bar_L27 (N : Nat) (g : Gs) (x0 : Nat) (x1 : Nat) (x2 : Int32) (hS : Shp g) (a0 : Int32) (a1 : Int32) (a2 : Ds) (hZ : KL a2) : pc (fX9_bar_L27 N g x0 x1 x2 (a0, a1, a2)) (fun _ d1 => KL d1) := by
  unfold fX9_bar_L27
  refine pc_lp (fun a => KL a.2.2) ?_ N (a0, a1, a2) hZ
  rintro K ⟨a0, a1, a2⟩ hZ hK
  exact k_fX9_bar_B27 N g x0 x1 x2 K a0 a1 a2 hS hZ hK
theorem k_fX9_bar (N : Nat) (g : Gs) (x0 : Nat) (x1 : Nat) (x2 : Int32) (d : Ds) (hS : Shp g) (hZ : KL d) : pc (fX9_bar N g x0 x1 x2 d) (fun _ d1 => KL d1) := by
  unfold fX9_bar
  refine pc_gd (fun c_1 => ?_)
  refine pc_bd (fun u2 e_2 => ?_)
  refine pc_gd (fun c_3 => ?_)
  refine pc_bd (fun u4 e_4 => ?_)
  exact k_fX9_bar_L27 N g x0 x1 x2 hS u4 0 d hZ
theorem k_fX9_follow_B97 (N : Nat) (g : Gs) (x0 : Nat) (x1 : Nat) (x2 : Int32) (K97 : Int32 × Ds → Option (Unit × Ds)) (y3 : Int32) (d : Ds) (hS : Shp g) (hZ : KL d) (hK97 : ∀ a, KL a.2 → pc (K97 a) (fun _ d1 => KL d1)) : pc (fX9_follow_B97 N g x0 x1 x2 K97 y3 d) (fun _ d1 => KL d1) := by
  unfold fX9_follow_B97
  refine pc_gd (fun c_1 => ?_)
  refine pc_if (fun _ => ?_) (fun _ => ?_)
  · exact pc_some hZ
  · refine pc_gd (fun c_2 => ?_)
    refine pc_cv (k_fX9_bar N g x0 x1 y3 d hS hZ) (fun d17 z_3 => ?_)
    refine pc_bd (fun u19 e_4 => ?_)
    exact hK97 _ z_3
theorem k_fX9_follow_L97 (N : Nat) (g : Gs) (x0 : Nat) (x1 : Nat) (x2 : Int32) (hS : Shp g) (a0 : Int32) (a1 : Ds) (hZ : KL a1) : pc (fX9_follow_L97 N g x0 x1 x2 (a0, a1)) (fun _ d1 => KL d1) := by
  unfold fX9_follow_L97
  refine pc_lp (fun a => KL a.2) ?_ N (a0, a1) hZ
  rintro K ⟨a0, a1⟩ hZ hK
  exact k_fX9_follow_B97 N g x0 x1 x2 K a0 a1 hS hZ hK
theorem k_fX9_follow_J90 (N : Nat) (g : Gs) (x0 : Nat) (x1 : Nat) (x2 : Int32) (d : Ds) (hS : Shp g) (hZ : KL d) : pc (fX9_follow_J90 N g x0 x1 x2 d) (fun _ d1 => KL d1) := by
  unfold fX9_follow_J90
  refine pc_gd (fun c_1 => ?_)
  refine pc_bd (fun d13 e_2 => ?_)
  have z_3 := KL.i hZ e_2
  exact k_fX9_follow_L97 N g x0 x1 x2 hS 0 d13 z_3
theorem k_fX9_follow_J84 (N : Nat) (g : Gs) (x0 : Nat) (x1 : Nat) (x2 : Int32) (K31 : Int32 × Ds → Option (Unit × Ds)) (y3 : Int32) (d : Ds) (hS : Shp g) (hZ : KL d) (hK31 : ∀ a, KL a.2 → pc (K31 a) (fun _ d1 => KL d1)) : pc (fX9_follow_J84 N g x0 x1 x2 K31 y3 d) (fun _ d1 => KL d1) := by
  unfold fX9_follow_J84
  refine pc_bd (fun u28 e_1 => ?_)
  exact hK31 _ hZ
theorem k_fX9_follow_B31 (N : Nat) (g : Gs) (x0 : Nat) (x1 : Nat) (x2 : Int32) (K31 : Int32 × Ds → Option (Unit × Ds)) (y3 : Int32) (d : Ds) (hS : Shp g) (hZ : KL d) (hK31 : ∀ a, KL a.2 → pc (K31 a) (fun _ d1 => KL d1)) : pc (fX9_follow_B31 N g x0 x1 x2 K31 y3 d) (fun _ d1 => KL d1) := by
  unfold fX9_follow_B31
  refine pc_gd (fun c_1 => ?_)
  refine pc_cb (k_fX0_hasKey N g x1 y3 d hS hZ) (fun u10 d8 z_2 => ?_)
  refine pc_if (fun _ => ?_) (fun _ => ?_)
  · exact k_fX9_follow_J90 N g x0 x1 x2 d8 hS z_2
  · refine pc_if (fun _ => ?_) (fun _ => ?_)
    · exact k_fX9_follow_J90 N g x0 x1 x2 d8 hS z_2
    · refine pc_gd (fun c_3 => ?_)
      refine pc_ob (fun r22 e_4 => ?_)
      refine pc_gd (fun c_5 => ?_)
      refine pc_gd (fun c_6 => ?_)
      refine pc_gd (fun c_7 => ?_)
      refine pc_gd (fun c_8 => ?_)
      refine pc_if (fun _ => ?_) (fun _ => ?_)
      · refine pc_bd (fun d29 e_9 => ?_)
        have z_10 := KL.i z_2 e_9
        exact k_fX9_follow_J84 N g x0 x1 x2 K31 y3 d29 hS z_10 hK31
      · exact k_fX9_follow_J84 N g x0 x1 x2 K31 y3 d8 hS z_2 hK31
theorem k_fX9_follow_L31 (N : Nat) (g : Gs) (x0 : Nat) (x1 : Nat) (x2 : Int32) (hS : Shp g) (a0 : Int32) (a1 : Ds) (hZ : KL a1) : pc (fX9_follow_L31 N g x0 x1 x2 (a0, a1)) (fun _ d1 => KL d1) := by
  unfold fX9_follow_L31
  refine pc_lp (fun a => KL a.2) ?_ N (a0, a1) hZ
  rintro K ⟨a0, a1⟩ hZ hK
  exact k_fX9_follow_B31 N g x0 x1 x2 K a0 a1 hS hZ hK
theorem k_fX9_follow (N : Nat) (g : Gs) (x0 : Nat) (x1 : Nat) (x2 : Int32) (d : Ds) (hS : Shp g) (hZ : KL d) : pc (fX9_follow N g x0 x1 x2 d) (fun _ d1 => KL d1) := by
  unfold fX9_follow
  refine pc_gd (fun c_1 => ?_)
  refine pc_cv (k_fX9_join N g x0 x1 x2 d hS hZ) (fun d2 z_2 => ?_)
  refine pc_gd (fun c_3 => ?_)
  refine pc_if (fun _ => ?_) (fun _ => ?_)
  · refine pc_bd (fun d6 e_4 => ?_)
    have z_5 := KL.i z_2 e_4
    exact k_fX9_follow_L31 N g x0 x1 x2 hS 0 d6 z_5
  · refine pc_bd (fun d30 e_6 => ?_)
    have z_7 := KL.i z_2 e_6
    refine pc_bd (fun d31 e_8 => ?_)
    have z_9 := KL.i z_7 e_8
    exact pc_some z_9
theorem k_fX11_press (N : Nat) (g : Gs) (x0 : Nat) (x1 : Int32) (x2 : Int32) (d : Ds) (hS : Shp g) (hZ : KL d) : pc (fX11_press N g x0 x1 x2 d) (fun _ d1 => KL d1) := by
  unfold fX11_press
  refine pc_gd (fun c_1 => ?_)
  refine pc_ob (fun r2 e_2 => ?_)
  refine pc_gd (fun c_3 => ?_)
  refine pc_ob (fun r4 e_4 => ?_)
  refine pc_ob (fun r5 e_5 => ?_)
  refine pc_gd (fun c_6 => ?_)
  refine pc_cb (k_fX0_hasKey N g r5 x1 d hS hZ) (fun u9 d7 z_7 => ?_)
  refine pc_if (fun _ => ?_) (fun _ => ?_)
  · exact k_fX11_press_J31 N g x0 x1 x2 d7 hS z_7
  · refine pc_gd (fun c_8 => ?_)
    refine pc_cb (k_fX11_isIn N g (dI d7 r4 0) x1 d7 hS z_7) (fun u14 d12 z_9 => ?_)
    refine pc_if (fun _ => ?_) (fun _ => ?_)
    · exact k_fX11_press_J31 N g x0 x1 x2 d12 hS z_9
    · refine pc_bd (fun d16 e_10 => ?_)
      have z_11 := KL.i z_9 e_10
      refine pc_ob (fun r17 e_12 => ?_)
      refine pc_gd (fun c_13 => ?_)
      refine pc_cv (k_fX9_follow N g r17 r5 (dI d16 r4 0) d16 hS z_11) (fun d19 z_14 => ?_)
      refine pc_bd (fun d21 e_15 => ?_)
      have z_16 := KL.i z_14 e_15
      refine pc_bd (fun d22 e_17 => ?_)
      have z_18 := KL.i z_16 e_17
      exact pc_some z_18
theorem k_fX11_tick_J21 (N : Nat) (g : Gs) (x0 : Nat) (x1 : Int32) (d : Ds) (hS : Shp g) (hZ : KL d) : pc (fX11_tick_J21 N g x0 x1 d) (fun _ d1 => KL d1) := by
  unfold fX11_tick_J21
  exact pc_some hZ
theorem k_fX5_repeatLatest_J54 (N : Nat) (g : Gs) (x0 : Nat) (x1 : Int32) (x2 : Int32) (x3 : Int32) (d : Ds) (hS : Shp g) (hZ : KL d) : pc (fX5_repeatLatest_J54 N g x0 x1 x2 x3 d) (fun _ d1 => KL d1) := by
  unfold fX5_repeatLatest_J54
  exact pc_some hZ
theorem k_fX5_repeatLatest (N : Nat) (g : Gs) (x0 : Nat) (x1 : Int32) (x2 : Int32) (x3 : Int32) (d : Ds) (hS : Shp g) (hZ : KL d) : pc (fX5_repeatLatest N g x0 x1 x2 x3 d) (fun _ d1 => KL d1) := by
  unfold fX5_repeatLatest
  refine pc_gd (fun c_1 => ?_)
  refine pc_bd (fun u2 e_2 => ?_)
  refine pc_if (fun _ => ?_) (fun _ => ?_)
  · exact k_fX5_repeatLatest_J54 N g x0 x1 x2 x3 d hS hZ
  · refine pc_if (fun _ => ?_) (fun _ => ?_)
    · exact k_fX5_repeatLatest_J54 N g x0 x1 x2 x3 d hS hZ
    · refine pc_if (fun _ => ?_) (fun _ => ?_)
      · exact k_fX5_repeatLatest_J54 N g x0 x1 x2 x3 d hS hZ
      · refine pc_gd (fun c_3 => ?_)
        refine pc_if (fun _ => ?_) (fun _ => ?_)
        · refine pc_bd (fun d8 e_4 => ?_)
          have z_5 := KL.i hZ e_4
          refine pc_bd (fun d9 e_6 => ?_)
          have z_7 := KL.i z_5 e_6
          exact k_fX5_repeatLatest_J54 N g x0 x1 x2 x3 d9 hS z_7
        · exact k_fX5_repeatLatest_J54 N g x0 x1 x2 x3 d hS hZ
theorem k_fX1_passTick_J131 (N : Nat) (g : Gs) (x0 : Nat) (d : Ds) (hS : Shp g) (hZ : KL d) : pc (fX1_passTick_J131 N g x0 d) (fun _ d1 => KL d1) := by
  unfold fX1_passTick_J131
  refine pc_gd (fun c_1 => ?_)
  refine pc_ob (fun r16 e_2 => ?_)
  refine pc_ob (fun r17 e_3 => ?_)
  refine pc_gd (fun c_4 => ?_)
  refine pc_gd (fun c_5 => ?_)
  refine pc_cv (k_fX5_repeatLatest N g r16 (dI d x0 5) (dI d r17 8) (dI d r17 9) d hS hZ) (fun d20 z_6 => ?_)
  exact pc_some z_6
theorem k_fX4_isDownAt_J29 (N : Nat) (g : Gs) (x0 : Nat) (x1 : Int32) (z0 : Int32) (d : Ds) (hS : Shp g) (hZ : KL d) : pc (fX4_isDownAt_J29 N g x0 x1 z0 d) (fun _ d1 => KL d1) := by
  unfold fX4_isDownAt_J29
  refine pc_gd (fun c_1 => ?_)
  exact pc_some hZ
theorem k_fX4_isDownAt_J28 (N : Nat) (g : Gs) (x0 : Nat) (x1 : Int32) (d : Ds) (hS : Shp g) (hZ : KL d) : pc (fX4_isDownAt_J28 N g x0 x1 d) (fun _ d1 => KL d1) := by
  unfold fX4_isDownAt_J28
  exact k_fX4_isDownAt_J29 N g x0 x1 0 d hS hZ
theorem k_fX4_isDownAt (N : Nat) (g : Gs) (x0 : Nat) (x1 : Int32) (d : Ds) (hS : Shp g) (hZ : KL d) : pc (fX4_isDownAt N g x0 x1 d) (fun _ d1 => KL d1) := by
  unfold fX4_isDownAt
  refine pc_if (fun _ => ?_) (fun _ => ?_)
  · exact k_fX4_isDownAt_J28 N g x0 x1 d hS hZ
  · refine pc_gd (fun c_1 => ?_)
    refine pc_if (fun _ => ?_) (fun _ => ?_)
    · exact k_fX4_isDownAt_J28 N g x0 x1 d hS hZ
    · refine pc_ob (fun r5 e_2 => ?_)
      refine pc_gd (fun c_3 => ?_)
      refine pc_gd (fun c_4 => ?_)
      refine pc_gd (fun c_5 => ?_)
      refine pc_if (fun _ => ?_) (fun _ => ?_)
      · exact k_fX4_isDownAt_J29 N g x0 x1 1 d hS hZ
      · exact k_fX4_isDownAt_J28 N g x0 x1 d hS hZ
theorem k_fX4_keyAt_J27 (N : Nat) (g : Gs) (x0 : Nat) (x1 : Int32) (z0 : Int32) (d : Ds) (hS : Shp g) (hZ : KL d) : pc (fX4_keyAt_J27 N g x0 x1 z0 d) (fun _ d1 => KL d1) := by
  unfold fX4_keyAt_J27
  exact pc_some hZ
theorem k_fX4_keyAt_J12 (N : Nat) (g : Gs) (x0 : Nat) (x1 : Int32) (d : Ds) (hS : Shp g) (hZ : KL d) : pc (fX4_keyAt_J12 N g x0 x1 d) (fun _ d1 => KL d1) := by
  unfold fX4_keyAt_J12
  exact k_fX4_keyAt_J27 N g x0 x1 (-1) d hS hZ
theorem k_fX4_keyAt (N : Nat) (g : Gs) (x0 : Nat) (x1 : Int32) (d : Ds) (hS : Shp g) (hZ : KL d) : pc (fX4_keyAt N g x0 x1 d) (fun _ d1 => KL d1) := by
  unfold fX4_keyAt
  refine pc_if (fun _ => ?_) (fun _ => ?_)
  · exact k_fX4_keyAt_J12 N g x0 x1 d hS hZ
  · refine pc_gd (fun c_1 => ?_)
    refine pc_if (fun _ => ?_) (fun _ => ?_)
    · refine pc_ob (fun r4 e_2 => ?_)
      refine pc_gd (fun c_3 => ?_)
      refine pc_gd (fun c_4 => ?_)
      refine pc_gd (fun c_5 => ?_)
      refine pc_gd (fun c_6 => ?_)
      exact k_fX4_keyAt_J27 N g x0 x1 (((dI d r4 x1.toNatClampNeg) - (((dI d r4 x1.toNatClampNeg) / 64) * 64)) / 2) d hS hZ
    · exact k_fX4_keyAt_J12 N g x0 x1 d hS hZ
theorem k_fX1_activeLayers_J59 (N : Nat) (g : Gs) (x0 : Nat) (K12 : Int32 × Int32 × Ds → Option (Int32 × Ds)) (y1 : Int32) (y2 : Int32) (d : Ds) (hS : Shp g) (hZ : KL d) (hK12 : ∀ a, KL a.2.2 → pc (K12 a) (fun _ d1 => KL d1)) : pc (fX1_activeLayers_J59 N g x0 K12 y1 y2 d) (fun _ d1 => KL d1) := by
  unfold fX1_activeLayers_J59
  refine pc_bd (fun u13 e_1 => ?_)
  exact hK12 _ hZ
theorem k_fX1_activeLayers_B12 (N : Nat) (g : Gs) (x0 : Nat) (K12 : Int32 × Int32 × Ds → Option (Int32 × Ds)) (y1 : Int32) (y2 : Int32) (d : Ds) (hS : Shp g) (hZ : KL d) (hK12 : ∀ a, KL a.2.2 → pc (K12 a) (fun _ d1 => KL d1)) : pc (fX1_activeLayers_B12 N g x0 K12 y1 y2 d) (fun _ d1 => KL d1) := by
  unfold fX1_activeLayers_B12
  refine pc_if (fun _ => ?_) (fun _ => ?_)
  · exact pc_some hZ
  · refine pc_gd (fun c_1 => ?_)
    refine pc_ob (fun r7 e_2 => ?_)
    refine pc_gd (fun c_3 => ?_)
    refine pc_ob (fun r9 e_4 => ?_)
    refine pc_gd (fun c_5 => ?_)
    refine pc_gd (fun c_6 => ?_)
    refine pc_if (fun _ => ?_) (fun _ => ?_)
    · refine pc_ob (fun r14 e_7 => ?_)
      refine pc_gd (fun c_8 => ?_)
      refine pc_cb (k_fX11_isIn N g (dI d r14 3) y2 d hS hZ) (fun u18 d16 z_9 => ?_)
      refine pc_if (fun _ => ?_) (fun _ => ?_)
      · exact k_fX1_activeLayers_J59 N g x0 K12 y1 y2 d16 hS z_9 hK12
      · refine pc_ob (fun r20 e_10 => ?_)
        refine pc_gd (fun c_11 => ?_)
        refine pc_gd (fun c_12 => ?_)
        refine pc_bd (fun u23 e_13 => ?_)
        exact k_fX1_activeLayers_J59 N g x0 K12 u23 y2 d16 hS z_9 hK12
    · exact k_fX1_activeLayers_J59 N g x0 K12 y1 y2 d hS hZ hK12
theorem k_fX1_activeLayers_L12 (N : Nat) (g : Gs) (x0 : Nat) (hS : Shp g) (a0 : Int32) (a1 : Int32) (a2 : Ds) (hZ : KL a2) : pc (fX1_activeLayers_L12 N g x0 (a0, a1, a2)) (fun _ d1 => KL d1) := by
  unfold fX1_activeLayers_L12
  refine pc_lp (fun a => KL a.2.2) ?_ N (a0, a1, a2) hZ
  rintro K ⟨a0, a1, a2⟩ hZ hK
  exact k_fX1_activeLayers_B12 N g x0 K a0 a1 a2 hS hZ hK
theorem k_fX1_activeLayers (N : Nat) (g : Gs) (x0 : Nat) (d : Ds) (hS : Shp g) (hZ : KL d) : pc (fX1_activeLayers N g x0 d) (fun _ d1 => KL d1) := by
  unfold fX1_activeLayers
  refine pc_gd (fun c_1 => ?_)
  refine pc_ob (fun r2 e_2 => ?_)
  refine pc_gd (fun c_3 => ?_)
  refine pc_bd (fun u4 e_4 => ?_)
  exact k_fX1_activeLayers_L12 N g x0 hS u4 0 d hZ
theorem k_fX0_deedIn_J39 (N : Nat) (g : Gs) (x0 : Nat) (x1 : Int32) (x2 : Int32) (K2 : Int32 × Ds → Option (Nat × Ds)) (y3 : Int32) (d : Ds) (hS : Shp g) (hZ : KL d) (hK2 : ∀ a, KL a.2 → pc (K2 a) (fun _ d1 => KL d1)) : pc (fX0_deedIn_J39 N g x0 x1 x2 K2 y3 d) (fun _ d1 => KL d1) := by
  unfold fX0_deedIn_J39
  refine pc_bd (fun u12 e_1 => ?_)
  exact hK2 _ hZ
theorem k_fX0_deedIn_B2 (N : Nat) (g : Gs) (x0 : Nat) (x1 : Int32) (x2 : Int32) (K2 : Int32 × Ds → Option (Nat × Ds)) (y3 : Int32) (d : Ds) (hS : Shp g) (hZ : KL d) (hK2 : ∀ a, KL a.2 → pc (K2 a) (fun _ d1 => KL d1)) : pc (fX0_deedIn_B2 N g x0 x1 x2 K2 y3 d) (fun _ d1 => KL d1) := by
  unfold fX0_deedIn_B2
  refine pc_if (fun _ => ?_) (fun _ => ?_)
  · refine pc_gd (fun c_1 => ?_)
    refine pc_ob (fun r3 e_2 => ?_)
    exact pc_some hZ
  · refine pc_gd (fun c_3 => ?_)
    refine pc_cb (k_fX0_toldDeed N g x0 y3 x2 d hS hZ) (fun u7 d5 z_4 => ?_)
    refine pc_cb (k_fX11_isIn N g x1 y3 d5 hS z_4) (fun u10 d8 z_5 => ?_)
    refine pc_if (fun _ => ?_) (fun _ => ?_)
    · exact k_fX0_deedIn_J39 N g x0 x1 x2 K2 y3 d8 hS z_5 hK2
    · refine pc_if (fun _ => ?_) (fun _ => ?_)
      · exact k_fX0_deedIn_J39 N g x0 x1 x2 K2 y3 d8 hS z_5 hK2
      · refine pc_ob (fun r14 e_6 => ?_)
        refine pc_gd (fun c_7 => ?_)
        refine pc_if (fun _ => ?_) (fun _ => ?_)
        · exact k_fX0_deedIn_J39 N g x0 x1 x2 K2 y3 d8 hS z_5 hK2
        · exact pc_some z_5
theorem k_fX0_deedIn_L2 (N : Nat) (g : Gs) (x0 : Nat) (x1 : Int32) (x2 : Int32) (hS : Shp g) (a0 : Int32) (a1 : Ds) (hZ : KL a1) : pc (fX0_deedIn_L2 N g x0 x1 x2 (a0, a1)) (fun _ d1 => KL d1) := by
  unfold fX0_deedIn_L2
  refine pc_lp (fun a => KL a.2) ?_ N (a0, a1) hZ
  rintro K ⟨a0, a1⟩ hZ hK
  exact k_fX0_deedIn_B2 N g x0 x1 x2 K a0 a1 hS hZ hK
theorem k_fX0_deedIn (N : Nat) (g : Gs) (x0 : Nat) (x1 : Int32) (x2 : Int32) (d : Ds) (hS : Shp g) (hZ : KL d) : pc (fX0_deedIn N g x0 x1 x2 d) (fun _ d1 => KL d1) := by
  unfold fX0_deedIn
  exact k_fX0_deedIn_L2 N g x0 x1 x2 hS 3 d hZ
theorem k_fX4_tickAt_J25 (N : Nat) (g : Gs) (x0 : Nat) (x1 : Int32) (z0 : Int32) (d : Ds) (hS : Shp g) (hZ : KL d) : pc (fX4_tickAt_J25 N g x0 x1 z0 d) (fun _ d1 => KL d1) := by
  unfold fX4_tickAt_J25
  exact pc_some hZ
theorem k_fX4_tickAt_J12 (N : Nat) (g : Gs) (x0 : Nat) (x1 : Int32) (d : Ds) (hS : Shp g) (hZ : KL d) : pc (fX4_tickAt_J12 N g x0 x1 d) (fun _ d1 => KL d1) := by
  unfold fX4_tickAt_J12
  exact k_fX4_tickAt_J25 N g x0 x1 (-1) d hS hZ
theorem k_fX4_tickAt (N : Nat) (g : Gs) (x0 : Nat) (x1 : Int32) (d : Ds) (hS : Shp g) (hZ : KL d) : pc (fX4_tickAt N g x0 x1 d) (fun _ d1 => KL d1) := by
  unfold fX4_tickAt
  refine pc_if (fun _ => ?_) (fun _ => ?_)
  · exact k_fX4_tickAt_J12 N g x0 x1 d hS hZ
  · refine pc_gd (fun c_1 => ?_)
    refine pc_if (fun _ => ?_) (fun _ => ?_)
    · refine pc_ob (fun r4 e_2 => ?_)
      refine pc_gd (fun c_3 => ?_)
      refine pc_gd (fun c_4 => ?_)
      refine pc_gd (fun c_5 => ?_)
      exact k_fX4_tickAt_J25 N g x0 x1 ((dI d r4 x1.toNatClampNeg) / 64) d hS hZ
    · exact k_fX4_tickAt_J12 N g x0 x1 d hS hZ
theorem k_fX1_fateOfHold_J103 (N : Nat) (g : Gs) (x0 : Nat) (x1 : Int32) (x2 : Int32) (z0 : Int32) (d : Ds) (hS : Shp g) (hZ : KL d) : pc (fX1_fateOfHold_J103 N g x0 x1 x2 z0 d) (fun _ d1 => KL d1) := by
  unfold fX1_fateOfHold_J103
  exact pc_some hZ
theorem k_fX1_fateOfHold_J84 (N : Nat) (g : Gs) (x0 : Nat) (x1 : Int32) (x2 : Int32) (K5 : Int32 × Int32 × Ds → Option (Int32 × Ds)) (y3 : Int32) (y4 : Int32) (d : Ds) (hS : Shp g) (hZ : KL d) (hK5 : ∀ a, KL a.2.2 → pc (K5 a) (fun _ d1 => KL d1)) : pc (fX1_fateOfHold_J84 N g x0 x1 x2 K5 y3 y4 d) (fun _ d1 => KL d1) := by
  unfold fX1_fateOfHold_J84
  refine pc_bd (fun u22 e_1 => ?_)
  exact hK5 _ hZ
theorem k_fX1_fateOfHold_B5 (N : Nat) (g : Gs) (x0 : Nat) (x1 : Int32) (x2 : Int32) (K5 : Int32 × Int32 × Ds → Option (Int32 × Ds)) (y3 : Int32) (y4 : Int32) (d : Ds) (hS : Shp g) (hZ : KL d) (hK5 : ∀ a, KL a.2.2 → pc (K5 a) (fun _ d1 => KL d1)) : pc (fX1_fateOfHold_B5 N g x0 x1 x2 K5 y3 y4 d) (fun _ d1 => KL d1) := by
  unfold fX1_fateOfHold_B5
  refine pc_gd (fun c_1 => ?_)
  refine pc_ob (fun r2 e_2 => ?_)
  refine pc_gd (fun c_3 => ?_)
  refine pc_if (fun _ => ?_) (fun _ => ?_)
  · refine pc_if (fun _ => ?_) (fun _ => ?_)
    · exact k_fX1_fateOfHold_J103 N g x0 x1 x2 0 d hS hZ
    · exact k_fX1_fateOfHold_J103 N g x0 x1 x2 4 d hS hZ
  · refine pc_cb (k_fX4_keyAt N g r2 y4 d hS hZ) (fun u8 d6 z_4 => ?_)
    refine pc_cb (k_fX4_tickAt N g r2 y4 d6 hS z_4) (fun u11 d9 z_5 => ?_)
    refine pc_if (fun _ => ?_) (fun _ => ?_)
    · refine pc_cb (k_fX4_isDownAt N g r2 y4 d9 hS z_5) (fun u15 d13 z_6 => ?_)
      refine pc_if (fun _ => ?_) (fun _ => ?_)
      · refine pc_if (fun _ => ?_) (fun _ => ?_)
        · exact pc_some z_6
        · refine pc_cb (k_fX11_isIn N g y3 u8 d13 hS z_6) (fun u20 d18 z_7 => ?_)
          refine pc_if (fun _ => ?_) (fun _ => ?_)
          · exact k_fX1_fateOfHold_J84 N g x0 x1 x2 K5 y3 y4 d18 hS z_7 hK5
          · exact pc_some z_7
      · refine pc_bd (fun u23 e_8 => ?_)
        exact k_fX1_fateOfHold_J84 N g x0 x1 x2 K5 u23 y4 d13 hS z_6 hK5
    · exact pc_some z_5
theorem k_fX1_fateOfHold_L5 (N : Nat) (g : Gs) (x0 : Nat) (x1 : Int32) (x2 : Int32) (hS : Shp g) (a0 : Int32) (a1 : Int32) (a2 : Ds) (hZ : KL a2) : pc (fX1_fateOfHold_L5 N g x0 x1 x2 (a0, a1, a2)) (fun _ d1 => KL d1) := by
  unfold fX1_fateOfHold_L5
  refine pc_lp (fun a => KL a.2.2) ?_ N (a0, a1, a2) hZ
  rintro K ⟨a0, a1, a2⟩ hZ hK
  exact k_fX1_fateOfHold_B5 N g x0 x1 x2 K a0 a1 a2 hS hZ hK
theorem k_fX1_fateOfHold (N : Nat) (g : Gs) (x0 : Nat) (x1 : Int32) (x2 : Int32) (d : Ds) (hS : Shp g) (hZ : KL d) : pc (fX1_fateOfHold N g x0 x1 x2 d) (fun _ d1 => KL d1) := by
  unfold fX1_fateOfHold
  exact k_fX1_fateOfHold_L5 N g x0 x1 x2 hS 0 1 d hZ
theorem k_fX1_fateOfFirst_J188 (N : Nat) (g : Gs) (x0 : Nat) (y1 : Int32) (d : Ds) (hS : Shp g) (hZ : KL d) : pc (fX1_fateOfFirst_J188 N g x0 y1 d) (fun _ d1 => KL d1) := by
  unfold fX1_fateOfFirst_J188
  refine pc_gd (fun c_1 => ?_)
  refine pc_ob (fun r31 e_2 => ?_)
  refine pc_gd (fun c_3 => ?_)
  refine pc_cb (k_fX4_tickAt N g r31 0 d hS hZ) (fun u35 d33 z_4 => ?_)
  refine pc_ob (fun r36 e_5 => ?_)
  refine pc_gd (fun c_6 => ?_)
  refine pc_cb (k_fX1_fateOfHold N g x0 y1 (u35 + (dI d33 r36 5)) d33 hS z_4) (fun u40 d38 z_7 => ?_)
  exact pc_some z_7
theorem k_fX1_fateOfDouble_J79 (N : Nat) (g : Gs) (x0 : Nat) (x1 : Int32) (x2 : Int32) (z0 : Int32) (d : Ds) (hS : Shp g) (hZ : KL d) : pc (fX1_fateOfDouble_J79 N g x0 x1 x2 z0 d) (fun _ d1 => KL d1) := by
  unfold fX1_fateOfDouble_J79
  exact pc_some hZ
theorem k_fX1_fateOfDouble_J58 (N : Nat) (g : Gs) (x0 : Nat) (x1 : Int32) (x2 : Int32) (z0 : Int32) (d : Ds) (hS : Shp g) (hZ : KL d) : pc (fX1_fateOfDouble_J58 N g x0 x1 x2 z0 d) (fun _ d1 => KL d1) := by
  unfold fX1_fateOfDouble_J58
  exact pc_some hZ
theorem k_fX1_fateOfDouble_B2 (N : Nat) (g : Gs) (x0 : Nat) (x1 : Int32) (x2 : Int32) (K2 : Int32 × Ds → Option (Int32 × Ds)) (y3 : Int32) (d : Ds) (hS : Shp g) (hZ : KL d) (hK2 : ∀ a, KL a.2 → pc (K2 a) (fun _ d1 => KL d1)) : pc (fX1_fateOfDouble_B2 N g x0 x1 x2 K2 y3 d) (fun _ d1 => KL d1) := by
  unfold fX1_fateOfDouble_B2
  refine pc_gd (fun c_1 => ?_)
  refine pc_ob (fun r2 e_2 => ?_)
  refine pc_gd (fun c_3 => ?_)
  refine pc_if (fun _ => ?_) (fun _ => ?_)
  · refine pc_if (fun _ => ?_) (fun _ => ?_)
    · exact k_fX1_fateOfDouble_J79 N g x0 x1 x2 0 d hS hZ
    · exact k_fX1_fateOfDouble_J79 N g x0 x1 x2 6 d hS hZ
  · refine pc_cb (k_fX4_tickAt N g r2 y3 d hS hZ) (fun u8 d6 z_4 => ?_)
    refine pc_if (fun _ => ?_) (fun _ => ?_)
    · refine pc_cb (k_fX4_isDownAt N g r2 y3 d6 hS z_4) (fun u12 d10 z_5 => ?_)
      refine pc_if (fun _ => ?_) (fun _ => ?_)
      · refine pc_bd (fun u14 e_6 => ?_)
        exact hK2 _ z_5
      · refine pc_cb (k_fX4_keyAt N g r2 y3 d10 hS z_5) (fun u17 d15 z_7 => ?_)
        refine pc_if (fun _ => ?_) (fun _ => ?_)
        · exact k_fX1_fateOfDouble_J58 N g x0 x1 x2 7 d15 hS z_7
        · exact k_fX1_fateOfDouble_J58 N g x0 x1 x2 6 d15 hS z_7
    · exact pc_some z_4
theorem k_fX1_fateOfDouble_L2 (N : Nat) (g : Gs) (x0 : Nat) (x1 : Int32) (x2 : Int32) (hS : Shp g) (a0 : Int32) (a1 : Ds) (hZ : KL a1) : pc (fX1_fateOfDouble_L2 N g x0 x1 x2 (a0, a1)) (fun _ d1 => KL d1) := by
  unfold fX1_fateOfDouble_L2
  refine pc_lp (fun a => KL a.2) ?_ N (a0, a1) hZ
  rintro K ⟨a0, a1⟩ hZ hK
  exact k_fX1_fateOfDouble_B2 N g x0 x1 x2 K a0 a1 hS hZ hK
theorem k_fX1_fateOfDouble (N : Nat) (g : Gs) (x0 : Nat) (x1 : Int32) (x2 : Int32) (d : Ds) (hS : Shp g) (hZ : KL d) : pc (fX1_fateOfDouble N g x0 x1 x2 d) (fun _ d1 => KL d1) := by
  unfold fX1_fateOfDouble
  exact k_fX1_fateOfDouble_L2 N g x0 x1 x2 hS 1 d hZ
theorem k_fX1_fateOfFirst_J241 (N : Nat) (g : Gs) (x0 : Nat) (z0 : Int32) (d : Ds) (hS : Shp g) (hZ : KL d) : pc (fX1_fateOfFirst_J241 N g x0 z0 d) (fun _ d1 => KL d1) := by
  unfold fX1_fateOfFirst_J241
  exact pc_some hZ
theorem k_fX1_fateOfFirst_J160 (N : Nat) (g : Gs) (x0 : Nat) (y1 : Int32) (d : Ds) (hS : Shp g) (hZ : KL d) : pc (fX1_fateOfFirst_J160 N g x0 y1 d) (fun _ d1 => KL d1) := by
  unfold fX1_fateOfFirst_J160
  refine pc_gd (fun c_1 => ?_)
  refine pc_ob (fun r19 e_2 => ?_)
  refine pc_cb (k_fX1_activeLayers N g x0 d hS hZ) (fun u22 d20 z_3 => ?_)
  refine pc_gd (fun c_4 => ?_)
  refine pc_cb (k_fX0_deedIn N g r19 u22 y1 d20 hS z_3) (fun u26 d24 z_5 => ?_)
  refine pc_gd (fun c_6 => ?_)
  refine pc_bd (fun u28 e_7 => ?_)
  refine pc_if (fun _ => ?_) (fun _ => ?_)
  · exact k_fX1_fateOfFirst_J188 N g x0 y1 d24 hS z_5
  · refine pc_if (fun _ => ?_) (fun _ => ?_)
    · exact k_fX1_fateOfFirst_J188 N g x0 y1 d24 hS z_5
    · refine pc_if (fun _ => ?_) (fun _ => ?_)
      · refine pc_ob (fun r43 e_8 => ?_)
        refine pc_gd (fun c_9 => ?_)
        refine pc_cb (k_fX4_tickAt N g r43 0 d24 hS z_5) (fun u47 d45 z_10 => ?_)
        refine pc_cb (k_fX1_fateOfDouble N g x0 y1 (u47 + (dI d45 r19 7)) d45 hS z_10) (fun u50 d48 z_11 => ?_)
        exact k_fX1_fateOfFirst_J241 N g x0 u50 d48 hS z_11
      · exact k_fX1_fateOfFirst_J241 N g x0 3 d24 hS z_5
theorem k_fX1_fateOfFirst_J120 (N : Nat) (g : Gs) (x0 : Nat) (y1 : Int32) (y3 : Int32) (z0 : Int32) (d : Ds) (hS : Shp g) (hZ : KL d) : pc (fX1_fateOfFirst_J120 N g x0 y1 y3 z0 d) (fun _ d1 => KL d1) := by
  unfold fX1_fateOfFirst_J120
  refine pc_gd (fun c_1 => ?_)
  refine pc_ob (fun r64 e_2 => ?_)
  refine pc_gd (fun c_3 => ?_)
  refine pc_cb (k_fX4_isDownAt N g r64 1 d hS hZ) (fun u68 d66 z_4 => ?_)
  refine pc_if (fun _ => ?_) (fun _ => ?_)
  · exact k_fX1_fateOfFirst_J160 N g x0 y1 d66 hS z_4
  · refine pc_cb (k_fX4_keyAt N g r64 1 d66 hS z_4) (fun u72 d70 z_5 => ?_)
    refine pc_if (fun _ => ?_) (fun _ => ?_)
    · refine pc_cb (k_fX4_tickAt N g r64 1 d70 hS z_5) (fun u76 d74 z_6 => ?_)
      refine pc_if (fun _ => ?_) (fun _ => ?_)
      · exact k_fX1_fateOfFirst_J160 N g x0 y1 d74 hS z_6
      · exact pc_some z_6
    · exact k_fX1_fateOfFirst_J160 N g x0 y1 d70 hS z_5
theorem k_fX1_fateOfFirst_J86 (N : Nat) (g : Gs) (x0 : Nat) (y1 : Int32) (y2 : Int32) (y3 : Int32) (d : Ds) (hS : Shp g) (hZ : KL d) : pc (fX1_fateOfFirst_J86 N g x0 y1 y2 y3 d) (fun _ d1 => KL d1) := by
  unfold fX1_fateOfFirst_J86
  refine pc_gd (fun c_1 => ?_)
  refine pc_ob (fun r57 e_2 => ?_)
  refine pc_gd (fun c_3 => ?_)
  refine pc_ob (fun r59 e_4 => ?_)
  refine pc_gd (fun c_5 => ?_)
  refine pc_gd (fun c_6 => ?_)
  refine pc_if (fun _ => ?_) (fun _ => ?_)
  · refine pc_ob (fun r78 e_7 => ?_)
    refine pc_gd (fun c_8 => ?_)
    refine pc_gd (fun c_9 => ?_)
    exact k_fX1_fateOfFirst_J120 N g x0 y1 y3 (dI d r78 y2.toNatClampNeg) d hS hZ
  · exact k_fX1_fateOfFirst_J120 N g x0 y1 y3 (dI d r59 y2.toNatClampNeg) d hS hZ
theorem k_fX1_fateOfFirst (N : Nat) (g : Gs) (x0 : Nat) (d : Ds) (hS : Shp g) (hZ : KL d) : pc (fX1_fateOfFirst N g x0 d) (fun _ d1 => KL d1) := by
  unfold fX1_fateOfFirst
  refine pc_gd (fun c_1 => ?_)
  refine pc_ob (fun r2 e_2 => ?_)
  refine pc_gd (fun c_3 => ?_)
  refine pc_if (fun _ => ?_) (fun _ => ?_)
  · exact pc_some hZ
  · refine pc_cb (k_fX4_isDownAt N g r2 0 d hS hZ) (fun u7 d5 z_4 => ?_)
    refine pc_if (fun _ => ?_) (fun _ => ?_)
    · exact pc_some z_4
    · refine pc_cb (k_fX4_keyAt N g r2 0 d5 hS z_4) (fun u11 d9 z_5 => ?_)
      refine pc_ob (fun r12 e_6 => ?_)
      refine pc_gd (fun c_7 => ?_)
      refine pc_cb (k_fX0_chordOf N g r12 u11 d9 hS z_5) (fun u16 d14 z_8 => ?_)
      refine pc_if (fun _ => ?_) (fun _ => ?_)
      · exact k_fX1_fateOfFirst_J160 N g x0 u11 d14 hS z_8
      · refine pc_cb (k_fX4_tickAt N g r2 0 d14 hS z_8) (fun u53 d51 z_9 => ?_)
        refine pc_bd (fun u54 e_10 => ?_)
        refine pc_if (fun _ => ?_) (fun _ => ?_)
        · refine pc_if (fun _ => ?_) (fun _ => ?_)
          · exact k_fX1_fateOfFirst_J86 N g x0 u11 u16 u54 d51 hS z_9
          · exact pc_some z_9
        · exact k_fX1_fateOfFirst_J86 N g x0 u11 u16 u54 d51 hS z_9
theorem k_fX4_drop_J45 (N : Nat) (g : Gs) (x0 : Nat) (x1 : Int32) (d : Ds) (hS : Shp g) (hZ : KL d) : pc (fX4_drop_J45 N g x0 x1 d) (fun _ d1 => KL d1) := by
  unfold fX4_drop_J45
  exact pc_some hZ
theorem k_fX4_drop (N : Nat) (g : Gs) (x0 : Nat) (x1 : Int32) (d : Ds) (hS : Shp g) (hZ : KL d) : pc (fX4_drop N g x0 x1 d) (fun _ d1 => KL d1) := by
  unfold fX4_drop
  refine pc_if (fun _ => ?_) (fun _ => ?_)
  · exact k_fX4_drop_J45 N g x0 x1 d hS hZ
  · refine pc_gd (fun c_1 => ?_)
    refine pc_if (fun _ => ?_) (fun _ => ?_)
    · exact k_fX4_drop_J45 N g x0 x1 d hS hZ
    · refine pc_ob (fun r4 e_2 => ?_)
      refine pc_gd (fun c_3 => ?_)
      refine pc_gd (fun c_4 => ?_)
      refine pc_gd (fun c_5 => ?_)
      refine pc_gd (fun c_6 => ?_)
      refine pc_gd (fun c_7 => ?_)
      refine pc_gd (fun c_8 => ?_)
      refine pc_bd (fun d11 e_9 => ?_)
      have z_10 := KL.ci hZ e_9
      refine pc_bd (fun d12 e_11 => ?_)
      have z_12 := KL.i z_10 e_11
      exact k_fX4_drop_J45 N g x0 x1 d12 hS z_12
theorem k_fX3_drop_J58 (N : Nat) (g : Gs) (x0 : Nat) (x1 : Int32) (K25 : Int32 × Int32 × Ds → Option (Unit × Ds)) (y2 : Int32) (y3 : Int32) (d : Ds) (hS : Shp g) (hZ : KL d) (hK25 : ∀ a, KL a.2.2 → pc (K25 a) (fun _ d1 => KL d1)) : pc (fX3_drop_J58 N g x0 x1 K25 y2 y3 d) (fun _ d1 => KL d1) := by
  unfold fX3_drop_J58
  refine pc_bd (fun u21 e_1 => ?_)
  exact hK25 _ hZ
theorem k_fX3_drop_B25 (N : Nat) (g : Gs) (x0 : Nat) (x1 : Int32) (K25 : Int32 × Int32 × Ds → Option (Unit × Ds)) (y2 : Int32) (y3 : Int32) (d : Ds) (hS : Shp g) (hZ : KL d) (hK25 : ∀ a, KL a.2.2 → pc (K25 a) (fun _ d1 => KL d1)) : pc (fX3_drop_B25 N g x0 x1 K25 y2 y3 d) (fun _ d1 => KL d1) := by
  unfold fX3_drop_B25
  refine pc_gd (fun c_1 => ?_)
  refine pc_if (fun _ => ?_) (fun _ => ?_)
  · refine pc_bd (fun d16 e_2 => ?_)
    have z_3 := KL.i hZ e_2
    exact pc_some z_3
  · refine pc_ob (fun r17 e_4 => ?_)
    refine pc_gd (fun c_5 => ?_)
    refine pc_gd (fun c_6 => ?_)
    refine pc_if (fun _ => ?_) (fun _ => ?_)
    · exact k_fX3_drop_J58 N g x0 x1 K25 y2 y3 d hS hZ hK25
    · refine pc_gd (fun c_7 => ?_)
      refine pc_bd (fun d23 e_8 => ?_)
      have z_9 := KL.i hZ e_8
      refine pc_bd (fun u24 e_10 => ?_)
      exact k_fX3_drop_J58 N g x0 x1 K25 u24 y3 d23 hS z_9 hK25
theorem k_fX3_drop_L25 (N : Nat) (g : Gs) (x0 : Nat) (x1 : Int32) (hS : Shp g) (a0 : Int32) (a1 : Int32) (a2 : Ds) (hZ : KL a2) : pc (fX3_drop_L25 N g x0 x1 (a0, a1, a2)) (fun _ d1 => KL d1) := by
  unfold fX3_drop_L25
  refine pc_lp (fun a => KL a.2.2) ?_ N (a0, a1, a2) hZ
  rintro K ⟨a0, a1, a2⟩ hZ hK
  exact k_fX3_drop_B25 N g x0 x1 K a0 a1 a2 hS hZ hK
theorem k_fX3_drop (N : Nat) (g : Gs) (x0 : Nat) (x1 : Int32) (d : Ds) (hS : Shp g) (hZ : KL d) : pc (fX3_drop N g x0 x1 d) (fun _ d1 => KL d1) := by
  unfold fX3_drop
  refine pc_gd (fun c_1 => ?_)
  refine pc_ob (fun r2 e_2 => ?_)
  refine pc_gd (fun c_3 => ?_)
  refine pc_gd (fun c_4 => ?_)
  refine pc_bd (fun d5 e_5 => ?_)
  have z_6 := KL.i hZ e_5
  refine pc_ob (fun r6 e_7 => ?_)
  refine pc_gd (fun c_8 => ?_)
  refine pc_gd (fun c_9 => ?_)
  refine pc_bd (fun d9 e_10 => ?_)
  have z_11 := KL.i z_6 e_10
  refine pc_ob (fun r10 e_12 => ?_)
  refine pc_gd (fun c_13 => ?_)
  refine pc_gd (fun c_14 => ?_)
  refine pc_bd (fun d13 e_15 => ?_)
  have z_16 := KL.i z_11 e_15
  exact k_fX3_drop_L25 N g x0 x1 hS 0 0 d13 z_16
theorem k_fX3_end_J22 (N : Nat) (g : Gs) (x0 : Nat) (x1 : Int32) (d : Ds) (hS : Shp g) (hZ : KL d) : pc (fX3_end_J22 N g x0 x1 d) (fun _ d1 => KL d1) := by
  unfold fX3_end_J22
  exact pc_some hZ
theorem k_fX3_end (N : Nat) (g : Gs) (x0 : Nat) (x1 : Int32) (d : Ds) (hS : Shp g) (hZ : KL d) : pc (fX3_end N g x0 x1 d) (fun _ d1 => KL d1) := by
  unfold fX3_end
  refine pc_gd (fun c_1 => ?_)
  refine pc_ob (fun r2 e_2 => ?_)
  refine pc_gd (fun c_3 => ?_)
  refine pc_gd (fun c_4 => ?_)
  refine pc_bd (fun u5 e_5 => ?_)
  refine pc_cv (k_fX3_drop N g x0 x1 d hS hZ) (fun d6 z_6 => ?_)
  refine pc_if (fun _ => ?_) (fun _ => ?_)
  · exact k_fX3_end_J22 N g x0 x1 d6 hS z_6
  · refine pc_cv (k_fX3_drop N g x0 u5 d6 hS z_6) (fun d9 z_7 => ?_)
    exact k_fX3_end_J22 N g x0 x1 d9 hS z_7
theorem k_fX3_gather_J92 (N : Nat) (g : Gs) (x0 : Nat) (x1 : Int32) (d : Ds) (hS : Shp g) (hZ : KL d) : pc (fX3_gather_J92 N g x0 x1 d) (fun _ d1 => KL d1) := by
  unfold fX3_gather_J92
  exact pc_some hZ
theorem k_fX3_addCode_J56 (N : Nat) (g : Gs) (x0 : Nat) (x1 : Int32) (d : Ds) (hS : Shp g) (hZ : KL d) : pc (fX3_addCode_J56 N g x0 x1 d) (fun _ d1 => KL d1) := by
  unfold fX3_addCode_J56
  exact pc_some hZ
theorem k_fX3_addCode_B2 (N : Nat) (g : Gs) (x0 : Nat) (x1 : Int32) (K2 : Int32 × Ds → Option (Unit × Ds)) (y2 : Int32) (d : Ds) (hS : Shp g) (hZ : KL d) (hK2 : ∀ a, KL a.2 → pc (K2 a) (fun _ d1 => KL d1)) : pc (fX3_addCode_B2 N g x0 x1 K2 y2 d) (fun _ d1 => KL d1) := by
  unfold fX3_addCode_B2
  refine pc_gd (fun c_1 => ?_)
  refine pc_if (fun _ => ?_) (fun _ => ?_)
  · refine pc_if (fun _ => ?_) (fun _ => ?_)
    · exact k_fX3_addCode_J56 N g x0 x1 d hS hZ
    · refine pc_ob (fun r4 e_2 => ?_)
      refine pc_gd (fun c_3 => ?_)
      refine pc_gd (fun c_4 => ?_)
      refine pc_bd (fun d7 e_5 => ?_)
      have z_6 := KL.i hZ e_5
      refine pc_bd (fun d8 e_7 => ?_)
      have z_8 := KL.i z_6 e_7
      exact k_fX3_addCode_J56 N g x0 x1 d8 hS z_8
  · refine pc_ob (fun r9 e_9 => ?_)
    refine pc_gd (fun c_10 => ?_)
    refine pc_gd (fun c_11 => ?_)
    refine pc_if (fun _ => ?_) (fun _ => ?_)
    · exact pc_some hZ
    · refine pc_bd (fun u13 e_12 => ?_)
      exact hK2 _ hZ
theorem k_fX3_addCode_L2 (N : Nat) (g : Gs) (x0 : Nat) (x1 : Int32) (hS : Shp g) (a0 : Int32) (a1 : Ds) (hZ : KL a1) : pc (fX3_addCode_L2 N g x0 x1 (a0, a1)) (fun _ d1 => KL d1) := by
  unfold fX3_addCode_L2
  refine pc_lp (fun a => KL a.2) ?_ N (a0, a1) hZ
  rintro K ⟨a0, a1⟩ hZ hK
  exact k_fX3_addCode_B2 N g x0 x1 K a0 a1 hS hZ hK
theorem k_fX3_addCode (N : Nat) (g : Gs) (x0 : Nat) (x1 : Int32) (d : Ds) (hS : Shp g) (hZ : KL d) : pc (fX3_addCode N g x0 x1 d) (fun _ d1 => KL d1) := by
  unfold fX3_addCode
  exact k_fX3_addCode_L2 N g x0 x1 hS 0 d hZ
theorem k_fX3_gather_J76 (N : Nat) (g : Gs) (x0 : Nat) (x1 : Int32) (K12 : Int32 × Ds → Option (Unit × Ds)) (y2 : Int32) (d : Ds) (hS : Shp g) (hZ : KL d) (hK12 : ∀ a, KL a.2 → pc (K12 a) (fun _ d1 => KL d1)) : pc (fX3_gather_J76 N g x0 x1 K12 y2 d) (fun _ d1 => KL d1) := by
  unfold fX3_gather_J76
  refine pc_bd (fun u18 e_1 => ?_)
  exact hK12 _ hZ
theorem k_fX3_gather_B12 (N : Nat) (g : Gs) (x0 : Nat) (x1 : Int32) (K12 : Int32 × Ds → Option (Unit × Ds)) (y2 : Int32) (d : Ds) (hS : Shp g) (hZ : KL d) (hK12 : ∀ a, KL a.2 → pc (K12 a) (fun _ d1 => KL d1)) : pc (fX3_gather_B12 N g x0 x1 K12 y2 d) (fun _ d1 => KL d1) := by
  unfold fX3_gather_B12
  refine pc_gd (fun c_1 => ?_)
  refine pc_if (fun _ => ?_) (fun _ => ?_)
  · refine pc_if (fun _ => ?_) (fun _ => ?_)
    · exact k_fX3_gather_J92 N g x0 x1 d hS hZ
    · refine pc_cv (k_fX3_addCode N g x0 x1 d hS hZ) (fun d7 z_2 => ?_)
      exact k_fX3_gather_J92 N g x0 x1 d7 hS z_2
  · refine pc_ob (fun r9 e_3 => ?_)
    refine pc_gd (fun c_4 => ?_)
    refine pc_gd (fun c_5 => ?_)
    refine pc_bd (fun u12 e_6 => ?_)
    refine pc_ob (fun r13 e_7 => ?_)
    refine pc_gd (fun c_8 => ?_)
    refine pc_gd (fun c_9 => ?_)
    refine pc_if (fun _ => ?_) (fun _ => ?_)
    · refine pc_ob (fun r24 e_10 => ?_)
      refine pc_gd (fun c_11 => ?_)
      refine pc_gd (fun c_12 => ?_)
      refine pc_bd (fun d27 e_13 => ?_)
      have z_14 := KL.i hZ e_13
      exact k_fX3_gather_J76 N g x0 x1 K12 y2 d27 hS z_14 hK12
    · refine pc_if (fun _ => ?_) (fun _ => ?_)
      · refine pc_ob (fun r19 e_15 => ?_)
        refine pc_gd (fun c_16 => ?_)
        refine pc_gd (fun c_17 => ?_)
        refine pc_cv (k_fX3_addCode N g x0 (dI d r19 u12.toNatClampNeg) d hS hZ) (fun d22 z_18 => ?_)
        exact k_fX3_gather_J76 N g x0 x1 K12 y2 d22 hS z_18 hK12
      · exact k_fX3_gather_J76 N g x0 x1 K12 y2 d hS hZ hK12
theorem k_fX3_gather_L12 (N : Nat) (g : Gs) (x0 : Nat) (x1 : Int32) (hS : Shp g) (a0 : Int32) (a1 : Ds) (hZ : KL a1) : pc (fX3_gather_L12 N g x0 x1 (a0, a1)) (fun _ d1 => KL d1) := by
  unfold fX3_gather_L12
  refine pc_lp (fun a => KL a.2) ?_ N (a0, a1) hZ
  rintro K ⟨a0, a1⟩ hZ hK
  exact k_fX3_gather_B12 N g x0 x1 K a0 a1 hS hZ hK
theorem k_fX3_gather (N : Nat) (g : Gs) (x0 : Nat) (x1 : Int32) (d : Ds) (hS : Shp g) (hZ : KL d) : pc (fX3_gather N g x0 x1 d) (fun _ d1 => KL d1) := by
  unfold fX3_gather
  refine pc_gd (fun c_1 => ?_)
  refine pc_bd (fun d2 e_2 => ?_)
  have z_3 := KL.i hZ e_2
  refine pc_bd (fun d3 e_4 => ?_)
  have z_5 := KL.i z_3 e_4
  exact k_fX3_gather_L12 N g x0 x1 hS 0 d3 z_5
theorem k_fX5_rowOf_J33 (N : Nat) (g : Gs) (x0 : Nat) (x1 : Int32) (z0 : Int32) (d : Ds) (hS : Shp g) (hZ : KL d) : pc (fX5_rowOf_J33 N g x0 x1 z0 d) (fun _ d1 => KL d1) := by
  unfold fX5_rowOf_J33
  exact pc_some hZ
theorem k_fX5_rowOf_J18 (N : Nat) (g : Gs) (x0 : Nat) (x1 : Int32) (d : Ds) (hS : Shp g) (hZ : KL d) : pc (fX5_rowOf_J18 N g x0 x1 d) (fun _ d1 => KL d1) := by
  unfold fX5_rowOf_J18
  exact k_fX5_rowOf_J33 N g x0 x1 (-1) d hS hZ
theorem k_fX5_rowOf (N : Nat) (g : Gs) (x0 : Nat) (x1 : Int32) (d : Ds) (hS : Shp g) (hZ : KL d) : pc (fX5_rowOf N g x0 x1 d) (fun _ d1 => KL d1) := by
  unfold fX5_rowOf
  refine pc_if (fun _ => ?_) (fun _ => ?_)
  · exact k_fX5_rowOf_J18 N g x0 x1 d hS hZ
  · refine pc_if (fun _ => ?_) (fun _ => ?_)
    · exact k_fX5_rowOf_J18 N g x0 x1 d hS hZ
    · refine pc_gd (fun c_1 => ?_)
      refine pc_if (fun _ => ?_) (fun _ => ?_)
      · refine pc_gd (fun c_2 => ?_)
        exact k_fX5_rowOf_J33 N g x0 x1 ((((dI d x0 4) - 1) - x1) - (((((dI d x0 4) - 1) - x1) / 40) * 40)) d hS hZ
      · exact k_fX5_rowOf_J18 N g x0 x1 d hS hZ
theorem k_fX5_isAlike_J24 (N : Nat) (g : Gs) (x0 : Nat) (x1 : Int32) (x2 : Nat) (x3 : Int32) (z0 : Int32) (d : Ds) (hS : Shp g) (hZ : KL d) : pc (fX5_isAlike_J24 N g x0 x1 x2 x3 z0 d) (fun _ d1 => KL d1) := by
  unfold fX5_isAlike_J24
  refine pc_gd (fun c_1 => ?_)
  exact pc_some hZ
theorem k_fX5_isAlike_J23 (N : Nat) (g : Gs) (x0 : Nat) (x1 : Int32) (x2 : Nat) (x3 : Int32) (d : Ds) (hS : Shp g) (hZ : KL d) : pc (fX5_isAlike_J23 N g x0 x1 x2 x3 d) (fun _ d1 => KL d1) := by
  unfold fX5_isAlike_J23
  exact k_fX5_isAlike_J24 N g x0 x1 x2 x3 0 d hS hZ
theorem k_fX5_codeAt_J24 (N : Nat) (g : Gs) (x0 : Nat) (x1 : Int32) (x2 : Int32) (d : Ds) (hS : Shp g) (hZ : KL d) : pc (fX5_codeAt_J24 N g x0 x1 x2 d) (fun _ d1 => KL d1) := by
  unfold fX5_codeAt_J24
  exact pc_some hZ
theorem k_fX5_codeAt (N : Nat) (g : Gs) (x0 : Nat) (x1 : Int32) (x2 : Int32) (d : Ds) (hS : Shp g) (hZ : KL d) : pc (fX5_codeAt N g x0 x1 x2 d) (fun _ d1 => KL d1) := by
  unfold fX5_codeAt
  refine pc_if (fun _ => ?_) (fun _ => ?_)
  · exact k_fX5_codeAt_J24 N g x0 x1 x2 d hS hZ
  · refine pc_if (fun _ => ?_) (fun _ => ?_)
    · exact k_fX5_codeAt_J24 N g x0 x1 x2 d hS hZ
    · refine pc_if (fun _ => ?_) (fun _ => ?_)
      · exact k_fX5_codeAt_J24 N g x0 x1 x2 d hS hZ
      · refine pc_gd (fun c_1 => ?_)
        refine pc_ob (fun r5 e_2 => ?_)
        refine pc_gd (fun c_3 => ?_)
        refine pc_gd (fun c_4 => ?_)
        refine pc_if (fun _ => ?_) (fun _ => ?_)
        · refine pc_ob (fun r9 e_5 => ?_)
          refine pc_gd (fun c_6 => ?_)
          refine pc_gd (fun c_7 => ?_)
          exact pc_some hZ
        · exact k_fX5_codeAt_J24 N g x0 x1 x2 d hS hZ
theorem k_fX5_isAlike_B65 (N : Nat) (g : Gs) (x0 : Nat) (x1 : Int32) (x2 : Nat) (x3 : Int32) (K65 : Int32 × Ds → Option (Int32 × Ds)) (y4 : Int32) (d : Ds) (hS : Shp g) (hZ : KL d) (hK65 : ∀ a, KL a.2 → pc (K65 a) (fun _ d1 => KL d1)) : pc (fX5_isAlike_B65 N g x0 x1 x2 x3 K65 y4 d) (fun _ d1 => KL d1) := by
  unfold fX5_isAlike_B65
  refine pc_gd (fun c_1 => ?_)
  refine pc_ob (fun r14 e_2 => ?_)
  refine pc_gd (fun c_3 => ?_)
  refine pc_gd (fun c_4 => ?_)
  refine pc_if (fun _ => ?_) (fun _ => ?_)
  · exact pc_some hZ
  · refine pc_cb (k_fX5_codeAt N g x0 x1 y4 d hS hZ) (fun u20 d18 z_5 => ?_)
    refine pc_gd (fun c_6 => ?_)
    refine pc_ob (fun r22 e_7 => ?_)
    refine pc_gd (fun c_8 => ?_)
    refine pc_gd (fun c_9 => ?_)
    refine pc_if (fun _ => ?_) (fun _ => ?_)
    · refine pc_bd (fun u26 e_10 => ?_)
      exact hK65 _ z_5
    · exact pc_some z_5
theorem k_fX5_isAlike_L65 (N : Nat) (g : Gs) (x0 : Nat) (x1 : Int32) (x2 : Nat) (x3 : Int32) (hS : Shp g) (a0 : Int32) (a1 : Ds) (hZ : KL a1) : pc (fX5_isAlike_L65 N g x0 x1 x2 x3 (a0, a1)) (fun _ d1 => KL d1) := by
  unfold fX5_isAlike_L65
  refine pc_lp (fun a => KL a.2) ?_ N (a0, a1) hZ
  rintro K ⟨a0, a1⟩ hZ hK
  exact k_fX5_isAlike_B65 N g x0 x1 x2 x3 K a0 a1 hS hZ hK
theorem k_fX5_isAlike_J60 (N : Nat) (g : Gs) (x0 : Nat) (x1 : Int32) (x2 : Nat) (x3 : Int32) (d : Ds) (hS : Shp g) (hZ : KL d) : pc (fX5_isAlike_J60 N g x0 x1 x2 x3 d) (fun _ d1 => KL d1) := by
  unfold fX5_isAlike_J60
  exact pc_some hZ
theorem k_fX5_isAlike_J57 (N : Nat) (g : Gs) (x0 : Nat) (x1 : Int32) (x2 : Nat) (x3 : Int32) (z0 : Int32) (z1 : Int32) (d : Ds) (hS : Shp g) (hZ : KL d) : pc (fX5_isAlike_J57 N g x0 x1 x2 x3 z0 z1 d) (fun _ d1 => KL d1) := by
  unfold fX5_isAlike_J57
  refine pc_if (fun _ => ?_) (fun _ => ?_)
  · exact k_fX5_isAlike_L65 N g x0 x1 x2 x3 hS 0 d hZ
  · exact k_fX5_isAlike_J60 N g x0 x1 x2 x3 d hS hZ
theorem k_fX5_isAlike (N : Nat) (g : Gs) (x0 : Nat) (x1 : Int32) (x2 : Nat) (x3 : Int32) (d : Ds) (hS : Shp g) (hZ : KL d) : pc (fX5_isAlike N g x0 x1 x2 x3 d) (fun _ d1 => KL d1) := by
  unfold fX5_isAlike
  refine pc_if (fun _ => ?_) (fun _ => ?_)
  · refine pc_gd (fun c_1 => ?_)
    refine pc_if (fun _ => ?_) (fun _ => ?_)
    · refine pc_if (fun _ => ?_) (fun _ => ?_)
      · exact k_fX5_isAlike_J24 N g x0 x1 x2 x3 1 d hS hZ
      · exact k_fX5_isAlike_J23 N g x0 x1 x2 x3 d hS hZ
    · exact k_fX5_isAlike_J23 N g x0 x1 x2 x3 d hS hZ
  · refine pc_gd (fun c_2 => ?_)
    refine pc_ob (fun r3 e_3 => ?_)
    refine pc_gd (fun c_4 => ?_)
    refine pc_gd (fun c_5 => ?_)
    refine pc_gd (fun c_6 => ?_)
    refine pc_if (fun _ => ?_) (fun _ => ?_)
    · refine pc_ob (fun r8 e_7 => ?_)
      refine pc_gd (fun c_8 => ?_)
      refine pc_gd (fun c_9 => ?_)
      refine pc_if (fun _ => ?_) (fun _ => ?_)
      · exact k_fX5_isAlike_J57 N g x0 x1 x2 x3 (dI d x2 8) (dI d r8 x1.toNatClampNeg) d hS hZ
      · exact k_fX5_isAlike_J57 N g x0 x1 x2 x3 (-2) (dI d r8 x1.toNatClampNeg) d hS hZ
    · exact k_fX5_isAlike_J60 N g x0 x1 x2 x3 d hS hZ
theorem k_fX3_sends_B2 (N : Nat) (g : Gs) (x0 : Nat) (x1 : Int32) (K2 : Int32 × Ds → Option (Int32 × Ds)) (y2 : Int32) (d : Ds) (hS : Shp g) (hZ : KL d) (hK2 : ∀ a, KL a.2 → pc (K2 a) (fun _ d1 => KL d1)) : pc (fX3_sends_B2 N g x0 x1 K2 y2 d) (fun _ d1 => KL d1) := by
  unfold fX3_sends_B2
  refine pc_gd (fun c_1 => ?_)
  refine pc_if (fun _ => ?_) (fun _ => ?_)
  · exact pc_some hZ
  · refine pc_ob (fun r3 e_2 => ?_)
    refine pc_gd (fun c_3 => ?_)
    refine pc_gd (fun c_4 => ?_)
    refine pc_if (fun _ => ?_) (fun _ => ?_)
    · exact pc_some hZ
    · refine pc_bd (fun u7 e_5 => ?_)
      exact hK2 _ hZ
theorem k_fX3_sends_L2 (N : Nat) (g : Gs) (x0 : Nat) (x1 : Int32) (hS : Shp g) (a0 : Int32) (a1 : Ds) (hZ : KL a1) : pc (fX3_sends_L2 N g x0 x1 (a0, a1)) (fun _ d1 => KL d1) := by
  unfold fX3_sends_L2
  refine pc_lp (fun a => KL a.2) ?_ N (a0, a1) hZ
  rintro K ⟨a0, a1⟩ hZ hK
  exact k_fX3_sends_B2 N g x0 x1 K a0 a1 hS hZ hK
theorem k_fX3_sends (N : Nat) (g : Gs) (x0 : Nat) (x1 : Int32) (d : Ds) (hS : Shp g) (hZ : KL d) : pc (fX3_sends N g x0 x1 d) (fun _ d1 => KL d1) := by
  unfold fX3_sends
  exact k_fX3_sends_L2 N g x0 x1 hS 0 d hZ
theorem k_fX5_renewLatest_J87 (N : Nat) (g : Gs) (x0 : Nat) (x1 : Int32) (x2 : Nat) (x3 : Int32) (x4 : Int32) (d : Ds) (hS : Shp g) (hZ : KL d) : pc (fX5_renewLatest_J87 N g x0 x1 x2 x3 x4 d) (fun _ d1 => KL d1) := by
  unfold fX5_renewLatest_J87
  exact pc_some hZ
theorem k_fX5_renewLatest_J81 (N : Nat) (g : Gs) (x0 : Nat) (x1 : Int32) (x2 : Nat) (x3 : Int32) (x4 : Int32) (d : Ds) (hS : Shp g) (hZ : KL d) : pc (fX5_renewLatest_J81 N g x0 x1 x2 x3 x4 d) (fun _ d1 => KL d1) := by
  unfold fX5_renewLatest_J81
  refine pc_gd (fun c_1 => ?_)
  refine pc_cv (k_fX5_makeLatest N g x0 (-1) (-1) d hS hZ) (fun d6 z_2 => ?_)
  exact k_fX5_renewLatest_J87 N g x0 x1 x2 x3 x4 d6 hS z_2
theorem k_fX5_renewLatest_J49 (N : Nat) (g : Gs) (x0 : Nat) (x1 : Int32) (x2 : Nat) (x3 : Int32) (x4 : Int32) (y5 : Int32) (d : Ds) (hS : Shp g) (hZ : KL d) : pc (fX5_renewLatest_J49 N g x0 x1 x2 x3 x4 y5 d) (fun _ d1 => KL d1) := by
  unfold fX5_renewLatest_J49
  refine pc_if (fun _ => ?_) (fun _ => ?_)
  · refine pc_if (fun _ => ?_) (fun _ => ?_)
    · refine pc_gd (fun c_1 => ?_)
      refine pc_gd (fun c_2 => ?_)
      refine pc_cb (k_fX3_sends N g x2 (dI d x0 5) d hS hZ) (fun u12 d10 z_3 => ?_)
      refine pc_if (fun _ => ?_) (fun _ => ?_)
      · exact k_fX5_renewLatest_J81 N g x0 x1 x2 x3 x4 d10 hS z_3
      · exact k_fX5_renewLatest_J87 N g x0 x1 x2 x3 x4 d10 hS z_3
    · exact k_fX5_renewLatest_J81 N g x0 x1 x2 x3 x4 d hS hZ
  · refine pc_gd (fun c_4 => ?_)
    refine pc_cv (k_fX5_makeLatest N g x0 y5 x4 d hS hZ) (fun d15 z_5 => ?_)
    exact k_fX5_renewLatest_J87 N g x0 x1 x2 x3 x4 d15 hS z_5
theorem k_fX5_hasCode_J40 (N : Nat) (g : Gs) (x0 : Nat) (x1 : Int32) (x2 : Int32) (d : Ds) (hS : Shp g) (hZ : KL d) : pc (fX5_hasCode_J40 N g x0 x1 x2 d) (fun _ d1 => KL d1) := by
  unfold fX5_hasCode_J40
  exact pc_some hZ
theorem k_fX5_hasCode_B2 (N : Nat) (g : Gs) (x0 : Nat) (x1 : Int32) (x2 : Int32) (K2 : Int32 × Ds → Option (Int32 × Ds)) (y3 : Int32) (d : Ds) (hS : Shp g) (hZ : KL d) (hK2 : ∀ a, KL a.2 → pc (K2 a) (fun _ d1 => KL d1)) : pc (fX5_hasCode_B2 N g x0 x1 x2 K2 y3 d) (fun _ d1 => KL d1) := by
  unfold fX5_hasCode_B2
  refine pc_if (fun _ => ?_) (fun _ => ?_)
  · exact k_fX5_hasCode_J40 N g x0 x1 x2 d hS hZ
  · refine pc_gd (fun c_1 => ?_)
    refine pc_ob (fun r3 e_2 => ?_)
    refine pc_gd (fun c_3 => ?_)
    refine pc_gd (fun c_4 => ?_)
    refine pc_if (fun _ => ?_) (fun _ => ?_)
    · exact k_fX5_hasCode_J40 N g x0 x1 x2 d hS hZ
    · refine pc_ob (fun r7 e_5 => ?_)
      refine pc_gd (fun c_6 => ?_)
      refine pc_gd (fun c_7 => ?_)
      refine pc_if (fun _ => ?_) (fun _ => ?_)
      · exact pc_some hZ
      · refine pc_bd (fun u11 e_8 => ?_)
        exact hK2 _ hZ
theorem k_fX5_hasCode_L2 (N : Nat) (g : Gs) (x0 : Nat) (x1 : Int32) (x2 : Int32) (hS : Shp g) (a0 : Int32) (a1 : Ds) (hZ : KL a1) : pc (fX5_hasCode_L2 N g x0 x1 x2 (a0, a1)) (fun _ d1 => KL d1) := by
  unfold fX5_hasCode_L2
  refine pc_lp (fun a => KL a.2) ?_ N (a0, a1) hZ
  rintro K ⟨a0, a1⟩ hZ hK
  exact k_fX5_hasCode_B2 N g x0 x1 x2 K a0 a1 hS hZ hK
theorem k_fX5_hasCode (N : Nat) (g : Gs) (x0 : Nat) (x1 : Int32) (x2 : Int32) (d : Ds) (hS : Shp g) (hZ : KL d) : pc (fX5_hasCode N g x0 x1 x2 d) (fun _ d1 => KL d1) := by
  unfold fX5_hasCode
  exact k_fX5_hasCode_L2 N g x0 x1 x2 hS 0 d hZ
theorem k_fX5_renewLatest_J43 (N : Nat) (g : Gs) (x0 : Nat) (x1 : Int32) (x2 : Nat) (x3 : Int32) (x4 : Int32) (K6 : Int32 × Int32 × Ds → Option (Unit × Ds)) (y5 : Int32) (y6 : Int32) (d : Ds) (hS : Shp g) (hZ : KL d) (hK6 : ∀ a, KL a.2.2 → pc (K6 a) (fun _ d1 => KL d1)) : pc (fX5_renewLatest_J43 N g x0 x1 x2 x3 x4 K6 y5 y6 d) (fun _ d1 => KL d1) := by
  unfold fX5_renewLatest_J43
  refine pc_bd (fun u26 e_1 => ?_)
  exact hK6 _ hZ
theorem k_fX5_renewLatest_B6 (N : Nat) (g : Gs) (x0 : Nat) (x1 : Int32) (x2 : Nat) (x3 : Int32) (x4 : Int32) (K6 : Int32 × Int32 × Ds → Option (Unit × Ds)) (y5 : Int32) (y6 : Int32) (d : Ds) (hS : Shp g) (hZ : KL d) (hK6 : ∀ a, KL a.2.2 → pc (K6 a) (fun _ d1 => KL d1)) : pc (fX5_renewLatest_B6 N g x0 x1 x2 x3 x4 K6 y5 y6 d) (fun _ d1 => KL d1) := by
  unfold fX5_renewLatest_B6
  refine pc_gd (fun c_1 => ?_)
  refine pc_if (fun _ => ?_) (fun _ => ?_)
  · exact k_fX5_renewLatest_J49 N g x0 x1 x2 x3 x4 y5 d hS hZ
  · refine pc_if (fun _ => ?_) (fun _ => ?_)
    · refine pc_ob (fun r18 e_2 => ?_)
      refine pc_gd (fun c_3 => ?_)
      refine pc_gd (fun c_4 => ?_)
      refine pc_gd (fun c_5 => ?_)
      refine pc_cb (k_fX5_hasCode N g x0 x1 (dI d r18 y6.toNatClampNeg) d hS hZ) (fun u24 d22 z_6 => ?_)
      refine pc_if (fun _ => ?_) (fun _ => ?_)
      · refine pc_bd (fun u27 e_7 => ?_)
        exact k_fX5_renewLatest_J43 N g x0 x1 x2 x3 x4 K6 u27 y6 d22 hS z_6 hK6
      · exact k_fX5_renewLatest_J43 N g x0 x1 x2 x3 x4 K6 y5 y6 d22 hS z_6 hK6
    · exact k_fX5_renewLatest_J49 N g x0 x1 x2 x3 x4 y5 d hS hZ
theorem k_fX5_renewLatest_L6 (N : Nat) (g : Gs) (x0 : Nat) (x1 : Int32) (x2 : Nat) (x3 : Int32) (x4 : Int32) (hS : Shp g) (a0 : Int32) (a1 : Int32) (a2 : Ds) (hZ : KL a2) : pc (fX5_renewLatest_L6 N g x0 x1 x2 x3 x4 (a0, a1, a2)) (fun _ d1 => KL d1) := by
  unfold fX5_renewLatest_L6
  refine pc_lp (fun a => KL a.2.2) ?_ N (a0, a1, a2) hZ
  rintro K ⟨a0, a1, a2⟩ hZ hK
  exact k_fX5_renewLatest_B6 N g x0 x1 x2 x3 x4 K a0 a1 a2 hS hZ hK
theorem k_fX5_renewLatest (N : Nat) (g : Gs) (x0 : Nat) (x1 : Int32) (x2 : Nat) (x3 : Int32) (x4 : Int32) (d : Ds) (hS : Shp g) (hZ : KL d) : pc (fX5_renewLatest N g x0 x1 x2 x3 x4 d) (fun _ d1 => KL d1) := by
  unfold fX5_renewLatest
  exact k_fX5_renewLatest_L6 N g x0 x1 x2 x3 x4 hS (-1) 0 d hZ
theorem k_fX5_reportIfUnlike_J98 (N : Nat) (g : Gs) (x0 : Nat) (x1 : Nat) (x2 : Int32) (x3 : Int32) (y6 : Int32) (z0 : Int32) (z1 : Int32) (z2 : Nat) (d : Ds) (hS : Shp g) (hZ : KL d) : pc (fX5_reportIfUnlike_J98 N g x0 x1 x2 x3 y6 z0 z1 z2 d) (fun _ d1 => KL d1) := by
  unfold fX5_reportIfUnlike_J98
  refine pc_gd (fun c_1 => ?_)
  refine pc_gd (fun c_2 => ?_)
  refine pc_bd (fun d27 e_3 => ?_)
  have z_4 := KL.i hZ e_3
  refine pc_gd (fun c_5 => ?_)
  refine pc_ob (fun r29 e_6 => ?_)
  refine pc_gd (fun c_7 => ?_)
  refine pc_ob (fun r31 e_8 => ?_)
  refine pc_gd (fun c_9 => ?_)
  refine pc_gd (fun c_10 => ?_)
  refine pc_gd (fun c_11 => ?_)
  refine pc_gd (fun c_12 => ?_)
  refine pc_gd (fun c_13 => ?_)
  refine pc_gd (fun c_14 => ?_)
  refine pc_gd (fun c_15 => ?_)
  refine pc_bd (fun d39 e_16 => ?_)
  have z_17 := KL.ci z_4 e_16
  refine pc_bd (fun d40 e_18 => ?_)
  have z_19 := KL.i z_17 e_18
  exact pc_some z_19
theorem k_fX5_reportIfUnlike_J18 (N : Nat) (g : Gs) (x0 : Nat) (x1 : Nat) (x2 : Int32) (x3 : Int32) (z0 : Int32) (d : Ds) (hS : Shp g) (hZ : KL d) : pc (fX5_reportIfUnlike_J18 N g x0 x1 x2 x3 z0 d) (fun _ d1 => KL d1) := by
  unfold fX5_reportIfUnlike_J18
  refine pc_gd (fun c_1 => ?_)
  refine pc_cb (k_fX5_rowOf N g x0 0 d hS hZ) (fun u5 d3 z_2 => ?_)
  refine pc_cb (k_fX5_isAlike N g x0 u5 x1 z0 d3 hS z_2) (fun u8 d6 z_3 => ?_)
  refine pc_if (fun _ => ?_) (fun _ => ?_)
  · refine pc_cv (k_fX5_renewLatest N g x0 u5 x1 z0 x3 d6 hS z_3) (fun d10 z_4 => ?_)
    refine pc_gd (fun c_5 => ?_)
    refine pc_bd (fun u13 e_6 => ?_)
    refine pc_ob (fun r14 e_7 => ?_)
    refine pc_gd (fun c_8 => ?_)
    refine pc_gd (fun c_9 => ?_)
    refine pc_bd (fun d17 e_10 => ?_)
    have z_11 := KL.i z_4 e_10
    refine pc_ob (fun r18 e_12 => ?_)
    refine pc_gd (fun c_13 => ?_)
    refine pc_gd (fun c_14 => ?_)
    refine pc_gd (fun c_15 => ?_)
    refine pc_bd (fun d22 e_16 => ?_)
    have z_17 := KL.i z_11 e_16
    refine pc_ob (fun r23 e_18 => ?_)
    refine pc_if (fun _ => ?_) (fun _ => ?_)
    · exact k_fX5_reportIfUnlike_J98 N g x0 x1 x2 x3 u13 (dI d22 x1 8) u13 r23 d22 hS z_17
    · exact k_fX5_reportIfUnlike_J98 N g x0 x1 x2 x3 u13 (-2) u13 r23 d22 hS z_17
  · exact pc_some z_3
theorem k_fX5_reportIfUnlike_J17 (N : Nat) (g : Gs) (x0 : Nat) (x1 : Nat) (x2 : Int32) (x3 : Int32) (d : Ds) (hS : Shp g) (hZ : KL d) : pc (fX5_reportIfUnlike_J17 N g x0 x1 x2 x3 d) (fun _ d1 => KL d1) := by
  unfold fX5_reportIfUnlike_J17
  exact k_fX5_reportIfUnlike_J18 N g x0 x1 x2 x3 0 d hS hZ
theorem k_fX5_reportIfUnlike (N : Nat) (g : Gs) (x0 : Nat) (x1 : Nat) (x2 : Int32) (x3 : Int32) (d : Ds) (hS : Shp g) (hZ : KL d) : pc (fX5_reportIfUnlike N g x0 x1 x2 x3 d) (fun _ d1 => KL d1) := by
  unfold fX5_reportIfUnlike
  refine pc_if (fun _ => ?_) (fun _ => ?_)
  · exact k_fX5_reportIfUnlike_J17 N g x0 x1 x2 x3 d hS hZ
  · refine pc_gd (fun c_1 => ?_)
    refine pc_if (fun _ => ?_) (fun _ => ?_)
    · exact k_fX5_reportIfUnlike_J17 N g x0 x1 x2 x3 d hS hZ
    · exact k_fX5_reportIfUnlike_J18 N g x0 x1 x2 x3 1 d hS hZ
theorem k_fX1_send (N : Nat) (g : Gs) (x0 : Nat) (x1 : Int32) (d : Ds) (hS : Shp g) (hZ : KL d) : pc (fX1_send N g x0 x1 d) (fun _ d1 => KL d1) := by
  unfold fX1_send
  refine pc_gd (fun c_1 => ?_)
  refine pc_ob (fun r2 e_2 => ?_)
  refine pc_gd (fun c_3 => ?_)
  refine pc_cv (k_fX3_gather N g r2 x1 d hS hZ) (fun d4 z_4 => ?_)
  refine pc_ob (fun r6 e_5 => ?_)
  refine pc_ob (fun r7 e_6 => ?_)
  refine pc_gd (fun c_7 => ?_)
  refine pc_gd (fun c_8 => ?_)
  refine pc_cv (k_fX5_reportIfUnlike N g r6 r2 (dI d4 r7 3) (dI d4 x0 5) d4 hS z_4) (fun d10 z_9 => ?_)
  exact pc_some z_9
theorem k_fX0_chordDeed_J25 (N : Nat) (g : Gs) (x0 : Nat) (x1 : Int32) (z0 : Nat) (d : Ds) (hS : Shp g) (hZ : KL d) : pc (fX0_chordDeed_J25 N g x0 x1 z0 d) (fun _ d1 => KL d1) := by
  unfold fX0_chordDeed_J25
  exact pc_some hZ
theorem k_fX0_chordDeed_J12 (N : Nat) (g : Gs) (x0 : Nat) (x1 : Int32) (d : Ds) (hS : Shp g) (hZ : KL d) : pc (fX0_chordDeed_J12 N g x0 x1 d) (fun _ d1 => KL d1) := by
  unfold fX0_chordDeed_J12
  refine pc_gd (fun c_1 => ?_)
  refine pc_ob (fun r3 e_2 => ?_)
  exact k_fX0_chordDeed_J25 N g x0 x1 r3 d hS hZ
theorem k_fX0_chordDeed (N : Nat) (g : Gs) (x0 : Nat) (x1 : Int32) (d : Ds) (hS : Shp g) (hZ : KL d) : pc (fX0_chordDeed N g x0 x1 d) (fun _ d1 => KL d1) := by
  unfold fX0_chordDeed
  refine pc_if (fun _ => ?_) (fun _ => ?_)
  · exact k_fX0_chordDeed_J12 N g x0 x1 d hS hZ
  · refine pc_gd (fun c_1 => ?_)
    refine pc_if (fun _ => ?_) (fun _ => ?_)
    · refine pc_ob (fun r6 e_2 => ?_)
      refine pc_gd (fun c_3 => ?_)
      refine pc_gd (fun c_4 => ?_)
      refine pc_ob (fun r9 e_5 => ?_)
      exact k_fX0_chordDeed_J25 N g x0 x1 r9 d hS hZ
    · exact k_fX0_chordDeed_J12 N g x0 x1 d hS hZ
theorem k_fX3_begin_J61 (N : Nat) (g : Gs) (x0 : Nat) (x1 : Int32) (x2 : Int32) (x3 : Int32) (x4 : Int32) (d : Ds) (hS : Shp g) (hZ : KL d) : pc (fX3_begin_J61 N g x0 x1 x2 x3 x4 d) (fun _ d1 => KL d1) := by
  unfold fX3_begin_J61
  exact pc_some hZ
theorem k_fX3_begin (N : Nat) (g : Gs) (x0 : Nat) (x1 : Int32) (x2 : Int32) (x3 : Int32) (x4 : Int32) (d : Ds) (hS : Shp g) (hZ : KL d) : pc (fX3_begin N g x0 x1 x2 x3 x4 d) (fun _ d1 => KL d1) := by
  unfold fX3_begin
  refine pc_gd (fun c_1 => ?_)
  refine pc_ob (fun r2 e_2 => ?_)
  refine pc_gd (fun c_3 => ?_)
  refine pc_gd (fun c_4 => ?_)
  refine pc_if (fun _ => ?_) (fun _ => ?_)
  · refine pc_if (fun _ => ?_) (fun _ => ?_)
    · exact k_fX3_begin_J61 N g x0 x1 x2 x3 x4 d hS hZ
    · refine pc_bd (fun d7 e_5 => ?_)
      have z_6 := KL.i hZ e_5
      refine pc_ob (fun r8 e_7 => ?_)
      refine pc_gd (fun c_8 => ?_)
      refine pc_gd (fun c_9 => ?_)
      refine pc_bd (fun d11 e_10 => ?_)
      have z_11 := KL.i z_6 e_10
      refine pc_ob (fun r12 e_12 => ?_)
      refine pc_gd (fun c_13 => ?_)
      refine pc_gd (fun c_14 => ?_)
      refine pc_bd (fun d15 e_15 => ?_)
      have z_16 := KL.i z_11 e_15
      refine pc_ob (fun r16 e_17 => ?_)
      refine pc_gd (fun c_18 => ?_)
      refine pc_gd (fun c_19 => ?_)
      refine pc_bd (fun d19 e_20 => ?_)
      have z_21 := KL.i z_16 e_20
      refine pc_bd (fun d20 e_22 => ?_)
      have z_23 := KL.i z_21 e_22
      exact k_fX3_begin_J61 N g x0 x1 x2 x3 x4 d20 hS z_23
  · exact k_fX3_begin_J61 N g x0 x1 x2 x3 x4 d hS hZ
theorem k_fX1_perform_J127 (N : Nat) (g : Gs) (x0 : Nat) (x1 : Int32) (x2 : Int32) (x3 : Int32) (x4 : Int32) (d : Ds) (hS : Shp g) (hZ : KL d) : pc (fX1_perform_J127 N g x0 x1 x2 x3 x4 d) (fun _ d1 => KL d1) := by
  unfold fX1_perform_J127
  refine pc_gd (fun c_1 => ?_)
  refine pc_cv (k_fX1_send N g x0 (-1) d hS hZ) (fun d9 z_2 => ?_)
  exact pc_some z_2
theorem k_fX1_perform_J14 (N : Nat) (g : Gs) (x0 : Nat) (x1 : Int32) (x2 : Int32) (x3 : Int32) (x4 : Int32) (d : Ds) (hS : Shp g) (hZ : KL d) : pc (fX1_perform_J14 N g x0 x1 x2 x3 x4 d) (fun _ d1 => KL d1) := by
  unfold fX1_perform_J14
  refine pc_gd (fun c_1 => ?_)
  refine pc_ob (fun r3 e_2 => ?_)
  refine pc_gd (fun c_3 => ?_)
  refine pc_cv (k_fX3_begin N g r3 x1 x3 x4 x2 d hS hZ) (fun d5 z_4 => ?_)
  refine pc_if (fun _ => ?_) (fun _ => ?_)
  · exact k_fX1_perform_J127 N g x0 x1 x2 x3 x4 d5 hS z_4
  · refine pc_cv (k_fX3_begin N g r3 x2 x3 x4 x1 d5 hS z_4) (fun d11 z_5 => ?_)
    exact k_fX1_perform_J127 N g x0 x1 x2 x3 x4 d11 hS z_5
theorem k_fX0_macroCode_J26 (N : Nat) (g : Gs) (x0 : Nat) (x1 : Int32) (x2 : Int32) (d : Ds) (hS : Shp g) (hZ : KL d) : pc (fX0_macroCode_J26 N g x0 x1 x2 d) (fun _ d1 => KL d1) := by
  unfold fX0_macroCode_J26
  exact pc_some hZ
theorem k_fX0_macroCode (N : Nat) (g : Gs) (x0 : Nat) (x1 : Int32) (x2 : Int32) (d : Ds) (hS : Shp g) (hZ : KL d) : pc (fX0_macroCode N g x0 x1 x2 d) (fun _ d1 => KL d1) := by
  unfold fX0_macroCode
  refine pc_if (fun _ => ?_) (fun _ => ?_)
  · exact k_fX0_macroCode_J26 N g x0 x1 x2 d hS hZ
  · refine pc_gd (fun c_1 => ?_)
    refine pc_if (fun _ => ?_) (fun _ => ?_)
    · exact k_fX0_macroCode_J26 N g x0 x1 x2 d hS hZ
    · refine pc_if (fun _ => ?_) (fun _ => ?_)
      · exact k_fX0_macroCode_J26 N g x0 x1 x2 d hS hZ
      · refine pc_ob (fun r5 e_2 => ?_)
        refine pc_gd (fun c_3 => ?_)
        refine pc_gd (fun c_4 => ?_)
        refine pc_if (fun _ => ?_) (fun _ => ?_)
        · refine pc_ob (fun r9 e_5 => ?_)
          refine pc_gd (fun c_6 => ?_)
          refine pc_gd (fun c_7 => ?_)
          exact pc_some hZ
        · exact k_fX0_macroCode_J26 N g x0 x1 x2 d hS hZ
theorem k_fX1_perform_B79 (N : Nat) (g : Gs) (x0 : Nat) (x1 : Int32) (x2 : Int32) (x3 : Int32) (x4 : Int32) (K79 : Int32 × Ds → Option (Unit × Ds)) (y5 : Int32) (d : Ds) (hS : Shp g) (hZ : KL d) (hK79 : ∀ a, KL a.2 → pc (K79 a) (fun _ d1 => KL d1)) : pc (fX1_perform_B79 N g x0 x1 x2 x3 x4 K79 y5 d) (fun _ d1 => KL d1) := by
  unfold fX1_perform_B79
  refine pc_if (fun _ => ?_) (fun _ => ?_)
  · exact k_fX1_perform_J127 N g x0 x1 x2 x3 x4 d hS hZ
  · refine pc_gd (fun c_1 => ?_)
    refine pc_ob (fun r19 e_2 => ?_)
    refine pc_gd (fun c_3 => ?_)
    refine pc_cb (k_fX0_macroCode N g r19 x4 y5 d hS hZ) (fun u23 d21 z_4 => ?_)
    refine pc_if (fun _ => ?_) (fun _ => ?_)
    · exact k_fX1_perform_J127 N g x0 x1 x2 x3 x4 d21 hS z_4
    · refine pc_cb (k_fX0_macroCode N g r19 x4 y5 d21 hS z_4) (fun u27 d25 z_5 => ?_)
      refine pc_cv (k_fX1_send N g x0 u27 d25 hS z_5) (fun d28 z_6 => ?_)
      refine pc_cv (k_fX1_send N g x0 (-1) d28 hS z_6) (fun d30 z_7 => ?_)
      refine pc_bd (fun u32 e_8 => ?_)
      exact hK79 _ z_7
theorem k_fX1_perform_L79 (N : Nat) (g : Gs) (x0 : Nat) (x1 : Int32) (x2 : Int32) (x3 : Int32) (x4 : Int32) (hS : Shp g) (a0 : Int32) (a1 : Ds) (hZ : KL a1) : pc (fX1_perform_L79 N g x0 x1 x2 x3 x4 (a0, a1)) (fun _ d1 => KL d1) := by
  unfold fX1_perform_L79
  refine pc_lp (fun a => KL a.2) ?_ N (a0, a1) hZ
  rintro K ⟨a0, a1⟩ hZ hK
  exact k_fX1_perform_B79 N g x0 x1 x2 x3 x4 K a0 a1 hS hZ hK
theorem k_fX1_perform (N : Nat) (g : Gs) (x0 : Nat) (x1 : Int32) (x2 : Int32) (x3 : Int32) (x4 : Int32) (d : Ds) (hS : Shp g) (hZ : KL d) : pc (fX1_perform N g x0 x1 x2 x3 x4 d) (fun _ d1 => KL d1) := by
  unfold fX1_perform
  refine pc_if (fun _ => ?_) (fun _ => ?_)
  · exact k_fX1_perform_J14 N g x0 x1 x2 x3 x4 d hS hZ
  · refine pc_if (fun _ => ?_) (fun _ => ?_)
    · exact k_fX1_perform_J14 N g x0 x1 x2 x3 x4 d hS hZ
    · refine pc_if (fun _ => ?_) (fun _ => ?_)
      · exact k_fX1_perform_J14 N g x0 x1 x2 x3 x4 d hS hZ
      · refine pc_if (fun _ => ?_) (fun _ => ?_)
        · refine pc_gd (fun c_1 => ?_)
          refine pc_ob (fun r34 e_2 => ?_)
          refine pc_gd (fun c_3 => ?_)
          refine pc_bd (fun d36 e_4 => ?_)
          have z_5 := KL.i hZ e_4
          exact k_fX1_perform_J127 N g x0 x1 x2 x3 x4 d36 hS z_5
        · refine pc_if (fun _ => ?_) (fun _ => ?_)
          · exact k_fX1_perform_L79 N g x0 x1 x2 x3 x4 hS 0 d hZ
          · exact k_fX1_perform_J127 N g x0 x1 x2 x3 x4 d hS hZ
theorem k_fX1_workOff_J224 (N : Nat) (g : Gs) (x0 : Nat) (x1 : Int32) (d : Ds) (hS : Shp g) (hZ : KL d) : pc (fX1_workOff_J224 N g x0 x1 d) (fun _ d1 => KL d1) := by
  unfold fX1_workOff_J224
  exact pc_some hZ
theorem k_fX1_workOff_J143 (N : Nat) (g : Gs) (x0 : Nat) (x1 : Int32) (y3 : Nat) (z0 : Int32) (z1 : Int32) (z2 : Int32) (z3 : Nat) (d : Ds) (hS : Shp g) (hZ : KL d) : pc (fX1_workOff_J143 N g x0 x1 y3 z0 z1 z2 z3 d) (fun _ d1 => KL d1) := by
  unfold fX1_workOff_J143
  refine pc_gd (fun c_1 => ?_)
  refine pc_gd (fun c_2 => ?_)
  refine pc_cv (k_fX1_perform N g z3 z2 z1 z0 (dI d y3 2) d hS hZ) (fun d39 z_3 => ?_)
  exact k_fX1_workOff_J224 N g x0 x1 d39 hS z_3
theorem k_fX4_dropNext_J34 (N : Nat) (g : Gs) (x0 : Nat) (x1 : Int32) (x2 : Int32) (K2 : Int32 × Ds → Option (Unit × Ds)) (y3 : Int32) (d : Ds) (hS : Shp g) (hZ : KL d) (hK2 : ∀ a, KL a.2 → pc (K2 a) (fun _ d1 => KL d1)) : pc (fX4_dropNext_J34 N g x0 x1 x2 K2 y3 d) (fun _ d1 => KL d1) := by
  unfold fX4_dropNext_J34
  refine pc_bd (fun u7 e_1 => ?_)
  exact hK2 _ hZ
theorem k_fX4_dropNext_B2 (N : Nat) (g : Gs) (x0 : Nat) (x1 : Int32) (x2 : Int32) (K2 : Int32 × Ds → Option (Unit × Ds)) (y3 : Int32) (d : Ds) (hS : Shp g) (hZ : KL d) (hK2 : ∀ a, KL a.2 → pc (K2 a) (fun _ d1 => KL d1)) : pc (fX4_dropNext_B2 N g x0 x1 x2 K2 y3 d) (fun _ d1 => KL d1) := by
  unfold fX4_dropNext_B2
  refine pc_gd (fun c_1 => ?_)
  refine pc_if (fun _ => ?_) (fun _ => ?_)
  · exact pc_some hZ
  · refine pc_cb (k_fX4_keyAt N g x0 y3 d hS hZ) (fun u5 d3 z_2 => ?_)
    refine pc_if (fun _ => ?_) (fun _ => ?_)
    · refine pc_cb (k_fX4_isDownAt N g x0 y3 d3 hS z_2) (fun u10 d8 z_3 => ?_)
      refine pc_if (fun _ => ?_) (fun _ => ?_)
      · refine pc_cv (k_fX4_drop N g x0 y3 d8 hS z_3) (fun d12 z_4 => ?_)
        exact pc_some z_4
      · exact k_fX4_dropNext_J34 N g x0 x1 x2 K2 y3 d8 hS z_3 hK2
    · exact k_fX4_dropNext_J34 N g x0 x1 x2 K2 y3 d3 hS z_2 hK2
theorem k_fX4_dropNext_L2 (N : Nat) (g : Gs) (x0 : Nat) (x1 : Int32) (x2 : Int32) (hS : Shp g) (a0 : Int32) (a1 : Ds) (hZ : KL a1) : pc (fX4_dropNext_L2 N g x0 x1 x2 (a0, a1)) (fun _ d1 => KL d1) := by
  unfold fX4_dropNext_L2
  refine pc_lp (fun a => KL a.2) ?_ N (a0, a1) hZ
  rintro K ⟨a0, a1⟩ hZ hK
  exact k_fX4_dropNext_B2 N g x0 x1 x2 K a0 a1 hS hZ hK
theorem k_fX4_dropNext (N : Nat) (g : Gs) (x0 : Nat) (x1 : Int32) (x2 : Int32) (d : Ds) (hS : Shp g) (hZ : KL d) : pc (fX4_dropNext N g x0 x1 x2 d) (fun _ d1 => KL d1) := by
  unfold fX4_dropNext
  exact k_fX4_dropNext_L2 N g x0 x1 x2 hS 0 d hZ
theorem k_fX1_workOff (N : Nat) (g : Gs) (x0 : Nat) (x1 : Int32) (d : Ds) (hS : Shp g) (hZ : KL d) : pc (fX1_workOff N g x0 x1 d) (fun _ d1 => KL d1) := by
  unfold fX1_workOff
  refine pc_gd (fun c_1 => ?_)
  refine pc_ob (fun r2 e_2 => ?_)
  refine pc_gd (fun c_3 => ?_)
  refine pc_cb (k_fX4_keyAt N g r2 0 d hS hZ) (fun u6 d4 z_4 => ?_)
  refine pc_if (fun _ => ?_) (fun _ => ?_)
  · refine pc_cv (k_fX4_drop N g r2 0 d4 hS z_4) (fun d59 z_5 => ?_)
    refine pc_ob (fun r61 e_6 => ?_)
    refine pc_gd (fun c_7 => ?_)
    refine pc_cv (k_fX3_end N g r61 u6 d59 hS z_5) (fun d63 z_8 => ?_)
    refine pc_cv (k_fX1_send N g x0 (-1) d63 hS z_8) (fun d65 z_9 => ?_)
    exact pc_some z_9
  · refine pc_if (fun _ => ?_) (fun _ => ?_)
    · refine pc_cb (k_fX4_keyAt N g r2 1 d4 hS z_4) (fun u43 d41 z_10 => ?_)
      refine pc_cv (k_fX4_drop N g r2 1 d41 hS z_10) (fun d44 z_11 => ?_)
      refine pc_cv (k_fX4_drop N g r2 0 d44 hS z_11) (fun d46 z_12 => ?_)
      refine pc_ob (fun r48 e_13 => ?_)
      refine pc_gd (fun c_14 => ?_)
      refine pc_cb (k_fX0_chordOf N g r48 u6 d46 hS z_12) (fun u52 d50 z_15 => ?_)
      refine pc_cb (k_fX0_chordDeed N g r48 u52 d50 hS z_15) (fun u55 d53 z_16 => ?_)
      refine pc_gd (fun c_17 => ?_)
      refine pc_cv (k_fX1_perform N g x0 u6 u43 (dI d53 u55 0) (dI d53 u55 1) d53 hS z_16) (fun d57 z_18 => ?_)
      exact pc_some z_18
    · refine pc_ob (fun r9 e_19 => ?_)
      refine pc_cb (k_fX1_activeLayers N g x0 d4 hS z_4) (fun u12 d10 z_20 => ?_)
      refine pc_gd (fun c_21 => ?_)
      refine pc_cb (k_fX0_deedIn N g r9 u12 u6 d10 hS z_20) (fun u16 d14 z_22 => ?_)
      refine pc_cv (k_fX4_drop N g r2 0 d14 hS z_22) (fun d17 z_23 => ?_)
      refine pc_if (fun _ => ?_) (fun _ => ?_)
      · refine pc_gd (fun c_24 => ?_)
        refine pc_if (fun _ => ?_) (fun _ => ?_)
        · exact k_fX1_workOff_J143 N g x0 x1 u16 2 (-1) u6 x0 d17 hS z_23
        · exact k_fX1_workOff_J143 N g x0 x1 u16 1 (-1) u6 x0 d17 hS z_23
      · refine pc_if (fun _ => ?_) (fun _ => ?_)
        · refine pc_cv (k_fX4_dropNext N g r2 u6 0 d17 hS z_23) (fun d28 z_25 => ?_)
          refine pc_cv (k_fX4_dropNext N g r2 u6 1 d28 hS z_25) (fun d30 z_26 => ?_)
          refine pc_gd (fun c_27 => ?_)
          refine pc_cv (k_fX1_perform N g x0 u6 (-1) 0 (dI d30 u16 2) d30 hS z_26) (fun d33 z_28 => ?_)
          exact k_fX1_workOff_J224 N g x0 x1 d33 hS z_28
        · refine pc_if (fun _ => ?_) (fun _ => ?_)
          · refine pc_gd (fun c_29 => ?_)
            refine pc_cv (k_fX1_perform N g x0 u6 (-1) (dI d17 u16 0) (dI d17 u16 1) d17 hS z_23) (fun d26 z_30 => ?_)
            exact k_fX1_workOff_J224 N g x0 x1 d26 hS z_30
          · refine pc_gd (fun c_31 => ?_)
            refine pc_cv (k_fX1_perform N g x0 u6 (-1) 0 (dI d17 u16 1) d17 hS z_23) (fun d23 z_32 => ?_)
            exact k_fX1_workOff_J224 N g x0 x1 d23 hS z_32
theorem k_fX1_passTick_B104 (N : Nat) (g : Gs) (x0 : Nat) (K104 : Int32 × Ds → Option (Unit × Ds)) (y1 : Int32) (d : Ds) (hS : Shp g) (hZ : KL d) (hK104 : ∀ a, KL a.2 → pc (K104 a) (fun _ d1 => KL d1)) : pc (fX1_passTick_B104 N g x0 K104 y1 d) (fun _ d1 => KL d1) := by
  unfold fX1_passTick_B104
  refine pc_if (fun _ => ?_) (fun _ => ?_)
  · exact k_fX1_passTick_J131 N g x0 d hS hZ
  · refine pc_gd (fun c_1 => ?_)
    refine pc_cb (k_fX1_fateOfFirst N g x0 d hS hZ) (fun u25 d23 z_2 => ?_)
    refine pc_if (fun _ => ?_) (fun _ => ?_)
    · exact k_fX1_passTick_J131 N g x0 d23 hS z_2
    · refine pc_cv (k_fX1_workOff N g x0 u25 d23 hS z_2) (fun d27 z_3 => ?_)
      refine pc_bd (fun u29 e_4 => ?_)
      exact hK104 _ z_3
theorem k_fX1_passTick_L104 (N : Nat) (g : Gs) (x0 : Nat) (hS : Shp g) (a0 : Int32) (a1 : Ds) (hZ : KL a1) : pc (fX1_passTick_L104 N g x0 (a0, a1)) (fun _ d1 => KL d1) := by
  unfold fX1_passTick_L104
  refine pc_lp (fun a => KL a.2) ?_ N (a0, a1) hZ
  rintro K ⟨a0, a1⟩ hZ hK
  exact k_fX1_passTick_B104 N g x0 K a0 a1 hS hZ hK
theorem k_fX1_passTick_J96 (N : Nat) (g : Gs) (x0 : Nat) (d : Ds) (hS : Shp g) (hZ : KL d) : pc (fX1_passTick_J96 N g x0 d) (fun _ d1 => KL d1) := by
  unfold fX1_passTick_J96
  refine pc_gd (fun c_1 => ?_)
  refine pc_ob (fun r11 e_2 => ?_)
  refine pc_gd (fun c_3 => ?_)
  refine pc_bd (fun u13 e_4 => ?_)
  exact k_fX1_passTick_L104 N g x0 hS u13 d hZ
theorem k_fX6_weighSteady_J34 (N : Nat) (g : Gs) (x0 : Nat) (x1 : Int32) (z0 : UInt32) (z1 : Int32) (z2 : Nat) (d : Ds) (hS : Shp g) (hZ : KL d) : pc (fX6_weighSteady_J34 N g x0 x1 z0 z1 z2 d) (fun _ d1 => KL d1) := by
  unfold fX6_weighSteady_J34
  refine pc_gd (fun c_1 => ?_)
  refine pc_gd (fun c_2 => ?_)
  refine pc_bd (fun d13 e_3 => ?_)
  have z_4 := KL.f hZ e_3
  exact pc_some z_4
theorem k_fX6_weighSteady (N : Nat) (g : Gs) (x0 : Nat) (x1 : Int32) (d : Ds) (hS : Shp g) (hZ : KL d) : pc (fX6_weighSteady N g x0 x1 d) (fun _ d1 => KL d1) := by
  unfold fX6_weighSteady
  refine pc_gd (fun c_1 => ?_)
  refine pc_ob (fun r2 e_2 => ?_)
  refine pc_gd (fun c_3 => ?_)
  refine pc_gd (fun c_4 => ?_)
  refine pc_gd (fun c_5 => ?_)
  refine pc_bd (fun u6 e_6 => ?_)
  refine pc_cb (k_fX11_isIn N g (dI d x0 1) x1 d hS hZ) (fun u9 d7 z_7 => ?_)
  refine pc_if (fun _ => ?_) (fun _ => ?_)
  · exact k_fX6_weighSteady_J34 N g x0 x1 u6 x1 r2 d7 hS z_7
  · refine pc_gd (fun c_8 => ?_)
    refine pc_bd (fun u15 e_9 => ?_)
    exact k_fX6_weighSteady_J34 N g x0 x1 u15 x1 r2 d7 hS z_7
theorem k_fX6_changes_J57 (N : Nat) (g : Gs) (x0 : Nat) (x1 : Int32) (x2 : Int32) (z0 : Int32) (z1 : Int32) (z2 : Nat) (d : Ds) (hS : Shp g) (hZ : KL d) : pc (fX6_changes_J57 N g x0 x1 x2 z0 z1 z2 d) (fun _ d1 => KL d1) := by
  unfold fX6_changes_J57
  refine pc_gd (fun c_1 => ?_)
  refine pc_gd (fun c_2 => ?_)
  refine pc_bd (fun d11 e_3 => ?_)
  have z_4 := KL.i hZ e_3
  refine pc_gd (fun c_5 => ?_)
  refine pc_ob (fun r13 e_6 => ?_)
  refine pc_gd (fun c_7 => ?_)
  refine pc_gd (fun c_8 => ?_)
  refine pc_if (fun _ => ?_) (fun _ => ?_)
  · refine pc_bd (fun d17 e_9 => ?_)
    have z_10 := KL.i z_4 e_9
    exact pc_some z_10
  · exact pc_some z_4
theorem k_fX6_changes_J35 (N : Nat) (g : Gs) (x0 : Nat) (x1 : Int32) (x2 : Int32) (z0 : Int32) (d : Ds) (hS : Shp g) (hZ : KL d) : pc (fX6_changes_J35 N g x0 x1 x2 z0 d) (fun _ d1 => KL d1) := by
  unfold fX6_changes_J35
  refine pc_gd (fun c_1 => ?_)
  refine pc_ob (fun r7 e_2 => ?_)
  refine pc_if (fun _ => ?_) (fun _ => ?_)
  · exact k_fX6_changes_J57 N g x0 x1 x2 0 x1 r7 d hS hZ
  · refine pc_gd (fun c_3 => ?_)
    refine pc_gd (fun c_4 => ?_)
    exact k_fX6_changes_J57 N g x0 x1 x2 ((dI d r7 x1.toNatClampNeg) + 1) x1 r7 d hS hZ
theorem k_fX6_changes_J34 (N : Nat) (g : Gs) (x0 : Nat) (x1 : Int32) (x2 : Int32) (d : Ds) (hS : Shp g) (hZ : KL d) : pc (fX6_changes_J34 N g x0 x1 x2 d) (fun _ d1 => KL d1) := by
  unfold fX6_changes_J34
  exact k_fX6_changes_J35 N g x0 x1 x2 0 d hS hZ
theorem k_fX6_changes (N : Nat) (g : Gs) (x0 : Nat) (x1 : Int32) (x2 : Int32) (d : Ds) (hS : Shp g) (hZ : KL d) : pc (fX6_changes N g x0 x1 x2 d) (fun _ d1 => KL d1) := by
  unfold fX6_changes
  refine pc_gd (fun c_1 => ?_)
  refine pc_cb (k_fX11_isIn N g (dI d x0 2) x1 d hS hZ) (fun u4 d2 z_2 => ?_)
  refine pc_if (fun _ => ?_) (fun _ => ?_)
  · refine pc_cb (k_fX11_isIn N g (dI d2 x0 1) x1 d2 hS z_2) (fun u22 d20 z_3 => ?_)
    refine pc_cb (k_fX11_isIn N g (dI d20 x0 3) x1 d20 hS z_3) (fun u25 d23 z_4 => ?_)
    refine pc_if (fun _ => ?_) (fun _ => ?_)
    · exact k_fX6_changes_J34 N g x0 x1 x2 d23 hS z_4
    · exact k_fX6_changes_J35 N g x0 x1 x2 1 d23 hS z_4
  · exact k_fX6_changes_J34 N g x0 x1 x2 d2 hS z_2
theorem k_fX1_passTick_J90 (N : Nat) (g : Gs) (x0 : Nat) (K12 : Int32 × Ds → Option (Unit × Ds)) (y1 : Int32) (d : Ds) (hS : Shp g) (hZ : KL d) (hK12 : ∀ a, KL a.2 → pc (K12 a) (fun _ d1 => KL d1)) : pc (fX1_passTick_J90 N g x0 K12 y1 d) (fun _ d1 => KL d1) := by
  unfold fX1_passTick_J90
  refine pc_bd (fun u39 e_1 => ?_)
  exact hK12 _ hZ
theorem k_fX6_change_J59 (N : Nat) (g : Gs) (x0 : Nat) (x1 : Int32) (x2 : Int32) (d : Ds) (hS : Shp g) (hZ : KL d) : pc (fX6_change_J59 N g x0 x1 x2 d) (fun _ d1 => KL d1) := by
  unfold fX6_change_J59
  refine pc_gd (fun c_1 => ?_)
  refine pc_ob (fun r15 e_2 => ?_)
  refine pc_gd (fun c_3 => ?_)
  refine pc_gd (fun c_4 => ?_)
  refine pc_bd (fun d18 e_5 => ?_)
  have z_6 := KL.i hZ e_5
  exact pc_some z_6
theorem k_fX6_change (N : Nat) (g : Gs) (x0 : Nat) (x1 : Int32) (x2 : Int32) (d : Ds) (hS : Shp g) (hZ : KL d) : pc (fX6_change N g x0 x1 x2 d) (fun _ d1 => KL d1) := by
  unfold fX6_change
  refine pc_gd (fun c_1 => ?_)
  refine pc_bd (fun d2 e_2 => ?_)
  have z_3 := KL.i hZ e_2
  refine pc_cb (k_fX11_isIn N g (dI d2 x0 3) x1 d2 hS z_3) (fun u5 d3 z_4 => ?_)
  refine pc_if (fun _ => ?_) (fun _ => ?_)
  · refine pc_ob (fun r7 e_5 => ?_)
    refine pc_gd (fun c_6 => ?_)
    refine pc_gd (fun c_7 => ?_)
    refine pc_ob (fun r10 e_8 => ?_)
    refine pc_gd (fun c_9 => ?_)
    refine pc_gd (fun c_10 => ?_)
    refine pc_bd (fun d13 e_11 => ?_)
    have z_12 := KL.i z_4 e_11
    exact k_fX6_change_J59 N g x0 x1 x2 d13 hS z_12
  · refine pc_ob (fun r19 e_13 => ?_)
    refine pc_gd (fun c_14 => ?_)
    refine pc_gd (fun c_15 => ?_)
    refine pc_bd (fun d22 e_16 => ?_)
    have z_17 := KL.i z_4 e_16
    exact k_fX6_change_J59 N g x0 x1 x2 d22 hS z_17
theorem k_fX4_add_J57 (N : Nat) (g : Gs) (x0 : Nat) (x1 : Int32) (x2 : Int32) (x3 : Int32) (d : Ds) (hS : Shp g) (hZ : KL d) : pc (fX4_add_J57 N g x0 x1 x2 x3 d) (fun _ d1 => KL d1) := by
  unfold fX4_add_J57
  exact pc_some hZ
theorem k_fX4_add_J35 (N : Nat) (g : Gs) (x0 : Nat) (x1 : Int32) (x2 : Int32) (x3 : Int32) (z0 : Int32) (z1 : Int32) (z2 : Int32) (z3 : Nat) (d : Ds) (hS : Shp g) (hZ : KL d) : pc (fX4_add_J35 N g x0 x1 x2 x3 z0 z1 z2 z3 d) (fun _ d1 => KL d1) := by
  unfold fX4_add_J35
  refine pc_gd (fun c_1 => ?_)
  refine pc_gd (fun c_2 => ?_)
  refine pc_bd (fun d7 e_3 => ?_)
  have z_4 := KL.i hZ e_3
  refine pc_gd (fun c_5 => ?_)
  refine pc_bd (fun d9 e_6 => ?_)
  have z_7 := KL.i z_4 e_6
  refine pc_bd (fun d10 e_8 => ?_)
  have z_9 := KL.i z_7 e_8
  exact k_fX4_add_J57 N g x0 x1 x2 x3 d10 hS z_9
theorem k_fX4_add (N : Nat) (g : Gs) (x0 : Nat) (x1 : Int32) (x2 : Int32) (x3 : Int32) (d : Ds) (hS : Shp g) (hZ : KL d) : pc (fX4_add N g x0 x1 x2 x3 d) (fun _ d1 => KL d1) := by
  unfold fX4_add
  refine pc_gd (fun c_1 => ?_)
  refine pc_if (fun _ => ?_) (fun _ => ?_)
  · exact k_fX4_add_J57 N g x0 x1 x2 x3 d hS hZ
  · refine pc_ob (fun r3 e_2 => ?_)
    refine pc_if (fun _ => ?_) (fun _ => ?_)
    · exact k_fX4_add_J35 N g x0 x1 x2 x3 0 ((x3 * 64) + (x1 * 2)) (dI d x0 1) r3 d hS hZ
    · exact k_fX4_add_J35 N g x0 x1 x2 x3 1 ((x3 * 64) + (x1 * 2)) (dI d x0 1) r3 d hS hZ
theorem k_fX1_passTick_B12 (N : Nat) (g : Gs) (x0 : Nat) (K12 : Int32 × Ds → Option (Unit × Ds)) (y1 : Int32) (d : Ds) (hS : Shp g) (hZ : KL d) (hK12 : ∀ a, KL a.2 → pc (K12 a) (fun _ d1 => KL d1)) : pc (fX1_passTick_B12 N g x0 K12 y1 d) (fun _ d1 => KL d1) := by
  unfold fX1_passTick_B12
  refine pc_gd (fun c_1 => ?_)
  refine pc_ob (fun r4 e_2 => ?_)
  refine pc_gd (fun c_3 => ?_)
  refine pc_cb (k_fX0_hasKey N g r4 y1 d hS hZ) (fun u8 d6 z_4 => ?_)
  refine pc_if (fun _ => ?_) (fun _ => ?_)
  · exact k_fX1_passTick_J96 N g x0 d6 hS z_4
  · refine pc_if (fun _ => ?_) (fun _ => ?_)
    · exact k_fX1_passTick_J96 N g x0 d6 hS z_4
    · refine pc_ob (fun r31 e_5 => ?_)
      refine pc_gd (fun c_6 => ?_)
      refine pc_cv (k_fX6_weighSteady N g r31 y1 d6 hS z_4) (fun d33 z_7 => ?_)
      refine pc_cb (k_fX6_changes N g r31 y1 (dI d33 r4 4) d33 hS z_7) (fun u37 d35 z_8 => ?_)
      refine pc_if (fun _ => ?_) (fun _ => ?_)
      · exact k_fX1_passTick_J90 N g x0 K12 y1 d35 hS z_8 hK12
      · refine pc_cv (k_fX6_change N g r31 y1 (dI d35 x0 5) d35 hS z_8) (fun d40 z_9 => ?_)
        refine pc_ob (fun r42 e_10 => ?_)
        refine pc_cb (k_fX11_isIn N g (dI d40 r31 3) y1 d40 hS z_9) (fun u45 d43 z_11 => ?_)
        refine pc_gd (fun c_12 => ?_)
        refine pc_cv (k_fX4_add N g r42 y1 u45 (dI d43 x0 5) d43 hS z_11) (fun d47 z_13 => ?_)
        exact k_fX1_passTick_J90 N g x0 K12 y1 d47 hS z_13 hK12
theorem k_fX1_passTick_L12 (N : Nat) (g : Gs) (x0 : Nat) (hS : Shp g) (a0 : Int32) (a1 : Ds) (hZ : KL a1) : pc (fX1_passTick_L12 N g x0 (a0, a1)) (fun _ d1 => KL d1) := by
  unfold fX1_passTick_L12
  refine pc_lp (fun a => KL a.2) ?_ N (a0, a1) hZ
  rintro K ⟨a0, a1⟩ hZ hK
  exact k_fX1_passTick_B12 N g x0 K a0 a1 hS hZ hK
theorem k_fX1_passTick (N : Nat) (g : Gs) (x0 : Nat) (d : Ds) (hS : Shp g) (hZ : KL d) : pc (fX1_passTick N g x0 d) (fun _ d1 => KL d1) := by
  unfold fX1_passTick
  refine pc_gd (fun c_1 => ?_)
  refine pc_bd (fun d2 e_2 => ?_)
  have z_3 := KL.i hZ e_2
  exact k_fX1_passTick_L12 N g x0 hS 0 d2 z_3
theorem k_fX11_tick_B36 (N : Nat) (g : Gs) (x0 : Nat) (x1 : Int32) (K36 : Int32 × Int32 × Ds → Option (Int32 × Ds)) (y2 : Int32) (y3 : Int32) (d : Ds) (hS : Shp g) (hZ : KL d) (hK36 : ∀ a, KL a.2.2 → pc (K36 a) (fun _ d1 => KL d1)) : pc (fX11_tick_B36 N g x0 x1 K36 y2 y3 d) (fun _ d1 => KL d1) := by
  unfold fX11_tick_B36
  refine pc_if (fun _ => ?_) (fun _ => ?_)
  · refine pc_gd (fun c_1 => ?_)
    refine pc_ob (fun r17 e_2 => ?_)
    refine pc_gd (fun c_3 => ?_)
    refine pc_ob (fun r19 e_4 => ?_)
    refine pc_gd (fun c_5 => ?_)
    exact pc_some hZ
  · refine pc_gd (fun c_6 => ?_)
    refine pc_ob (fun r22 e_7 => ?_)
    refine pc_gd (fun c_8 => ?_)
    refine pc_cv (k_fX1_passTick N g r22 d hS hZ) (fun d24 z_9 => ?_)
    refine pc_bd (fun u26 e_10 => ?_)
    exact hK36 _ z_9
theorem k_fX11_tick_L36 (N : Nat) (g : Gs) (x0 : Nat) (x1 : Int32) (hS : Shp g) (a0 : Int32) (a1 : Int32) (a2 : Ds) (hZ : KL a2) : pc (fX11_tick_L36 N g x0 x1 (a0, a1, a2)) (fun _ d1 => KL d1) := by
  unfold fX11_tick_L36
  refine pc_lp (fun a => KL a.2.2) ?_ N (a0, a1, a2) hZ
  rintro K ⟨a0, a1, a2⟩ hZ hK
  exact k_fX11_tick_B36 N g x0 x1 K a0 a1 a2 hS hZ hK
theorem k_fX11_tick (N : Nat) (g : Gs) (x0 : Nat) (x1 : Int32) (d : Ds) (hS : Shp g) (hZ : KL d) : pc (fX11_tick N g x0 x1 d) (fun _ d1 => KL d1) := by
  unfold fX11_tick
  refine pc_if (fun _ => ?_) (fun _ => ?_)
  · exact k_fX11_tick_J21 N g x0 x1 d hS hZ
  · refine pc_if (fun _ => ?_) (fun _ => ?_)
    · exact k_fX11_tick_J21 N g x0 x1 d hS hZ
    · refine pc_gd (fun c_1 => ?_)
      refine pc_ob (fun r4 e_2 => ?_)
      refine pc_gd (fun c_3 => ?_)
      refine pc_cb (k_fX0_keys N g r4 d hS hZ) (fun u8 d6 z_4 => ?_)
      refine pc_if (fun _ => ?_) (fun _ => ?_)
      · exact k_fX11_tick_J21 N g x0 x1 d6 hS z_4
      · refine pc_ob (fun r10 e_5 => ?_)
        refine pc_gd (fun c_6 => ?_)
        refine pc_ob (fun r12 e_7 => ?_)
        refine pc_gd (fun c_8 => ?_)
        refine pc_bd (fun u14 e_9 => ?_)
        exact k_fX11_tick_L36 N g x0 x1 hS u14 0 d6 z_4
theorem k_fX11_bitOf (N : Nat) (g : Gs) (x0 : Int32) (x1 : Int32) (d : Ds) (hS : Shp g) (hZ : KL d) : pc (fX11_bitOf N g x0 x1 d) (fun _ d1 => KL d1) := by
  unfold fX11_bitOf
  exact pc_some hZ
theorem k_fX11_floatBits_J26 (N : Nat) (g : Gs) (x0 : UInt32) (y1 : UInt32) (y2 : Int32) (d : Ds) (hS : Shp g) (hZ : KL d) : pc (fX11_floatBits_J26 N g x0 y1 y2 d) (fun _ d1 => KL d1) := by
  unfold fX11_floatBits_J26
  refine pc_if (fun _ => ?_) (fun _ => ?_)
  · refine pc_gd (fun c_1 => ?_)
    refine pc_bd (fun u4 e_2 => ?_)
    refine pc_gd (fun c_3 => ?_)
    refine pc_bd (fun u6 e_4 => ?_)
    exact pc_some hZ
  · refine pc_gd (fun c_5 => ?_)
    refine pc_bd (fun u8 e_6 => ?_)
    exact pc_some hZ
theorem k_fX11_floatBits_B5 (N : Nat) (g : Gs) (x0 : UInt32) (K5 : UInt32 × Int32 × Ds → Option (Int32 × Ds)) (y1 : UInt32) (y2 : Int32) (d : Ds) (hS : Shp g) (hZ : KL d) (hK5 : ∀ a, KL a.2.2 → pc (K5 a) (fun _ d1 => KL d1)) : pc (fX11_floatBits_B5 N g x0 K5 y1 y2 d) (fun _ d1 => KL d1) := by
  unfold fX11_floatBits_B5
  refine pc_if (fun _ => ?_) (fun _ => ?_)
  · exact k_fX11_floatBits_J26 N g x0 y1 y2 d hS hZ
  · refine pc_if (fun _ => ?_) (fun _ => ?_)
    · exact k_fX11_floatBits_J26 N g x0 y1 y2 d hS hZ
    · refine pc_gd (fun c_1 => ?_)
      refine pc_bd (fun u11 e_2 => ?_)
      refine pc_bd (fun u12 e_3 => ?_)
      exact hK5 _ hZ
theorem k_fX11_floatBits_L5 (N : Nat) (g : Gs) (x0 : UInt32) (hS : Shp g) (a0 : UInt32) (a1 : Int32) (a2 : Ds) (hZ : KL a2) : pc (fX11_floatBits_L5 N g x0 (a0, a1, a2)) (fun _ d1 => KL d1) := by
  unfold fX11_floatBits_L5
  refine pc_lp (fun a => KL a.2.2) ?_ N (a0, a1, a2) hZ
  rintro K ⟨a0, a1, a2⟩ hZ hK
  exact k_fX11_floatBits_B5 N g x0 K a0 a1 a2 hS hZ hK
theorem k_fX11_floatBits (N : Nat) (g : Gs) (x0 : UInt32) (d : Ds) (hS : Shp g) (hZ : KL d) : pc (fX11_floatBits N g x0 d) (fun _ d1 => KL d1) := by
  unfold fX11_floatBits
  exact k_fX11_floatBits_L5 N g x0 hS x0 127 d hZ
theorem k_fX11_key (N : Nat) (g : Gs) (x0 : Nat) (x1 : Int32) (x2 : Int32) (d : Ds) (hS : Shp g) (hZ : KL d) : pc (fX11_key N g x0 x1 x2 d) (fun _ d1 => KL d1) := by
  unfold fX11_key
  refine pc_gd (fun c_1 => ?_)
  refine pc_ob (fun r2 e_2 => ?_)
  refine pc_gd (fun c_3 => ?_)
  refine pc_cb (k_fX0_hasKey N g r2 x1 d hS hZ) (fun u6 d4 z_4 => ?_)
  refine pc_if (fun _ => ?_) (fun _ => ?_)
  · exact pc_some z_4
  · refine pc_ob (fun r8 e_5 => ?_)
    refine pc_gd (fun c_6 => ?_)
    refine pc_ob (fun r10 e_7 => ?_)
    refine pc_if (fun _ => ?_) (fun _ => ?_)
    · exact pc_some z_4
    · refine pc_if (fun _ => ?_) (fun _ => ?_)
      · refine pc_gd (fun c_8 => ?_)
        refine pc_cb (k_fX11_bitOf N g (dI d4 r10 0) x1 d4 hS z_4) (fun u16 d14 z_9 => ?_)
        exact pc_some z_9
      · refine pc_if (fun _ => ?_) (fun _ => ?_)
        · refine pc_gd (fun c_10 => ?_)
          refine pc_cb (k_fX11_bitOf N g (dI d4 r10 1) x1 d4 hS z_4) (fun u21 d19 z_11 => ?_)
          exact pc_some z_11
        · refine pc_if (fun _ => ?_) (fun _ => ?_)
          · refine pc_gd (fun c_12 => ?_)
            refine pc_cb (k_fX11_bitOf N g (dI d4 r10 2) x1 d4 hS z_4) (fun u26 d24 z_13 => ?_)
            exact pc_some z_13
          · refine pc_if (fun _ => ?_) (fun _ => ?_)
            · refine pc_gd (fun c_14 => ?_)
              refine pc_cb (k_fX11_bitOf N g (dI d4 r10 3) x1 d4 hS z_4) (fun u31 d29 z_15 => ?_)
              exact pc_some z_15
            · refine pc_if (fun _ => ?_) (fun _ => ?_)
              · refine pc_gd (fun c_16 => ?_)
                refine pc_ob (fun r34 e_17 => ?_)
                refine pc_gd (fun c_18 => ?_)
                refine pc_gd (fun c_19 => ?_)
                exact pc_some z_4
              · refine pc_if (fun _ => ?_) (fun _ => ?_)
                · refine pc_gd (fun c_20 => ?_)
                  refine pc_ob (fun r39 e_21 => ?_)
                  refine pc_gd (fun c_22 => ?_)
                  refine pc_gd (fun c_23 => ?_)
                  refine pc_cb (k_fX11_floatBits N g (dF d4 r39 x1.toNatClampNeg) d4 hS z_4) (fun u44 d42 z_24 => ?_)
                  exact pc_some z_24
                · exact pc_none
theorem k_fX11_deed_J45 (N : Nat) (g : Gs) (x0 : Nat) (x1 : Int32) (x2 : Int32) (x3 : Int32) (z0 : Option Nat) (d : Ds) (hS : Shp g) (hZ : KL d) : pc (fX11_deed_J45 N g x0 x1 x2 x3 z0 d) (fun _ d1 => KL d1) := by
  unfold fX11_deed_J45
  refine pc_if (fun _ => ?_) (fun _ => ?_)
  · exact pc_some hZ
  · refine pc_if (fun _ => ?_) (fun _ => ?_)
    · exact pc_some hZ
    · refine pc_if (fun _ => ?_) (fun _ => ?_)
      · refine pc_ob (fun r15 e_1 => ?_)
        refine pc_gd (fun c_2 => ?_)
        exact pc_some hZ
      · refine pc_if (fun _ => ?_) (fun _ => ?_)
        · refine pc_ob (fun r18 e_3 => ?_)
          refine pc_gd (fun c_4 => ?_)
          exact pc_some hZ
        · refine pc_if (fun _ => ?_) (fun _ => ?_)
          · refine pc_ob (fun r21 e_5 => ?_)
            refine pc_gd (fun c_6 => ?_)
            exact pc_some hZ
          · exact pc_none
theorem k_fX11_deed (N : Nat) (g : Gs) (x0 : Nat) (x1 : Int32) (x2 : Int32) (x3 : Int32) (d : Ds) (hS : Shp g) (hZ : KL d) : pc (fX11_deed N g x0 x1 x2 x3 d) (fun _ d1 => KL d1) := by
  unfold fX11_deed
  refine pc_gd (fun c_1 => ?_)
  refine pc_ob (fun r2 e_2 => ?_)
  refine pc_gd (fun c_3 => ?_)
  refine pc_cb (k_fX0_hasKey N g r2 x2 d hS hZ) (fun u6 d4 z_4 => ?_)
  refine pc_if (fun _ => ?_) (fun _ => ?_)
  · exact pc_some z_4
  · refine pc_if (fun _ => ?_) (fun _ => ?_)
    · refine pc_ob (fun r23 e_5 => ?_)
      refine pc_gd (fun c_6 => ?_)
      refine pc_cb (k_fX1_activeLayers N g r23 d4 hS z_4) (fun u27 d25 z_7 => ?_)
      refine pc_cb (k_fX0_deedIn N g r2 u27 x2 d25 hS z_7) (fun u30 d28 z_8 => ?_)
      exact k_fX11_deed_J45 N g x0 x1 x2 x3 (some u30) d28 hS z_8
    · refine pc_cb (k_fX0_toldDeed N g r2 x1 x2 d4 hS z_4) (fun u11 d9 z_9 => ?_)
      exact k_fX11_deed_J45 N g x0 x1 x2 x3 u11 d9 hS z_9
theorem k_fX11_does (N : Nat) (g : Gs) (x0 : Nat) (x1 : Int32) (x2 : Int32) (d : Ds) (hS : Shp g) (hZ : KL d) : pc (fX11_does N g x0 x1 x2 d) (fun _ d1 => KL d1) := by
  unfold fX11_does
  refine pc_gd (fun c_1 => ?_)
  refine pc_ob (fun r2 e_2 => ?_)
  refine pc_gd (fun c_3 => ?_)
  refine pc_cb (k_fX0_hasKey N g r2 x1 d hS hZ) (fun u6 d4 z_4 => ?_)
  refine pc_if (fun _ => ?_) (fun _ => ?_)
  · exact pc_some z_4
  · refine pc_if (fun _ => ?_) (fun _ => ?_)
    · refine pc_ob (fun r9 e_5 => ?_)
      refine pc_gd (fun c_6 => ?_)
      refine pc_ob (fun r11 e_7 => ?_)
      refine pc_gd (fun c_8 => ?_)
      refine pc_ob (fun r13 e_9 => ?_)
      refine pc_gd (fun c_10 => ?_)
      refine pc_gd (fun c_11 => ?_)
      exact pc_some z_4
    · refine pc_if (fun _ => ?_) (fun _ => ?_)
      · refine pc_ob (fun r17 e_12 => ?_)
        refine pc_gd (fun c_13 => ?_)
        refine pc_ob (fun r19 e_14 => ?_)
        refine pc_gd (fun c_15 => ?_)
        refine pc_ob (fun r21 e_16 => ?_)
        refine pc_gd (fun c_17 => ?_)
        refine pc_gd (fun c_18 => ?_)
        exact pc_some z_4
      · exact pc_some z_4
theorem k_fX11_event_J30 (N : Nat) (g : Gs) (x0 : Nat) (x1 : Int32) (x2 : Int32) (d : Ds) (hS : Shp g) (hZ : KL d) : pc (fX11_event_J30 N g x0 x1 x2 d) (fun _ d1 => KL d1) := by
  unfold fX11_event_J30
  exact pc_some hZ
theorem k_fX11_event_J79 (N : Nat) (g : Gs) (x0 : Nat) (x1 : Int32) (x2 : Int32) (z0 : Int32) (d : Ds) (hS : Shp g) (hZ : KL d) : pc (fX11_event_J79 N g x0 x1 x2 z0 d) (fun _ d1 => KL d1) := by
  unfold fX11_event_J79
  exact pc_some hZ
theorem k_fX11_event (N : Nat) (g : Gs) (x0 : Nat) (x1 : Int32) (x2 : Int32) (d : Ds) (hS : Shp g) (hZ : KL d) : pc (fX11_event N g x0 x1 x2 d) (fun _ d1 => KL d1) := by
  unfold fX11_event
  refine pc_gd (fun c_1 => ?_)
  refine pc_ob (fun r2 e_2 => ?_)
  refine pc_gd (fun c_3 => ?_)
  refine pc_ob (fun r4 e_4 => ?_)
  refine pc_if (fun _ => ?_) (fun _ => ?_)
  · refine pc_gd (fun c_5 => ?_)
    exact pc_some hZ
  · refine pc_if (fun _ => ?_) (fun _ => ?_)
    · exact k_fX11_event_J30 N g x0 x1 x2 d hS hZ
    · refine pc_gd (fun c_6 => ?_)
      refine pc_if (fun _ => ?_) (fun _ => ?_)
      · refine pc_if (fun _ => ?_) (fun _ => ?_)
        · exact pc_some hZ
        · refine pc_if (fun _ => ?_) (fun _ => ?_)
          · refine pc_cb (k_fX4_keyAt N g r4 x1 d hS hZ) (fun u13 d11 z_7 => ?_)
            exact pc_some z_7
          · refine pc_if (fun _ => ?_) (fun _ => ?_)
            · refine pc_cb (k_fX4_isDownAt N g r4 x1 d hS hZ) (fun u17 d15 z_8 => ?_)
              refine pc_if (fun _ => ?_) (fun _ => ?_)
              · exact k_fX11_event_J79 N g x0 x1 x2 0 d15 hS z_8
              · exact k_fX11_event_J79 N g x0 x1 x2 1 d15 hS z_8
            · refine pc_if (fun _ => ?_) (fun _ => ?_)
              · refine pc_cb (k_fX4_tickAt N g r4 x1 d hS hZ) (fun u22 d20 z_9 => ?_)
                exact pc_some z_9
              · exact pc_none
      · exact k_fX11_event_J30 N g x0 x1 x2 d hS hZ
theorem k_fX11_report_J91 (N : Nat) (g : Gs) (x0 : Nat) (x1 : Int32) (x2 : Int32) (z0 : Int32) (z1 : Int32) (z2 : Nat) (d : Ds) (hS : Shp g) (hZ : KL d) : pc (fX11_report_J91 N g x0 x1 x2 z0 z1 z2 d) (fun _ d1 => KL d1) := by
  unfold fX11_report_J91
  refine pc_gd (fun c_1 => ?_)
  refine pc_cb (k_fX5_codeAt N g z2 z1 z0 d hS hZ) (fun u15 d13 z_2 => ?_)
  exact pc_some z_2
theorem k_fX11_report (N : Nat) (g : Gs) (x0 : Nat) (x1 : Int32) (x2 : Int32) (d : Ds) (hS : Shp g) (hZ : KL d) : pc (fX11_report N g x0 x1 x2 d) (fun _ d1 => KL d1) := by
  unfold fX11_report
  refine pc_gd (fun c_1 => ?_)
  refine pc_ob (fun r2 e_2 => ?_)
  refine pc_gd (fun c_3 => ?_)
  refine pc_ob (fun r4 e_4 => ?_)
  refine pc_gd (fun c_5 => ?_)
  refine pc_cb (k_fX5_rowOf N g r4 x1 d hS hZ) (fun u8 d6 z_6 => ?_)
  refine pc_if (fun _ => ?_) (fun _ => ?_)
  · exact pc_some z_6
  · refine pc_if (fun _ => ?_) (fun _ => ?_)
    · refine pc_if (fun _ => ?_) (fun _ => ?_)
      · exact k_fX11_report_J91 N g x0 x1 x2 (x2 - 3) u8 r4 d6 hS z_6
      · exact k_fX11_report_J91 N g x0 x1 x2 (-1) u8 r4 d6 hS z_6
    · refine pc_if (fun _ => ?_) (fun _ => ?_)
      · refine pc_ob (fun r17 e_7 => ?_)
        refine pc_gd (fun c_8 => ?_)
        refine pc_gd (fun c_9 => ?_)
        exact pc_some z_6
      · refine pc_if (fun _ => ?_) (fun _ => ?_)
        · refine pc_ob (fun r21 e_10 => ?_)
          refine pc_gd (fun c_11 => ?_)
          refine pc_gd (fun c_12 => ?_)
          exact pc_some z_6
        · refine pc_if (fun _ => ?_) (fun _ => ?_)
          · refine pc_ob (fun r25 e_13 => ?_)
            refine pc_gd (fun c_14 => ?_)
            refine pc_gd (fun c_15 => ?_)
            exact pc_some z_6
          · exact pc_none
theorem k_fX11_sent_J77 (N : Nat) (g : Gs) (x0 : Nat) (x1 : Int32) (z0 : Int32) (d : Ds) (hS : Shp g) (hZ : KL d) : pc (fX11_sent_J77 N g x0 x1 z0 d) (fun _ d1 => KL d1) := by
  unfold fX11_sent_J77
  exact pc_some hZ
theorem k_fX11_sent_J65 (N : Nat) (g : Gs) (x0 : Nat) (x1 : Int32) (d : Ds) (hS : Shp g) (hZ : KL d) : pc (fX11_sent_J65 N g x0 x1 d) (fun _ d1 => KL d1) := by
  unfold fX11_sent_J65
  exact k_fX11_sent_J77 N g x0 x1 (-1) d hS hZ
theorem k_fX11_sent (N : Nat) (g : Gs) (x0 : Nat) (x1 : Int32) (d : Ds) (hS : Shp g) (hZ : KL d) : pc (fX11_sent N g x0 x1 d) (fun _ d1 => KL d1) := by
  unfold fX11_sent
  refine pc_gd (fun c_1 => ?_)
  refine pc_ob (fun r2 e_2 => ?_)
  refine pc_gd (fun c_3 => ?_)
  refine pc_ob (fun r4 e_4 => ?_)
  refine pc_gd (fun c_5 => ?_)
  refine pc_cv (k_fX3_gather N g r4 (-1) d hS hZ) (fun d6 z_6 => ?_)
  refine pc_if (fun _ => ?_) (fun _ => ?_)
  · exact pc_some z_6
  · refine pc_if (fun _ => ?_) (fun _ => ?_)
    · exact pc_some z_6
    · refine pc_if (fun _ => ?_) (fun _ => ?_)
      · exact k_fX11_sent_J65 N g x0 x1 d6 hS z_6
      · refine pc_if (fun _ => ?_) (fun _ => ?_)
        · refine pc_ob (fun r12 e_7 => ?_)
          refine pc_gd (fun c_8 => ?_)
          refine pc_gd (fun c_9 => ?_)
          exact k_fX11_sent_J77 N g x0 x1 (dI d6 r12 (x1 - 2).toNatClampNeg) d6 hS z_6
        · exact k_fX11_sent_J65 N g x0 x1 d6 hS z_6
theorem k_fX11_host (N : Nat) (g : Gs) (x0 : Nat) (x1 : Int32) (d : Ds) (hS : Shp g) (hZ : KL d) : pc (fX11_host N g x0 x1 d) (fun _ d1 => KL d1) := by
  unfold fX11_host
  refine pc_gd (fun c_1 => ?_)
  refine pc_ob (fun r2 e_2 => ?_)
  refine pc_gd (fun c_3 => ?_)
  refine pc_ob (fun r4 e_4 => ?_)
  refine pc_if (fun _ => ?_) (fun _ => ?_)
  · exact pc_some hZ
  · refine pc_if (fun _ => ?_) (fun _ => ?_)
    · refine pc_gd (fun c_5 => ?_)
      exact pc_some hZ
    · refine pc_if (fun _ => ?_) (fun _ => ?_)
      · refine pc_gd (fun c_6 => ?_)
        exact pc_some hZ
      · refine pc_if (fun _ => ?_) (fun _ => ?_)
        · refine pc_gd (fun c_7 => ?_)
          exact pc_some hZ
        · refine pc_if (fun _ => ?_) (fun _ => ?_)
          · refine pc_gd (fun c_8 => ?_)
            exact pc_some hZ
          · exact pc_none
theorem k_fX11_strokes (N : Nat) (g : Gs) (x0 : Nat) (x1 : Int32) (x2 : Int32) (d : Ds) (hS : Shp g) (hZ : KL d) : pc (fX11_strokes N g x0 x1 x2 d) (fun _ d1 => KL d1) := by
  unfold fX11_strokes
  refine pc_gd (fun c_1 => ?_)
  refine pc_ob (fun r2 e_2 => ?_)
  refine pc_gd (fun c_3 => ?_)
  refine pc_cb (k_fX0_hasKey N g r2 x1 d hS hZ) (fun u6 d4 z_4 => ?_)
  refine pc_if (fun _ => ?_) (fun _ => ?_)
  · exact pc_some z_4
  · refine pc_ob (fun r8 e_5 => ?_)
    refine pc_gd (fun c_6 => ?_)
    refine pc_ob (fun r10 e_7 => ?_)
    refine pc_if (fun _ => ?_) (fun _ => ?_)
    · exact pc_some z_4
    · refine pc_if (fun _ => ?_) (fun _ => ?_)
      · refine pc_gd (fun c_8 => ?_)
        refine pc_ob (fun r14 e_9 => ?_)
        refine pc_gd (fun c_10 => ?_)
        refine pc_gd (fun c_11 => ?_)
        exact pc_some z_4
      · refine pc_if (fun _ => ?_) (fun _ => ?_)
        · refine pc_gd (fun c_12 => ?_)
          refine pc_ob (fun r19 e_13 => ?_)
          refine pc_gd (fun c_14 => ?_)
          refine pc_gd (fun c_15 => ?_)
          exact pc_some z_4
        · refine pc_if (fun _ => ?_) (fun _ => ?_)
          · refine pc_gd (fun c_16 => ?_)
            refine pc_ob (fun r24 e_17 => ?_)
            refine pc_gd (fun c_18 => ?_)
            refine pc_gd (fun c_19 => ?_)
            exact pc_some z_4
          · exact pc_none
theorem k_fX11_chord_J28 (N : Nat) (g : Gs) (x0 : Nat) (x1 : Int32) (x2 : Int32) (d : Ds) (hS : Shp g) (hZ : KL d) : pc (fX11_chord_J28 N g x0 x1 x2 d) (fun _ d1 => KL d1) := by
  unfold fX11_chord_J28
  exact pc_some hZ
theorem k_fX11_chord_J105 (N : Nat) (g : Gs) (x0 : Nat) (x1 : Int32) (x2 : Int32) (z0 : Int32) (d : Ds) (hS : Shp g) (hZ : KL d) : pc (fX11_chord_J105 N g x0 x1 x2 z0 d) (fun _ d1 => KL d1) := by
  unfold fX11_chord_J105
  exact pc_some hZ
theorem k_fX11_chord (N : Nat) (g : Gs) (x0 : Nat) (x1 : Int32) (x2 : Int32) (d : Ds) (hS : Shp g) (hZ : KL d) : pc (fX11_chord N g x0 x1 x2 d) (fun _ d1 => KL d1) := by
  unfold fX11_chord
  refine pc_if (fun _ => ?_) (fun _ => ?_)
  · refine pc_gd (fun c_1 => ?_)
    refine pc_ob (fun r29 e_2 => ?_)
    refine pc_gd (fun c_3 => ?_)
    exact pc_some hZ
  · refine pc_if (fun _ => ?_) (fun _ => ?_)
    · exact k_fX11_chord_J28 N g x0 x1 x2 d hS hZ
    · refine pc_gd (fun c_4 => ?_)
      refine pc_ob (fun r4 e_5 => ?_)
      refine pc_gd (fun c_6 => ?_)
      refine pc_if (fun _ => ?_) (fun _ => ?_)
      · refine pc_if (fun _ => ?_) (fun _ => ?_)
        · exact pc_some hZ
        · refine pc_if (fun _ => ?_) (fun _ => ?_)
          · refine pc_ob (fun r9 e_7 => ?_)
            refine pc_gd (fun c_8 => ?_)
            refine pc_gd (fun c_9 => ?_)
            exact pc_some hZ
          · refine pc_if (fun _ => ?_) (fun _ => ?_)
            · refine pc_ob (fun r13 e_10 => ?_)
              refine pc_gd (fun c_11 => ?_)
              refine pc_gd (fun c_12 => ?_)
              exact pc_some hZ
            · refine pc_if (fun _ => ?_) (fun _ => ?_)
              · refine pc_ob (fun r17 e_13 => ?_)
                refine pc_gd (fun c_14 => ?_)
                refine pc_ob (fun r19 e_15 => ?_)
                refine pc_gd (fun c_16 => ?_)
                refine pc_ob (fun r21 e_17 => ?_)
                refine pc_ob (fun r22 e_18 => ?_)
                refine pc_gd (fun c_19 => ?_)
                refine pc_gd (fun c_20 => ?_)
                refine pc_gd (fun c_21 => ?_)
                refine pc_gd (fun c_22 => ?_)
                refine pc_if (fun _ => ?_) (fun _ => ?_)
                · exact k_fX11_chord_J105 N g x0 x1 x2 0 d hS hZ
                · exact k_fX11_chord_J105 N g x0 x1 x2 1 d hS hZ
              · exact pc_none
      · exact k_fX11_chord_J28 N g x0 x1 x2 d hS hZ
theorem k_fX11_macro_J15 (N : Nat) (g : Gs) (x0 : Nat) (x1 : Int32) (x2 : Int32) (d : Ds) (hS : Shp g) (hZ : KL d) : pc (fX11_macro_J15 N g x0 x1 x2 d) (fun _ d1 => KL d1) := by
  unfold fX11_macro_J15
  exact pc_some hZ
theorem k_fX11_macro_J43 (N : Nat) (g : Gs) (x0 : Nat) (x1 : Int32) (x2 : Int32) (z0 : Int32) (d : Ds) (hS : Shp g) (hZ : KL d) : pc (fX11_macro_J43 N g x0 x1 x2 z0 d) (fun _ d1 => KL d1) := by
  unfold fX11_macro_J43
  exact pc_some hZ
theorem k_fX11_macro (N : Nat) (g : Gs) (x0 : Nat) (x1 : Int32) (x2 : Int32) (d : Ds) (hS : Shp g) (hZ : KL d) : pc (fX11_macro N g x0 x1 x2 d) (fun _ d1 => KL d1) := by
  unfold fX11_macro
  refine pc_if (fun _ => ?_) (fun _ => ?_)
  · exact k_fX11_macro_J15 N g x0 x1 x2 d hS hZ
  · refine pc_gd (fun c_1 => ?_)
    refine pc_ob (fun r3 e_2 => ?_)
    refine pc_gd (fun c_3 => ?_)
    refine pc_if (fun _ => ?_) (fun _ => ?_)
    · refine pc_if (fun _ => ?_) (fun _ => ?_)
      · refine pc_ob (fun r10 e_4 => ?_)
        refine pc_gd (fun c_5 => ?_)
        refine pc_gd (fun c_6 => ?_)
        exact k_fX11_macro_J43 N g x0 x1 x2 (dI d r10 x1.toNatClampNeg) d hS hZ
      · refine pc_cb (k_fX0_macroCode N g r3 x1 x2 d hS hZ) (fun u9 d7 z_7 => ?_)
        exact k_fX11_macro_J43 N g x0 x1 x2 u9 d7 hS z_7
    · exact k_fX11_macro_J15 N g x0 x1 x2 d hS hZ
theorem k_fX11_ghosts (N : Nat) (g : Gs) (x0 : Nat) (x1 : Int32) (x2 : Int32) (d : Ds) (hS : Shp g) (hZ : KL d) : pc (fX11_ghosts N g x0 x1 x2 d) (fun _ d1 => KL d1) := by
  unfold fX11_ghosts
  refine pc_gd (fun c_1 => ?_)
  refine pc_ob (fun r2 e_2 => ?_)
  refine pc_gd (fun c_3 => ?_)
  refine pc_cb (k_fX0_keys N g r2 d hS hZ) (fun u6 d4 z_4 => ?_)
  refine pc_if (fun _ => ?_) (fun _ => ?_)
  · refine pc_ob (fun r8 e_5 => ?_)
    refine pc_gd (fun c_6 => ?_)
    refine pc_cv (k_fX9_follow N g r8 r2 x1 d4 hS z_4) (fun d10 z_7 => ?_)
    refine pc_if (fun _ => ?_) (fun _ => ?_)
    · exact pc_some z_7
    · refine pc_if (fun _ => ?_) (fun _ => ?_)
      · refine pc_cb (k_fJ6_bitCount_0f7a4 N g ((dI d10 r8 2) &&& (x1 ^^^ (-1))) d10 hS z_7) (fun u16 d14 z_8 => ?_)
        exact pc_some z_8
      · refine pc_if (fun _ => ?_) (fun _ => ?_)
        · refine pc_cb (k_fJ6_bitCount_0f7a4 N g (dI d10 r8 3) d10 hS z_7) (fun u20 d18 z_9 => ?_)
          exact pc_some z_9
        · refine pc_if (fun _ => ?_) (fun _ => ?_)
          · exact pc_some z_7
          · exact pc_none
  · exact pc_some z_4
theorem k_fX11_ahead_J30 (N : Nat) (g : Gs) (x0 : Nat) (x1 : Int32) (x2 : Int32) (d : Ds) (hS : Shp g) (hZ : KL d) : pc (fX11_ahead_J30 N g x0 x1 x2 d) (fun _ d1 => KL d1) := by
  unfold fX11_ahead_J30
  exact pc_some hZ
theorem k_fX6_copyFrom (N : Nat) (g : Gs) (x0 : Nat) (x1 : Nat) (d : Ds) (hS : Shp g) (hZ : KL d) : pc (fX6_copyFrom N g x0 x1 d) (fun _ d1 => KL d1) := by
  unfold fX6_copyFrom
  refine pc_gd (fun c_1 => ?_)
  refine pc_gd (fun c_2 => ?_)
  refine pc_bd (fun d3 e_3 => ?_)
  have z_4 := KL.i hZ e_3
  refine pc_bd (fun d4 e_5 => ?_)
  have z_6 := KL.i z_4 e_5
  refine pc_bd (fun d5 e_7 => ?_)
  have z_8 := KL.i z_6 e_7
  refine pc_bd (fun d6 e_9 => ?_)
  have z_10 := KL.i z_8 e_9
  refine pc_ob (fun r7 e_11 => ?_)
  refine pc_ob (fun r8 e_12 => ?_)
  refine pc_gd (fun c_13 => ?_)
  refine pc_gd (fun c_14 => ?_)
  refine pc_gd (fun c_15 => ?_)
  refine pc_gd (fun c_16 => ?_)
  refine pc_gd (fun c_17 => ?_)
  refine pc_gd (fun c_18 => ?_)
  refine pc_bd (fun d15 e_19 => ?_)
  have z_20 := KL.ci z_10 e_19
  refine pc_ob (fun r16 e_21 => ?_)
  refine pc_ob (fun r17 e_22 => ?_)
  refine pc_gd (fun c_23 => ?_)
  refine pc_gd (fun c_24 => ?_)
  refine pc_gd (fun c_25 => ?_)
  refine pc_gd (fun c_26 => ?_)
  refine pc_bd (fun d22 e_27 => ?_)
  have z_28 := KL.cf z_20 e_27
  refine pc_ob (fun r23 e_29 => ?_)
  refine pc_ob (fun r24 e_30 => ?_)
  refine pc_gd (fun c_31 => ?_)
  refine pc_gd (fun c_32 => ?_)
  refine pc_gd (fun c_33 => ?_)
  refine pc_gd (fun c_34 => ?_)
  refine pc_bd (fun d29 e_35 => ?_)
  have z_36 := KL.ci z_28 e_35
  refine pc_ob (fun r30 e_37 => ?_)
  refine pc_ob (fun r31 e_38 => ?_)
  refine pc_gd (fun c_39 => ?_)
  refine pc_gd (fun c_40 => ?_)
  refine pc_gd (fun c_41 => ?_)
  refine pc_gd (fun c_42 => ?_)
  refine pc_bd (fun d36 e_43 => ?_)
  have z_44 := KL.ci z_36 e_43
  refine pc_ob (fun r37 e_45 => ?_)
  refine pc_ob (fun r38 e_46 => ?_)
  refine pc_gd (fun c_47 => ?_)
  refine pc_gd (fun c_48 => ?_)
  refine pc_gd (fun c_49 => ?_)
  refine pc_gd (fun c_50 => ?_)
  refine pc_bd (fun d43 e_51 => ?_)
  have z_52 := KL.ci z_44 e_51
  exact pc_some z_52
theorem k_fX4_copyFrom (N : Nat) (g : Gs) (x0 : Nat) (x1 : Nat) (d : Ds) (hS : Shp g) (hZ : KL d) : pc (fX4_copyFrom N g x0 x1 d) (fun _ d1 => KL d1) := by
  unfold fX4_copyFrom
  refine pc_gd (fun c_1 => ?_)
  refine pc_gd (fun c_2 => ?_)
  refine pc_bd (fun d3 e_3 => ?_)
  have z_4 := KL.i hZ e_3
  refine pc_bd (fun d4 e_5 => ?_)
  have z_6 := KL.i z_4 e_5
  refine pc_ob (fun r5 e_7 => ?_)
  refine pc_ob (fun r6 e_8 => ?_)
  refine pc_gd (fun c_9 => ?_)
  refine pc_gd (fun c_10 => ?_)
  refine pc_gd (fun c_11 => ?_)
  refine pc_gd (fun c_12 => ?_)
  refine pc_gd (fun c_13 => ?_)
  refine pc_gd (fun c_14 => ?_)
  refine pc_bd (fun d13 e_15 => ?_)
  have z_16 := KL.ci z_6 e_15
  exact pc_some z_16
theorem k_fX3_copyFrom (N : Nat) (g : Gs) (x0 : Nat) (x1 : Nat) (d : Ds) (hS : Shp g) (hZ : KL d) : pc (fX3_copyFrom N g x0 x1 d) (fun _ d1 => KL d1) := by
  unfold fX3_copyFrom
  refine pc_gd (fun c_1 => ?_)
  refine pc_ob (fun r2 e_2 => ?_)
  refine pc_gd (fun c_3 => ?_)
  refine pc_ob (fun r4 e_4 => ?_)
  refine pc_gd (fun c_5 => ?_)
  refine pc_gd (fun c_6 => ?_)
  refine pc_gd (fun c_7 => ?_)
  refine pc_gd (fun c_8 => ?_)
  refine pc_gd (fun c_9 => ?_)
  refine pc_gd (fun c_10 => ?_)
  refine pc_bd (fun d11 e_11 => ?_)
  have z_12 := KL.ci hZ e_11
  refine pc_ob (fun r12 e_13 => ?_)
  refine pc_ob (fun r13 e_14 => ?_)
  refine pc_gd (fun c_15 => ?_)
  refine pc_gd (fun c_16 => ?_)
  refine pc_gd (fun c_17 => ?_)
  refine pc_gd (fun c_18 => ?_)
  refine pc_bd (fun d18 e_19 => ?_)
  have z_20 := KL.ci z_12 e_19
  refine pc_ob (fun r19 e_21 => ?_)
  refine pc_ob (fun r20 e_22 => ?_)
  refine pc_gd (fun c_23 => ?_)
  refine pc_gd (fun c_24 => ?_)
  refine pc_gd (fun c_25 => ?_)
  refine pc_gd (fun c_26 => ?_)
  refine pc_bd (fun d25 e_27 => ?_)
  have z_28 := KL.ci z_20 e_27
  refine pc_ob (fun r26 e_29 => ?_)
  refine pc_ob (fun r27 e_30 => ?_)
  refine pc_gd (fun c_31 => ?_)
  refine pc_gd (fun c_32 => ?_)
  refine pc_gd (fun c_33 => ?_)
  refine pc_gd (fun c_34 => ?_)
  refine pc_bd (fun d32 e_35 => ?_)
  have z_36 := KL.ci z_28 e_35
  refine pc_bd (fun d33 e_37 => ?_)
  have z_38 := KL.i z_36 e_37
  refine pc_bd (fun d34 e_39 => ?_)
  have z_40 := KL.i z_38 e_39
  exact pc_some z_40
theorem k_fX5_copyFrom (N : Nat) (g : Gs) (x0 : Nat) (x1 : Nat) (d : Ds) (hS : Shp g) (hZ : KL d) : pc (fX5_copyFrom N g x0 x1 d) (fun _ d1 => KL d1) := by
  unfold fX5_copyFrom
  refine pc_gd (fun c_1 => ?_)
  refine pc_ob (fun r2 e_2 => ?_)
  refine pc_gd (fun c_3 => ?_)
  refine pc_ob (fun r4 e_4 => ?_)
  refine pc_gd (fun c_5 => ?_)
  refine pc_gd (fun c_6 => ?_)
  refine pc_gd (fun c_7 => ?_)
  refine pc_gd (fun c_8 => ?_)
  refine pc_gd (fun c_9 => ?_)
  refine pc_gd (fun c_10 => ?_)
  refine pc_bd (fun d11 e_11 => ?_)
  have z_12 := KL.ci hZ e_11
  refine pc_ob (fun r12 e_13 => ?_)
  refine pc_ob (fun r13 e_14 => ?_)
  refine pc_gd (fun c_15 => ?_)
  refine pc_gd (fun c_16 => ?_)
  refine pc_gd (fun c_17 => ?_)
  refine pc_gd (fun c_18 => ?_)
  refine pc_bd (fun d18 e_19 => ?_)
  have z_20 := KL.ci z_12 e_19
  refine pc_ob (fun r19 e_21 => ?_)
  refine pc_ob (fun r20 e_22 => ?_)
  refine pc_gd (fun c_23 => ?_)
  refine pc_gd (fun c_24 => ?_)
  refine pc_gd (fun c_25 => ?_)
  refine pc_gd (fun c_26 => ?_)
  refine pc_bd (fun d25 e_27 => ?_)
  have z_28 := KL.ci z_20 e_27
  refine pc_ob (fun r26 e_29 => ?_)
  refine pc_ob (fun r27 e_30 => ?_)
  refine pc_gd (fun c_31 => ?_)
  refine pc_gd (fun c_32 => ?_)
  refine pc_gd (fun c_33 => ?_)
  refine pc_gd (fun c_34 => ?_)
  refine pc_gd (fun c_35 => ?_)
  refine pc_bd (fun d33 e_36 => ?_)
  have z_37 := KL.ci z_28 e_36
  refine pc_bd (fun d34 e_38 => ?_)
  have z_39 := KL.i z_37 e_38
  refine pc_bd (fun d35 e_40 => ?_)
  have z_41 := KL.i z_39 e_40
  refine pc_bd (fun d36 e_42 => ?_)
  have z_43 := KL.i z_41 e_42
  refine pc_bd (fun d37 e_44 => ?_)
  have z_45 := KL.i z_43 e_44
  refine pc_bd (fun d38 e_46 => ?_)
  have z_47 := KL.i z_45 e_46
  exact pc_some z_47
theorem k_fX1_copyFrom (N : Nat) (g : Gs) (x0 : Nat) (x1 : Nat) (d : Ds) (hS : Shp g) (hZ : KL d) : pc (fX1_copyFrom N g x0 x1 d) (fun _ d1 => KL d1) := by
  unfold fX1_copyFrom
  refine pc_gd (fun c_1 => ?_)
  refine pc_gd (fun c_2 => ?_)
  refine pc_bd (fun d3 e_3 => ?_)
  have z_4 := KL.i hZ e_3
  refine pc_ob (fun r4 e_5 => ?_)
  refine pc_ob (fun r5 e_6 => ?_)
  refine pc_gd (fun c_7 => ?_)
  refine pc_cv (k_fX6_copyFrom N g r4 r5 d3 hS z_4) (fun d7 z_8 => ?_)
  refine pc_ob (fun r9 e_9 => ?_)
  refine pc_ob (fun r10 e_10 => ?_)
  refine pc_gd (fun c_11 => ?_)
  refine pc_cv (k_fX4_copyFrom N g r9 r10 d7 hS z_8) (fun d12 z_12 => ?_)
  refine pc_ob (fun r14 e_13 => ?_)
  refine pc_ob (fun r15 e_14 => ?_)
  refine pc_gd (fun c_15 => ?_)
  refine pc_cv (k_fX3_copyFrom N g r14 r15 d12 hS z_12) (fun d17 z_16 => ?_)
  refine pc_ob (fun r19 e_17 => ?_)
  refine pc_ob (fun r20 e_18 => ?_)
  refine pc_gd (fun c_19 => ?_)
  refine pc_cv (k_fX5_copyFrom N g r19 r20 d17 hS z_16) (fun d22 z_20 => ?_)
  exact pc_some z_20
theorem k_fX11_ahead_B45 (N : Nat) (g : Gs) (x0 : Nat) (x1 : Int32) (x2 : Int32) (K45 : Int32 × Ds → Option (Int32 × Ds)) (y3 : Int32) (d : Ds) (hS : Shp g) (hZ : KL d) (hK45 : ∀ a, KL a.2 → pc (K45 a) (fun _ d1 => KL d1)) : pc (fX11_ahead_B45 N g x0 x1 x2 K45 y3 d) (fun _ d1 => KL d1) := by
  unfold fX11_ahead_B45
  refine pc_if (fun _ => ?_) (fun _ => ?_)
  · refine pc_gd (fun c_1 => ?_)
    refine pc_ob (fun r19 e_2 => ?_)
    refine pc_gd (fun c_3 => ?_)
    refine pc_ob (fun r21 e_4 => ?_)
    refine pc_gd (fun c_5 => ?_)
    refine pc_cv (k_fX3_gather N g r21 (-1) d hS hZ) (fun d23 z_6 => ?_)
    refine pc_if (fun _ => ?_) (fun _ => ?_)
    · refine pc_ob (fun r26 e_7 => ?_)
      refine pc_gd (fun c_8 => ?_)
      exact pc_some z_6
    · refine pc_if (fun _ => ?_) (fun _ => ?_)
      · refine pc_ob (fun r29 e_9 => ?_)
        refine pc_gd (fun c_10 => ?_)
        refine pc_ob (fun r31 e_11 => ?_)
        refine pc_gd (fun c_12 => ?_)
        refine pc_ob (fun r33 e_13 => ?_)
        refine pc_gd (fun c_14 => ?_)
        exact pc_some z_6
      · refine pc_if (fun _ => ?_) (fun _ => ?_)
        · exact pc_some z_6
        · refine pc_if (fun _ => ?_) (fun _ => ?_)
          · exact pc_some z_6
          · refine pc_if (fun _ => ?_) (fun _ => ?_)
            · refine pc_cb (k_fX1_activeLayers N g r19 d23 hS z_6) (fun u40 d38 z_15 => ?_)
              exact pc_some z_15
            · exact pc_none
  · refine pc_gd (fun c_16 => ?_)
    refine pc_ob (fun r42 e_17 => ?_)
    refine pc_gd (fun c_18 => ?_)
    refine pc_cv (k_fX1_passTick N g r42 d hS hZ) (fun d44 z_19 => ?_)
    refine pc_bd (fun u46 e_20 => ?_)
    exact hK45 _ z_19
theorem k_fX11_ahead_L45 (N : Nat) (g : Gs) (x0 : Nat) (x1 : Int32) (x2 : Int32) (hS : Shp g) (a0 : Int32) (a1 : Ds) (hZ : KL a1) : pc (fX11_ahead_L45 N g x0 x1 x2 (a0, a1)) (fun _ d1 => KL d1) := by
  unfold fX11_ahead_L45
  refine pc_lp (fun a => KL a.2) ?_ N (a0, a1) hZ
  rintro K ⟨a0, a1⟩ hZ hK
  exact k_fX11_ahead_B45 N g x0 x1 x2 K a0 a1 hS hZ hK
theorem k_fX11_ahead (N : Nat) (g : Gs) (x0 : Nat) (x1 : Int32) (x2 : Int32) (d : Ds) (hS : Shp g) (hZ : KL d) : pc (fX11_ahead N g x0 x1 x2 d) (fun _ d1 => KL d1) := by
  unfold fX11_ahead
  refine pc_if (fun _ => ?_) (fun _ => ?_)
  · exact k_fX11_ahead_J30 N g x0 x1 x2 d hS hZ
  · refine pc_if (fun _ => ?_) (fun _ => ?_)
    · exact k_fX11_ahead_J30 N g x0 x1 x2 d hS hZ
    · refine pc_if (fun _ => ?_) (fun _ => ?_)
      · exact k_fX11_ahead_J30 N g x0 x1 x2 d hS hZ
      · refine pc_if (fun _ => ?_) (fun _ => ?_)
        · exact k_fX11_ahead_J30 N g x0 x1 x2 d hS hZ
        · refine pc_gd (fun c_1 => ?_)
          refine pc_ob (fun r6 e_2 => ?_)
          refine pc_gd (fun c_3 => ?_)
          refine pc_cb (k_fX0_keys N g r6 d hS hZ) (fun u10 d8 z_4 => ?_)
          refine pc_if (fun _ => ?_) (fun _ => ?_)
          · exact k_fX11_ahead_J30 N g x0 x1 x2 d8 hS z_4
          · refine pc_ob (fun r12 e_5 => ?_)
            refine pc_ob (fun r13 e_6 => ?_)
            refine pc_gd (fun c_7 => ?_)
            refine pc_cv (k_fX1_copyFrom N g r12 r13 d8 hS z_4) (fun d15 z_8 => ?_)
            exact k_fX11_ahead_L45 N g x0 x1 x2 hS 0 d15 z_8
theorem k_fX11_hold_J9 (N : Nat) (g : Gs) (x0 : Nat) (x1 : Int32) (d : Ds) (hS : Shp g) (hZ : KL d) : pc (fX11_hold_J9 N g x0 x1 d) (fun _ d1 => KL d1) := by
  unfold fX11_hold_J9
  exact pc_some hZ
theorem k_fX11_hold (N : Nat) (g : Gs) (x0 : Nat) (x1 : Int32) (d : Ds) (hS : Shp g) (hZ : KL d) : pc (fX11_hold N g x0 x1 d) (fun _ d1 => KL d1) := by
  unfold fX11_hold
  refine pc_if (fun _ => ?_) (fun _ => ?_)
  · exact k_fX11_hold_J9 N g x0 x1 d hS hZ
  · refine pc_if (fun _ => ?_) (fun _ => ?_)
    · refine pc_gd (fun c_1 => ?_)
      refine pc_ob (fun r4 e_2 => ?_)
      refine pc_gd (fun c_3 => ?_)
      refine pc_gd (fun c_4 => ?_)
      refine pc_ob (fun r7 e_5 => ?_)
      refine pc_ob (fun r8 e_6 => ?_)
      refine pc_gd (fun c_7 => ?_)
      refine pc_cv (k_fX1_copyFrom N g r7 r8 d hS hZ) (fun d10 z_8 => ?_)
      refine pc_bd (fun d12 e_9 => ?_)
      have z_10 := KL.i z_8 e_9
      exact pc_some z_10
    · exact k_fX11_hold_J9 N g x0 x1 d hS hZ
theorem k_fX11_restore_J20 (N : Nat) (g : Gs) (x0 : Nat) (x1 : Int32) (d : Ds) (hS : Shp g) (hZ : KL d) : pc (fX11_restore_J20 N g x0 x1 d) (fun _ d1 => KL d1) := by
  unfold fX11_restore_J20
  exact pc_some hZ
theorem k_fX11_restore (N : Nat) (g : Gs) (x0 : Nat) (x1 : Int32) (d : Ds) (hS : Shp g) (hZ : KL d) : pc (fX11_restore N g x0 x1 d) (fun _ d1 => KL d1) := by
  unfold fX11_restore
  refine pc_if (fun _ => ?_) (fun _ => ?_)
  · exact k_fX11_restore_J20 N g x0 x1 d hS hZ
  · refine pc_if (fun _ => ?_) (fun _ => ?_)
    · exact k_fX11_restore_J20 N g x0 x1 d hS hZ
    · refine pc_gd (fun c_1 => ?_)
      refine pc_cb (k_fX11_isIn N g (dI d x0 9) x1 d hS hZ) (fun u6 d4 z_2 => ?_)
      refine pc_if (fun _ => ?_) (fun _ => ?_)
      · exact k_fX11_restore_J20 N g x0 x1 d4 hS z_2
      · refine pc_ob (fun r8 e_3 => ?_)
        refine pc_ob (fun r9 e_4 => ?_)
        refine pc_gd (fun c_5 => ?_)
        refine pc_gd (fun c_6 => ?_)
        refine pc_ob (fun r12 e_7 => ?_)
        refine pc_gd (fun c_8 => ?_)
        refine pc_cv (k_fX1_copyFrom N g r8 r12 d4 hS z_2) (fun d14 z_9 => ?_)
        exact pc_some z_9
theorem k_fX11_setting_J67 (N : Nat) (g : Gs) (x0 : Nat) (x1 : Int32) (z0 : Int32) (d : Ds) (hS : Shp g) (hZ : KL d) : pc (fX11_setting_J67 N g x0 x1 z0 d) (fun _ d1 => KL d1) := by
  unfold fX11_setting_J67
  exact pc_some hZ
theorem k_fX11_setting_J83 (N : Nat) (g : Gs) (x0 : Nat) (x1 : Int32) (z0 : Int32) (d : Ds) (hS : Shp g) (hZ : KL d) : pc (fX11_setting_J83 N g x0 x1 z0 d) (fun _ d1 => KL d1) := by
  unfold fX11_setting_J83
  exact pc_some hZ
theorem k_fX11_setting (N : Nat) (g : Gs) (x0 : Nat) (x1 : Int32) (d : Ds) (hS : Shp g) (hZ : KL d) : pc (fX11_setting N g x0 x1 d) (fun _ d1 => KL d1) := by
  unfold fX11_setting
  refine pc_if (fun _ => ?_) (fun _ => ?_)
  · exact pc_some hZ
  · refine pc_if (fun _ => ?_) (fun _ => ?_)
    · refine pc_gd (fun c_1 => ?_)
      refine pc_ob (fun r4 e_2 => ?_)
      refine pc_gd (fun c_3 => ?_)
      refine pc_if (fun _ => ?_) (fun _ => ?_)
      · exact k_fX11_setting_J67 N g x0 x1 0 d hS hZ
      · exact k_fX11_setting_J67 N g x0 x1 1 d hS hZ
    · refine pc_if (fun _ => ?_) (fun _ => ?_)
      · refine pc_gd (fun c_4 => ?_)
        refine pc_ob (fun r9 e_5 => ?_)
        refine pc_gd (fun c_6 => ?_)
        refine pc_if (fun _ => ?_) (fun _ => ?_)
        · exact k_fX11_setting_J83 N g x0 x1 0 d hS hZ
        · exact k_fX11_setting_J83 N g x0 x1 1 d hS hZ
      · refine pc_if (fun _ => ?_) (fun _ => ?_)
        · refine pc_gd (fun c_7 => ?_)
          refine pc_ob (fun r14 e_8 => ?_)
          refine pc_gd (fun c_9 => ?_)
          exact pc_some hZ
        · refine pc_if (fun _ => ?_) (fun _ => ?_)
          · refine pc_gd (fun c_10 => ?_)
            refine pc_ob (fun r18 e_11 => ?_)
            refine pc_gd (fun c_12 => ?_)
            exact pc_some hZ
          · refine pc_if (fun _ => ?_) (fun _ => ?_)
            · refine pc_gd (fun c_13 => ?_)
              refine pc_ob (fun r22 e_14 => ?_)
              refine pc_gd (fun c_15 => ?_)
              exact pc_some hZ
            · refine pc_if (fun _ => ?_) (fun _ => ?_)
              · refine pc_gd (fun c_16 => ?_)
                refine pc_ob (fun r26 e_17 => ?_)
                refine pc_gd (fun c_18 => ?_)
                exact pc_some hZ
              · refine pc_if (fun _ => ?_) (fun _ => ?_)
                · refine pc_gd (fun c_19 => ?_)
                  refine pc_ob (fun r30 e_20 => ?_)
                  refine pc_gd (fun c_21 => ?_)
                  exact pc_some hZ
                · refine pc_if (fun _ => ?_) (fun _ => ?_)
                  · refine pc_gd (fun c_22 => ?_)
                    refine pc_ob (fun r34 e_23 => ?_)
                    refine pc_gd (fun c_24 => ?_)
                    exact pc_some hZ
                  · refine pc_if (fun _ => ?_) (fun _ => ?_)
                    · refine pc_gd (fun c_25 => ?_)
                      refine pc_ob (fun r38 e_26 => ?_)
                      refine pc_gd (fun c_27 => ?_)
                      exact pc_some hZ
                    · exact pc_none
theorem k_fX11_count (N : Nat) (g : Gs) (x0 : Nat) (x1 : Int32) (d : Ds) (hS : Shp g) (hZ : KL d) : pc (fX11_count N g x0 x1 d) (fun _ d1 => KL d1) := by
  unfold fX11_count
  refine pc_if (fun _ => ?_) (fun _ => ?_)
  · refine pc_gd (fun c_1 => ?_)
    refine pc_cb (k_fX11_setting N g x0 x1 d hS hZ) (fun u5 d3 z_2 => ?_)
    exact pc_some z_2
  · refine pc_if (fun _ => ?_) (fun _ => ?_)
    · refine pc_gd (fun c_3 => ?_)
      refine pc_ob (fun r8 e_4 => ?_)
      refine pc_gd (fun c_5 => ?_)
      exact pc_some hZ
    · refine pc_if (fun _ => ?_) (fun _ => ?_)
      · refine pc_gd (fun c_6 => ?_)
        refine pc_ob (fun r12 e_7 => ?_)
        refine pc_gd (fun c_8 => ?_)
        exact pc_some hZ
      · refine pc_if (fun _ => ?_) (fun _ => ?_)
        · refine pc_gd (fun c_9 => ?_)
          refine pc_ob (fun r16 e_10 => ?_)
          refine pc_gd (fun c_11 => ?_)
          exact pc_some hZ
        · refine pc_if (fun _ => ?_) (fun _ => ?_)
          · refine pc_gd (fun c_12 => ?_)
            refine pc_ob (fun r20 e_13 => ?_)
            refine pc_gd (fun c_14 => ?_)
            refine pc_ob (fun r22 e_15 => ?_)
            refine pc_gd (fun c_16 => ?_)
            exact pc_some hZ
          · refine pc_if (fun _ => ?_) (fun _ => ?_)
            · refine pc_gd (fun c_17 => ?_)
              refine pc_ob (fun r26 e_18 => ?_)
              refine pc_gd (fun c_19 => ?_)
              refine pc_cb (k_fX1_activeLayers N g r26 d hS hZ) (fun u30 d28 z_20 => ?_)
              exact pc_some z_20
            · refine pc_if (fun _ => ?_) (fun _ => ?_)
              · refine pc_gd (fun c_21 => ?_)
                refine pc_ob (fun r33 e_22 => ?_)
                refine pc_gd (fun c_23 => ?_)
                refine pc_ob (fun r35 e_24 => ?_)
                refine pc_gd (fun c_25 => ?_)
                exact pc_some hZ
              · refine pc_if (fun _ => ?_) (fun _ => ?_)
                · refine pc_gd (fun c_26 => ?_)
                  refine pc_ob (fun r39 e_27 => ?_)
                  refine pc_gd (fun c_28 => ?_)
                  refine pc_ob (fun r41 e_29 => ?_)
                  refine pc_gd (fun c_30 => ?_)
                  exact pc_some hZ
                · refine pc_if (fun _ => ?_) (fun _ => ?_)
                  · refine pc_gd (fun c_31 => ?_)
                    refine pc_ob (fun r45 e_32 => ?_)
                    refine pc_gd (fun c_33 => ?_)
                    refine pc_ob (fun r47 e_34 => ?_)
                    refine pc_gd (fun c_35 => ?_)
                    exact pc_some hZ
                  · refine pc_if (fun _ => ?_) (fun _ => ?_)
                    · refine pc_gd (fun c_36 => ?_)
                      refine pc_ob (fun r51 e_37 => ?_)
                      refine pc_gd (fun c_38 => ?_)
                      refine pc_ob (fun r53 e_39 => ?_)
                      refine pc_gd (fun c_40 => ?_)
                      exact pc_some hZ
                    · refine pc_if (fun _ => ?_) (fun _ => ?_)
                      · refine pc_gd (fun c_41 => ?_)
                        refine pc_ob (fun r57 e_42 => ?_)
                        refine pc_gd (fun c_43 => ?_)
                        refine pc_ob (fun r59 e_44 => ?_)
                        refine pc_gd (fun c_45 => ?_)
                        exact pc_some hZ
                      · refine pc_if (fun _ => ?_) (fun _ => ?_)
                        · refine pc_gd (fun c_46 => ?_)
                          refine pc_ob (fun r63 e_47 => ?_)
                          refine pc_gd (fun c_48 => ?_)
                          refine pc_ob (fun r65 e_49 => ?_)
                          refine pc_gd (fun c_50 => ?_)
                          exact pc_some hZ
                        · refine pc_if (fun _ => ?_) (fun _ => ?_)
                          · refine pc_gd (fun c_51 => ?_)
                            exact pc_some hZ
                          · refine pc_if (fun _ => ?_) (fun _ => ?_)
                            · refine pc_gd (fun c_52 => ?_)
                              refine pc_cb (k_fJ6_bitCount_0f7a4 N g (dI d x0 9) d hS hZ) (fun u73 d71 z_53 => ?_)
                              exact pc_some z_53
                            · exact pc_none
theorem k_fX12_lays_B3 (N : Nat) (g : Gs) (x0 : Nat) (x1 : Int32) (K3 : Int32 × Ds → Option (Unit × Ds)) (y2 : Int32) (d : Ds) (hS : Shp g) (hZ : KL d) (hK3 : ∀ a, KL a.2 → pc (K3 a) (fun _ d1 => KL d1)) : pc (fX12_lays_B3 N g x0 x1 K3 y2 d) (fun _ d1 => KL d1) := by
  unfold fX12_lays_B3
  refine pc_if (fun _ => ?_) (fun _ => ?_)
  · exact pc_some hZ
  · refine pc_gd (fun c_1 => ?_)
    refine pc_ob (fun r3 e_2 => ?_)
    refine pc_gd (fun c_3 => ?_)
    refine pc_gd (fun c_4 => ?_)
    refine pc_bd (fun d6 e_5 => ?_)
    have z_6 := KL.i hZ e_5
    refine pc_bd (fun d7 e_7 => ?_)
    have z_8 := KL.i z_6 e_7
    refine pc_bd (fun u8 e_9 => ?_)
    exact hK3 _ z_8
theorem k_fX12_lays_L3 (N : Nat) (g : Gs) (x0 : Nat) (x1 : Int32) (hS : Shp g) (a0 : Int32) (a1 : Ds) (hZ : KL a1) : pc (fX12_lays_L3 N g x0 x1 (a0, a1)) (fun _ d1 => KL d1) := by
  unfold fX12_lays_L3
  refine pc_lp (fun a => KL a.2) ?_ N (a0, a1) hZ
  rintro K ⟨a0, a1⟩ hZ hK
  exact k_fX12_lays_B3 N g x0 x1 K a0 a1 hS hZ hK
theorem k_fX12_lays (N : Nat) (g : Gs) (x0 : Nat) (x1 : Int32) (d : Ds) (hS : Shp g) (hZ : KL d) : pc (fX12_lays N g x0 x1 d) (fun _ d1 => KL d1) := by
  unfold fX12_lays
  exact k_fX12_lays_L3 N g x0 x1 hS 24 d hZ
theorem k_fX12_feed (N : Nat) (g : Gs) (x0 : Nat) (x1 : Int32) (x2 : Int32) (x3 : Int32) (x4 : Int32) (x5 : Int32) (d : Ds) (hS : Shp g) (hZ : KL d) : pc (fX12_feed N g x0 x1 x2 x3 x4 x5 d) (fun _ d1 => KL d1) := by
  unfold fX12_feed
  refine pc_gd (fun c_1 => ?_)
  refine pc_if (fun _ => ?_) (fun _ => ?_)
  · refine pc_cv (k_fX12_lays N g x0 x1 d hS hZ) (fun d3 z_2 => ?_)
    refine pc_cv (k_fX12_lays N g x0 x2 d3 hS z_2) (fun d5 z_3 => ?_)
    refine pc_cv (k_fX12_lays N g x0 x3 d5 hS z_3) (fun d7 z_4 => ?_)
    refine pc_cv (k_fX12_lays N g x0 x4 d7 hS z_4) (fun d9 z_5 => ?_)
    refine pc_cv (k_fX12_lays N g x0 x5 d9 hS z_5) (fun d11 z_6 => ?_)
    exact pc_some z_6
  · exact pc_some hZ
theorem k_fX12_back_J12 (N : Nat) (g : Gs) (x0 : Nat) (x1 : Int32) (d : Ds) (hS : Shp g) (hZ : KL d) : pc (fX12_back_J12 N g x0 x1 d) (fun _ d1 => KL d1) := by
  unfold fX12_back_J12
  exact pc_some hZ
theorem k_fX12_back (N : Nat) (g : Gs) (x0 : Nat) (x1 : Int32) (d : Ds) (hS : Shp g) (hZ : KL d) : pc (fX12_back N g x0 x1 d) (fun _ d1 => KL d1) := by
  unfold fX12_back
  refine pc_if (fun _ => ?_) (fun _ => ?_)
  · exact k_fX12_back_J12 N g x0 x1 d hS hZ
  · refine pc_gd (fun c_1 => ?_)
    refine pc_if (fun _ => ?_) (fun _ => ?_)
    · refine pc_bd (fun d4 e_2 => ?_)
      have z_3 := KL.i hZ e_2
      exact pc_some z_3
    · exact k_fX12_back_J12 N g x0 x1 d hS hZ
theorem k_fX12_byteAt_J22 (N : Nat) (g : Gs) (x0 : Nat) (x1 : Int32) (z0 : Int32) (d : Ds) (hS : Shp g) (hZ : KL d) : pc (fX12_byteAt_J22 N g x0 x1 z0 d) (fun _ d1 => KL d1) := by
  unfold fX12_byteAt_J22
  exact pc_some hZ
theorem k_fX12_byteAt (N : Nat) (g : Gs) (x0 : Nat) (x1 : Int32) (d : Ds) (hS : Shp g) (hZ : KL d) : pc (fX12_byteAt N g x0 x1 d) (fun _ d1 => KL d1) := by
  unfold fX12_byteAt
  refine pc_gd (fun c_1 => ?_)
  refine pc_if (fun _ => ?_) (fun _ => ?_)
  · exact k_fX12_byteAt_J22 N g x0 x1 0 d hS hZ
  · refine pc_ob (fun r3 e_2 => ?_)
    refine pc_gd (fun c_3 => ?_)
    refine pc_gd (fun c_4 => ?_)
    exact k_fX12_byteAt_J22 N g x0 x1 ((dI d r3 x1.toNatClampNeg) &&& 255) d hS hZ
theorem k_fX12_cutsText_J284 (N : Nat) (g : Gs) (x0 : Nat) (K7 : Int32 × Ds → Option (Unit × Ds)) (y1 : Int32) (d : Ds) (hS : Shp g) (hZ : KL d) (hK7 : ∀ a, KL a.2 → pc (K7 a) (fun _ d1 => KL d1)) : pc (fX12_cutsText_J284 N g x0 K7 y1 d) (fun _ d1 => KL d1) := by
  unfold fX12_cutsText_J284
  exact hK7 _ hZ
theorem k_fX12_cutsText_J67 (N : Nat) (g : Gs) (x0 : Nat) (K7 : Int32 × Ds → Option (Unit × Ds)) (y1 : Int32) (d : Ds) (hS : Shp g) (hZ : KL d) (hK7 : ∀ a, KL a.2 → pc (K7 a) (fun _ d1 => KL d1)) : pc (fX12_cutsText_J67 N g x0 K7 y1 d) (fun _ d1 => KL d1) := by
  unfold fX12_cutsText_J67
  refine pc_bd (fun u10 e_1 => ?_)
  exact k_fX12_cutsText_J284 N g x0 K7 u10 d hS hZ hK7
theorem k_fX12_isLetter_J17 (N : Nat) (g : Gs) (x0 : Int32) (z0 : Int32) (d : Ds) (hS : Shp g) (hZ : KL d) : pc (fX12_isLetter_J17 N g x0 z0 d) (fun _ d1 => KL d1) := by
  unfold fX12_isLetter_J17
  refine pc_gd (fun c_1 => ?_)
  exact pc_some hZ
theorem k_fX12_isLetter_J16 (N : Nat) (g : Gs) (x0 : Int32) (d : Ds) (hS : Shp g) (hZ : KL d) : pc (fX12_isLetter_J16 N g x0 d) (fun _ d1 => KL d1) := by
  unfold fX12_isLetter_J16
  exact k_fX12_isLetter_J17 N g x0 0 d hS hZ
theorem k_fX12_isLetter (N : Nat) (g : Gs) (x0 : Int32) (d : Ds) (hS : Shp g) (hZ : KL d) : pc (fX12_isLetter N g x0 d) (fun _ d1 => KL d1) := by
  unfold fX12_isLetter
  refine pc_if (fun _ => ?_) (fun _ => ?_)
  · exact k_fX12_isLetter_J16 N g x0 d hS hZ
  · refine pc_if (fun _ => ?_) (fun _ => ?_)
    · exact k_fX12_isLetter_J16 N g x0 d hS hZ
    · exact k_fX12_isLetter_J17 N g x0 1 d hS hZ
theorem k_fX12_isDigit_J17 (N : Nat) (g : Gs) (x0 : Int32) (z0 : Int32) (d : Ds) (hS : Shp g) (hZ : KL d) : pc (fX12_isDigit_J17 N g x0 z0 d) (fun _ d1 => KL d1) := by
  unfold fX12_isDigit_J17
  refine pc_gd (fun c_1 => ?_)
  exact pc_some hZ
theorem k_fX12_isDigit_J16 (N : Nat) (g : Gs) (x0 : Int32) (d : Ds) (hS : Shp g) (hZ : KL d) : pc (fX12_isDigit_J16 N g x0 d) (fun _ d1 => KL d1) := by
  unfold fX12_isDigit_J16
  exact k_fX12_isDigit_J17 N g x0 0 d hS hZ
theorem k_fX12_isDigit (N : Nat) (g : Gs) (x0 : Int32) (d : Ds) (hS : Shp g) (hZ : KL d) : pc (fX12_isDigit N g x0 d) (fun _ d1 => KL d1) := by
  unfold fX12_isDigit
  refine pc_if (fun _ => ?_) (fun _ => ?_)
  · exact k_fX12_isDigit_J16 N g x0 d hS hZ
  · refine pc_if (fun _ => ?_) (fun _ => ?_)
    · exact k_fX12_isDigit_J16 N g x0 d hS hZ
    · exact k_fX12_isDigit_J17 N g x0 1 d hS hZ
theorem k_fX12_token (N : Nat) (g : Gs) (x0 : Nat) (x1 : Int32) (x2 : Int32) (x3 : Int32) (x4 : Int64) (d : Ds) (hS : Shp g) (hZ : KL d) : pc (fX12_token N g x0 x1 x2 x3 x4 d) (fun _ d1 => KL d1) := by
  unfold fX12_token
  refine pc_gd (fun c_1 => ?_)
  refine pc_ob (fun r2 e_2 => ?_)
  refine pc_gd (fun c_3 => ?_)
  refine pc_gd (fun c_4 => ?_)
  refine pc_bd (fun d5 e_5 => ?_)
  have z_6 := KL.i hZ e_5
  refine pc_ob (fun r6 e_7 => ?_)
  refine pc_gd (fun c_8 => ?_)
  refine pc_gd (fun c_9 => ?_)
  refine pc_bd (fun d9 e_10 => ?_)
  have z_11 := KL.i z_6 e_10
  refine pc_ob (fun r10 e_12 => ?_)
  refine pc_gd (fun c_13 => ?_)
  refine pc_gd (fun c_14 => ?_)
  refine pc_bd (fun d13 e_15 => ?_)
  have z_16 := KL.i z_11 e_15
  refine pc_ob (fun r14 e_17 => ?_)
  refine pc_gd (fun c_18 => ?_)
  refine pc_gd (fun c_19 => ?_)
  refine pc_bd (fun d17 e_20 => ?_)
  have z_21 := KL.l z_16 (tok_ne hS c_1 e_17) e_20
  refine pc_bd (fun d18 e_22 => ?_)
  have z_23 := KL.i z_21 e_22
  exact pc_some z_23
theorem k_fX12_sign_J12 (N : Nat) (g : Gs) (x0 : Nat) (x1 : Int32) (x2 : Int32) (z0 : Int32) (z1 : Nat) (d : Ds) (hS : Shp g) (hZ : KL d) : pc (fX12_sign_J12 N g x0 x1 x2 z0 z1 d) (fun _ d1 => KL d1) := by
  unfold fX12_sign_J12
  refine pc_gd (fun c_1 => ?_)
  refine pc_cv (k_fX12_token N g z1 z0 x1 0 0 d hS hZ) (fun d3 z_2 => ?_)
  exact pc_some z_2
theorem k_fX12_sign (N : Nat) (g : Gs) (x0 : Nat) (x1 : Int32) (x2 : Int32) (d : Ds) (hS : Shp g) (hZ : KL d) : pc (fX12_sign N g x0 x1 x2 d) (fun _ d1 => KL d1) := by
  unfold fX12_sign
  refine pc_if (fun _ => ?_) (fun _ => ?_)
  · exact k_fX12_sign_J12 N g x0 x1 x2 4 x0 d hS hZ
  · exact k_fX12_sign_J12 N g x0 x1 x2 3 x0 d hS hZ
theorem k_fX12_cutsText_J261 (N : Nat) (g : Gs) (x0 : Nat) (K7 : Int32 × Ds → Option (Unit × Ds)) (y1 : Int32) (y3 : Int32) (y4 : Int32) (z0 : Int32) (z1 : Nat) (d : Ds) (hS : Shp g) (hZ : KL d) (hK7 : ∀ a, KL a.2 → pc (K7 a) (fun _ d1 => KL d1)) : pc (fX12_cutsText_J261 N g x0 K7 y1 y3 y4 z0 z1 d) (fun _ d1 => KL d1) := by
  unfold fX12_cutsText_J261
  refine pc_gd (fun c_1 => ?_)
  refine pc_cv (k_fX12_token N g z1 z0 y1 y4 0 d hS hZ) (fun d36 z_2 => ?_)
  refine pc_bd (fun u38 e_3 => ?_)
  exact k_fX12_cutsText_J284 N g x0 K7 u38 d36 hS z_2 hK7
theorem k_fX12_cutsText_J244 (N : Nat) (g : Gs) (x0 : Nat) (K7 : Int32 × Ds → Option (Unit × Ds)) (K208 : Int32 × Int32 × Int32 × Ds → Option (Unit × Ds)) (y1 : Int32) (y3 : Int32) (y4 : Int32) (d : Ds) (hS : Shp g) (hZ : KL d) (hK7 : ∀ a, KL a.2 → pc (K7 a) (fun _ d1 => KL d1)) (hK208 : ∀ a, KL a.2.2.2 → pc (K208 a) (fun _ d1 => KL d1)) : pc (fX12_cutsText_J244 N g x0 K7 K208 y1 y3 y4 d) (fun _ d1 => KL d1) := by
  unfold fX12_cutsText_J244
  refine pc_bd (fun u40 e_1 => ?_)
  exact hK208 _ hZ
theorem k_fX12_cutsText_B208 (N : Nat) (g : Gs) (x0 : Nat) (K7 : Int32 × Ds → Option (Unit × Ds)) (K208 : Int32 × Int32 × Int32 × Ds → Option (Unit × Ds)) (y1 : Int32) (y3 : Int32) (y4 : Int32) (d : Ds) (hS : Shp g) (hZ : KL d) (hK7 : ∀ a, KL a.2 → pc (K7 a) (fun _ d1 => KL d1)) (hK208 : ∀ a, KL a.2.2.2 → pc (K208 a) (fun _ d1 => KL d1)) : pc (fX12_cutsText_B208 N g x0 K7 K208 y1 y3 y4 d) (fun _ d1 => KL d1) := by
  unfold fX12_cutsText_B208
  refine pc_gd (fun c_1 => ?_)
  refine pc_cb (k_fX12_byteAt N g x0 (y1 + y3) d hS hZ) (fun u29 d27 z_2 => ?_)
  refine pc_cb (k_fX12_isDigit N g u29 d27 hS z_2) (fun u32 d30 z_3 => ?_)
  refine pc_if (fun _ => ?_) (fun _ => ?_)
  · refine pc_if (fun _ => ?_) (fun _ => ?_)
    · exact k_fX12_cutsText_J261 N g x0 K7 y1 y3 y4 2 x0 d30 hS z_3 hK7
    · exact k_fX12_cutsText_J261 N g x0 K7 y1 y3 y4 3 x0 d30 hS z_3 hK7
  · refine pc_if (fun _ => ?_) (fun _ => ?_)
    · exact k_fX12_cutsText_J244 N g x0 K7 K208 y1 y3 y4 d30 hS z_3 hK7 hK208
    · refine pc_cb (k_fX12_byteAt N g x0 (y1 + y3) d30 hS z_3) (fun u43 d41 z_4 => ?_)
      refine pc_bd (fun u44 e_5 => ?_)
      exact k_fX12_cutsText_J244 N g x0 K7 K208 y1 y3 u44 d41 hS z_4 hK7 hK208
theorem k_fX12_cutsText_L208 (N : Nat) (g : Gs) (x0 : Nat) (K7 : Int32 × Ds → Option (Unit × Ds)) (hS : Shp g) (a0 : Int32) (a1 : Int32) (a2 : Int32) (a3 : Ds) (hZ : KL a3) (hK7 : ∀ a, KL a.2 → pc (K7 a) (fun _ d1 => KL d1)) : pc (fX12_cutsText_L208 N g x0 K7 (a0, a1, a2, a3)) (fun _ d1 => KL d1) := by
  unfold fX12_cutsText_L208
  refine pc_lp (fun a => KL a.2.2.2) ?_ N (a0, a1, a2, a3) hZ
  rintro K ⟨a0, a1, a2, a3⟩ hZ hK
  exact k_fX12_cutsText_B208 N g x0 K7 K a0 a1 a2 a3 hS hZ hK7 hK
theorem k_fX12_cutsText_J179 (N : Nat) (g : Gs) (x0 : Nat) (K7 : Int32 × Ds → Option (Unit × Ds)) (y1 : Int32) (y3 : Int32) (y4 : Int64) (y6 : Int32) (d : Ds) (hS : Shp g) (hZ : KL d) (hK7 : ∀ a, KL a.2 → pc (K7 a) (fun _ d1 => KL d1)) : pc (fX12_cutsText_J179 N g x0 K7 y1 y3 y4 y6 d) (fun _ d1 => KL d1) := by
  unfold fX12_cutsText_J179
  refine pc_gd (fun c_1 => ?_)
  refine pc_cv (k_fX12_token N g x0 y6 y1 0 y4 d hS hZ) (fun d56 z_2 => ?_)
  refine pc_bd (fun u58 e_3 => ?_)
  exact k_fX12_cutsText_J284 N g x0 K7 u58 d56 hS z_2 hK7
theorem k_fX12_cutsText_J173 (N : Nat) (g : Gs) (x0 : Nat) (K7 : Int32 × Ds → Option (Unit × Ds)) (K146 : Int32 × Int32 × Int64 × Int32 × Int32 × Ds → Option (Unit × Ds)) (y1 : Int32) (y3 : Int32) (y4 : Int64) (y6 : Int32) (y7 : Int32) (d : Ds) (hS : Shp g) (hZ : KL d) (hK7 : ∀ a, KL a.2 → pc (K7 a) (fun _ d1 => KL d1)) (hK146 : ∀ a, KL a.2.2.2.2.2 → pc (K146 a) (fun _ d1 => KL d1)) : pc (fX12_cutsText_J173 N g x0 K7 K146 y1 y3 y4 y6 y7 d) (fun _ d1 => KL d1) := by
  unfold fX12_cutsText_J173
  refine pc_bd (fun u65 e_1 => ?_)
  exact hK146 _ hZ
theorem k_fX12_cutsText_B146 (N : Nat) (g : Gs) (x0 : Nat) (K7 : Int32 × Ds → Option (Unit × Ds)) (K146 : Int32 × Int32 × Int64 × Int32 × Int32 × Ds → Option (Unit × Ds)) (y1 : Int32) (y3 : Int32) (y4 : Int64) (y6 : Int32) (y7 : Int32) (d : Ds) (hS : Shp g) (hZ : KL d) (hK7 : ∀ a, KL a.2 → pc (K7 a) (fun _ d1 => KL d1)) (hK146 : ∀ a, KL a.2.2.2.2.2 → pc (K146 a) (fun _ d1 => KL d1)) : pc (fX12_cutsText_B146 N g x0 K7 K146 y1 y3 y4 y6 y7 d) (fun _ d1 => KL d1) := by
  unfold fX12_cutsText_B146
  refine pc_if (fun _ => ?_) (fun _ => ?_)
  · exact k_fX12_cutsText_J179 N g x0 K7 y1 y3 y4 y6 d hS hZ hK7
  · refine pc_gd (fun c_1 => ?_)
    refine pc_ob (fun r61 e_2 => ?_)
    refine pc_gd (fun c_3 => ?_)
    refine pc_gd (fun c_4 => ?_)
    refine pc_if (fun _ => ?_) (fun _ => ?_)
    · refine pc_bd (fun u66 e_5 => ?_)
      exact k_fX12_cutsText_J173 N g x0 K7 K146 y1 y3 y4 u66 y7 d hS hZ hK7 hK146
    · exact k_fX12_cutsText_J173 N g x0 K7 K146 y1 y3 y4 y6 y7 d hS hZ hK7 hK146
theorem k_fX12_cutsText_L146 (N : Nat) (g : Gs) (x0 : Nat) (K7 : Int32 × Ds → Option (Unit × Ds)) (hS : Shp g) (a0 : Int32) (a1 : Int32) (a2 : Int64) (a3 : Int32) (a4 : Int32) (a5 : Ds) (hZ : KL a5) (hK7 : ∀ a, KL a.2 → pc (K7 a) (fun _ d1 => KL d1)) : pc (fX12_cutsText_L146 N g x0 K7 (a0, a1, a2, a3, a4, a5)) (fun _ d1 => KL d1) := by
  unfold fX12_cutsText_L146
  refine pc_lp (fun a => KL a.2.2.2.2.2) ?_ N (a0, a1, a2, a3, a4, a5) hZ
  rintro K ⟨a0, a1, a2, a3, a4, a5⟩ hZ hK
  exact k_fX12_cutsText_B146 N g x0 K7 K a0 a1 a2 a3 a4 a5 hS hZ hK7 hK
theorem k_fX12_cutsText_J135 (N : Nat) (g : Gs) (x0 : Nat) (K7 : Int32 × Ds → Option (Unit × Ds)) (y1 : Int32) (y3 : Int32) (y4 : Int64) (z0 : Int32) (d : Ds) (hS : Shp g) (hZ : KL d) (hK7 : ∀ a, KL a.2 → pc (K7 a) (fun _ d1 => KL d1)) : pc (fX12_cutsText_J135 N g x0 K7 y1 y3 y4 z0 d) (fun _ d1 => KL d1) := by
  unfold fX12_cutsText_J135
  refine pc_if (fun _ => ?_) (fun _ => ?_)
  · exact k_fX12_cutsText_J179 N g x0 K7 y1 y3 y4 z0 d hS hZ hK7
  · exact k_fX12_cutsText_L146 N g x0 K7 hS y1 y3 y4 z0 0 d hZ hK7
theorem k_fX12_cutsText_J118 (N : Nat) (g : Gs) (x0 : Nat) (K7 : Int32 × Ds → Option (Unit × Ds)) (K85 : Int32 × Int32 × Int64 × Ds → Option (Unit × Ds)) (y1 : Int32) (y3 : Int32) (y4 : Int64) (d : Ds) (hS : Shp g) (hZ : KL d) (hK7 : ∀ a, KL a.2 → pc (K7 a) (fun _ d1 => KL d1)) (hK85 : ∀ a, KL a.2.2.2 → pc (K85 a) (fun _ d1 => KL d1)) : pc (fX12_cutsText_J118 N g x0 K7 K85 y1 y3 y4 d) (fun _ d1 => KL d1) := by
  unfold fX12_cutsText_J118
  refine pc_bd (fun u68 e_1 => ?_)
  exact hK85 _ hZ
theorem k_fX12_appends_J21 (N : Nat) (g : Gs) (x0 : Int64) (x2 : Int32) (z0 : Int64) (d : Ds) (hS : Shp g) (hZ : KL d) : pc (fX12_appends_J21 N g x0 x2 z0 d) (fun _ d1 => KL d1) := by
  unfold fX12_appends_J21
  exact pc_some hZ
theorem k_fX12_appends (N : Nat) (g : Gs) (x0 : Int64) (x2 : Int32) (d : Ds) (hS : Shp g) (hZ : KL d) : pc (fX12_appends N g x0 x2 d) (fun _ d1 => KL d1) := by
  unfold fX12_appends
  refine pc_if (fun _ => ?_) (fun _ => ?_)
  · exact k_fX12_appends_J21 N g x0 x2 x0 d hS hZ
  · exact k_fX12_appends_J21 N g x0 x2 ((27 * x0) + ((x2 - 97) + 1).toInt64) d hS hZ
theorem k_fX12_cutsText_B85 (N : Nat) (g : Gs) (x0 : Nat) (K7 : Int32 × Ds → Option (Unit × Ds)) (K85 : Int32 × Int32 × Int64 × Ds → Option (Unit × Ds)) (y1 : Int32) (y3 : Int32) (y4 : Int64) (d : Ds) (hS : Shp g) (hZ : KL d) (hK7 : ∀ a, KL a.2 → pc (K7 a) (fun _ d1 => KL d1)) (hK85 : ∀ a, KL a.2.2.2 → pc (K85 a) (fun _ d1 => KL d1)) : pc (fX12_cutsText_B85 N g x0 K7 K85 y1 y3 y4 d) (fun _ d1 => KL d1) := by
  unfold fX12_cutsText_B85
  refine pc_gd (fun c_1 => ?_)
  refine pc_cb (k_fX12_byteAt N g x0 (y1 + y3) d hS hZ) (fun u48 d46 z_2 => ?_)
  refine pc_cb (k_fX12_isLetter N g u48 d46 hS z_2) (fun u51 d49 z_3 => ?_)
  refine pc_if (fun _ => ?_) (fun _ => ?_)
  · refine pc_if (fun _ => ?_) (fun _ => ?_)
    · exact k_fX12_cutsText_J135 N g x0 K7 y1 y3 y4 1 d49 hS z_3 hK7
    · exact k_fX12_cutsText_J135 N g x0 K7 y1 y3 y4 3 d49 hS z_3 hK7
  · refine pc_if (fun _ => ?_) (fun _ => ?_)
    · exact k_fX12_cutsText_J118 N g x0 K7 K85 y1 y3 y4 d49 hS z_3 hK7 hK85
    · refine pc_cb (k_fX12_byteAt N g x0 (y1 + y3) d49 hS z_3) (fun u71 d69 z_4 => ?_)
      refine pc_cb (k_fX12_appends N g y4 u71 d69 hS z_4) (fun u74 d72 z_5 => ?_)
      exact k_fX12_cutsText_J118 N g x0 K7 K85 y1 y3 u74 d72 hS z_5 hK7 hK85
theorem k_fX12_cutsText_L85 (N : Nat) (g : Gs) (x0 : Nat) (K7 : Int32 × Ds → Option (Unit × Ds)) (hS : Shp g) (a0 : Int32) (a1 : Int32) (a2 : Int64) (a3 : Ds) (hZ : KL a3) (hK7 : ∀ a, KL a.2 → pc (K7 a) (fun _ d1 => KL d1)) : pc (fX12_cutsText_L85 N g x0 K7 (a0, a1, a2, a3)) (fun _ d1 => KL d1) := by
  unfold fX12_cutsText_L85
  refine pc_lp (fun a => KL a.2.2.2) ?_ N (a0, a1, a2, a3) hZ
  rintro K ⟨a0, a1, a2, a3⟩ hZ hK
  exact k_fX12_cutsText_B85 N g x0 K7 K a0 a1 a2 a3 hS hZ hK7 hK
theorem k_fX12_cutsText_B7 (N : Nat) (g : Gs) (x0 : Nat) (K7 : Int32 × Ds → Option (Unit × Ds)) (y1 : Int32) (d : Ds) (hS : Shp g) (hZ : KL d) (hK7 : ∀ a, KL a.2 → pc (K7 a) (fun _ d1 => KL d1)) : pc (fX12_cutsText_B7 N g x0 K7 y1 d) (fun _ d1 => KL d1) := by
  unfold fX12_cutsText_B7
  refine pc_gd (fun c_1 => ?_)
  refine pc_if (fun _ => ?_) (fun _ => ?_)
  · exact pc_some hZ
  · refine pc_cb (k_fX12_byteAt N g x0 y1 d hS hZ) (fun u7 d5 z_2 => ?_)
    refine pc_if (fun _ => ?_) (fun _ => ?_)
    · refine pc_if (fun _ => ?_) (fun _ => ?_)
      · exact k_fX12_cutsText_J67 N g x0 K7 y1 d5 hS z_2 hK7
      · refine pc_if (fun _ => ?_) (fun _ => ?_)
        · exact k_fX12_cutsText_J67 N g x0 K7 y1 d5 hS z_2 hK7
        · refine pc_if (fun _ => ?_) (fun _ => ?_)
          · exact k_fX12_cutsText_J67 N g x0 K7 y1 d5 hS z_2 hK7
          · refine pc_if (fun _ => ?_) (fun _ => ?_)
            · exact k_fX12_cutsText_J67 N g x0 K7 y1 d5 hS z_2 hK7
            · refine pc_cb (k_fX12_isLetter N g u7 d5 hS z_2) (fun u16 d14 z_3 => ?_)
              refine pc_if (fun _ => ?_) (fun _ => ?_)
              · refine pc_cb (k_fX12_isDigit N g u7 d14 hS z_3) (fun u20 d18 z_4 => ?_)
                refine pc_if (fun _ => ?_) (fun _ => ?_)
                · refine pc_cb (k_fX12_sign N g x0 y1 u7 d18 hS z_4) (fun u24 d22 z_5 => ?_)
                  refine pc_bd (fun u25 e_6 => ?_)
                  exact k_fX12_cutsText_J284 N g x0 K7 u25 d22 hS z_5 hK7
                · exact k_fX12_cutsText_L208 N g x0 K7 hS y1 0 0 d18 z_4 hK7
              · exact k_fX12_cutsText_L85 N g x0 K7 hS y1 0 0 d14 z_3 hK7
    · refine pc_cv (k_fX12_token N g x0 0 (dI d5 x0 4) 0 0 d5 hS z_2) (fun d75 z_7 => ?_)
      exact pc_some z_7
theorem k_fX12_cutsText_L7 (N : Nat) (g : Gs) (x0 : Nat) (hS : Shp g) (a0 : Int32) (a1 : Ds) (hZ : KL a1) : pc (fX12_cutsText_L7 N g x0 (a0, a1)) (fun _ d1 => KL d1) := by
  unfold fX12_cutsText_L7
  refine pc_lp (fun a => KL a.2) ?_ N (a0, a1) hZ
  rintro K ⟨a0, a1⟩ hZ hK
  exact k_fX12_cutsText_B7 N g x0 K a0 a1 hS hZ hK
theorem k_fX12_cutsText (N : Nat) (g : Gs) (x0 : Nat) (d : Ds) (hS : Shp g) (hZ : KL d) : pc (fX12_cutsText N g x0 d) (fun _ d1 => KL d1) := by
  unfold fX12_cutsText
  refine pc_gd (fun c_1 => ?_)
  refine pc_bd (fun d2 e_2 => ?_)
  have z_3 := KL.i hZ e_2
  exact k_fX12_cutsText_L7 N g x0 hS 0 d2 z_3
theorem k_fX12_is_J25 (N : Nat) (g : Gs) (x0 : Nat) (x1 : Int32) (z0 : Int32) (d : Ds) (hS : Shp g) (hZ : KL d) : pc (fX12_is_J25 N g x0 x1 z0 d) (fun _ d1 => KL d1) := by
  unfold fX12_is_J25
  refine pc_gd (fun c_1 => ?_)
  exact pc_some hZ
theorem k_fX12_is_J24 (N : Nat) (g : Gs) (x0 : Nat) (x1 : Int32) (d : Ds) (hS : Shp g) (hZ : KL d) : pc (fX12_is_J24 N g x0 x1 d) (fun _ d1 => KL d1) := by
  unfold fX12_is_J24
  exact k_fX12_is_J25 N g x0 x1 0 d hS hZ
theorem k_fX12_is (N : Nat) (g : Gs) (x0 : Nat) (x1 : Int32) (d : Ds) (hS : Shp g) (hZ : KL d) : pc (fX12_is N g x0 x1 d) (fun _ d1 => KL d1) := by
  unfold fX12_is
  refine pc_gd (fun c_1 => ?_)
  refine pc_if (fun _ => ?_) (fun _ => ?_)
  · refine pc_ob (fun r4 e_2 => ?_)
    refine pc_gd (fun c_3 => ?_)
    refine pc_gd (fun c_4 => ?_)
    refine pc_if (fun _ => ?_) (fun _ => ?_)
    · exact k_fX12_is_J25 N g x0 x1 1 d hS hZ
    · exact k_fX12_is_J24 N g x0 x1 d hS hZ
  · exact k_fX12_is_J24 N g x0 x1 d hS hZ
theorem k_fX12_fail (N : Nat) (g : Gs) (x0 : Nat) (x1 : Int32) (d : Ds) (hS : Shp g) (hZ : KL d) : pc (fX12_fail N g x0 x1 d) (fun _ d1 => KL d1) := by
  unfold fX12_fail
  refine pc_gd (fun c_1 => ?_)
  refine pc_if (fun _ => ?_) (fun _ => ?_)
  · refine pc_bd (fun d3 e_2 => ?_)
    have z_3 := KL.i hZ e_2
    refine pc_ob (fun r4 e_4 => ?_)
    refine pc_gd (fun c_5 => ?_)
    refine pc_gd (fun c_6 => ?_)
    refine pc_bd (fun d7 e_7 => ?_)
    have z_8 := KL.i z_3 e_7
    exact pc_some z_8
  · exact pc_some hZ
theorem k_fX12_must_J20 (N : Nat) (g : Gs) (x0 : Nat) (x1 : Int32) (d : Ds) (hS : Shp g) (hZ : KL d) : pc (fX12_must_J20 N g x0 x1 d) (fun _ d1 => KL d1) := by
  unfold fX12_must_J20
  exact pc_some hZ
theorem k_fX12_passes_J28 (N : Nat) (g : Gs) (x0 : Nat) (d : Ds) (hS : Shp g) (hZ : KL d) : pc (fX12_passes_J28 N g x0 d) (fun _ d1 => KL d1) := by
  unfold fX12_passes_J28
  exact pc_some hZ
theorem k_fX12_passes (N : Nat) (g : Gs) (x0 : Nat) (d : Ds) (hS : Shp g) (hZ : KL d) : pc (fX12_passes N g x0 d) (fun _ d1 => KL d1) := by
  unfold fX12_passes
  refine pc_gd (fun c_1 => ?_)
  refine pc_if (fun _ => ?_) (fun _ => ?_)
  · refine pc_cv (k_fX12_fail N g x0 2 d hS hZ) (fun d4 z_2 => ?_)
    exact k_fX12_passes_J28 N g x0 d4 hS z_2
  · refine pc_bd (fun d3 e_3 => ?_)
    have z_4 := KL.i hZ e_3
    exact k_fX12_passes_J28 N g x0 d3 hS z_4
theorem k_fX12_must (N : Nat) (g : Gs) (x0 : Nat) (x1 : Int32) (d : Ds) (hS : Shp g) (hZ : KL d) : pc (fX12_must N g x0 x1 d) (fun _ d1 => KL d1) := by
  unfold fX12_must
  refine pc_gd (fun c_1 => ?_)
  refine pc_cb (k_fX12_is N g x0 x1 d hS hZ) (fun u4 d2 z_2 => ?_)
  refine pc_if (fun _ => ?_) (fun _ => ?_)
  · refine pc_cv (k_fX12_fail N g x0 1 d2 hS z_2) (fun d6 z_3 => ?_)
    exact k_fX12_must_J20 N g x0 x1 d6 hS z_3
  · refine pc_cv (k_fX12_passes N g x0 d2 hS z_2) (fun d8 z_4 => ?_)
    exact k_fX12_must_J20 N g x0 x1 d8 hS z_4
theorem k_fX12_tell_J22 (N : Nat) (g : Gs) (x0 : Nat) (d : Ds) (hS : Shp g) (hZ : KL d) : pc (fX12_tell_J22 N g x0 d) (fun _ d1 => KL d1) := by
  unfold fX12_tell_J22
  refine pc_gd (fun c_1 => ?_)
  refine pc_cv (k_fX12_fail N g x0 1 d hS hZ) (fun d8 z_2 => ?_)
  exact pc_some z_2
theorem k_fX12_tell_J56 (N : Nat) (g : Gs) (x0 : Nat) (d : Ds) (hS : Shp g) (hZ : KL d) : pc (fX12_tell_J56 N g x0 d) (fun _ d1 => KL d1) := by
  unfold fX12_tell_J56
  refine pc_gd (fun c_1 => ?_)
  refine pc_cv (k_fX12_fail N g x0 2 d hS hZ) (fun d54 z_2 => ?_)
  exact pc_some z_2
theorem k_fX12_deedRead_J33 (N : Nat) (g : Gs) (x0 : Nat) (d : Ds) (hS : Shp g) (hZ : KL d) : pc (fX12_deedRead_J33 N g x0 d) (fun _ d1 => KL d1) := by
  unfold fX12_deedRead_J33
  refine pc_gd (fun c_1 => ?_)
  refine pc_cv (k_fX12_fail N g x0 1 d hS hZ) (fun d5 z_2 => ?_)
  exact pc_some z_2
theorem k_fX12_deedRead_J55 (N : Nat) (g : Gs) (x0 : Nat) (d : Ds) (hS : Shp g) (hZ : KL d) : pc (fX12_deedRead_J55 N g x0 d) (fun _ d1 => KL d1) := by
  unfold fX12_deedRead_J55
  exact pc_some hZ
theorem k_fX12_deedRead_J109 (N : Nat) (g : Gs) (x0 : Nat) (d : Ds) (hS : Shp g) (hZ : KL d) : pc (fX12_deedRead_J109 N g x0 d) (fun _ d1 => KL d1) := by
  unfold fX12_deedRead_J109
  refine pc_gd (fun c_1 => ?_)
  refine pc_cv (k_fX12_must N g x0 2 d hS hZ) (fun d26 z_2 => ?_)
  exact pc_some z_2
theorem k_fX12_deedRead_J97 (N : Nat) (g : Gs) (x0 : Nat) (d : Ds) (hS : Shp g) (hZ : KL d) : pc (fX12_deedRead_J97 N g x0 d) (fun _ d1 => KL d1) := by
  unfold fX12_deedRead_J97
  refine pc_gd (fun c_1 => ?_)
  refine pc_cv (k_fX12_passes N g x0 d hS hZ) (fun d23 z_2 => ?_)
  exact k_fX12_deedRead_J109 N g x0 d23 hS z_2
theorem k_fX12_deedRead_J72 (N : Nat) (g : Gs) (x0 : Nat) (y1 : Int32) (d : Ds) (hS : Shp g) (hZ : KL d) : pc (fX12_deedRead_J72 N g x0 y1 d) (fun _ d1 => KL d1) := by
  unfold fX12_deedRead_J72
  refine pc_if (fun _ => ?_) (fun _ => ?_)
  · refine pc_gd (fun c_1 => ?_)
    refine pc_cb (k_fX12_is N g x0 33 d hS hZ) (fun u20 d18 z_2 => ?_)
    refine pc_if (fun _ => ?_) (fun _ => ?_)
    · refine pc_cb (k_fX12_is N g x0 32 d18 hS z_2) (fun u30 d28 z_3 => ?_)
      refine pc_if (fun _ => ?_) (fun _ => ?_)
      · refine pc_cv (k_fX12_fail N g x0 1 d28 hS z_3) (fun d32 z_4 => ?_)
        exact k_fX12_deedRead_J109 N g x0 d32 hS z_4
      · exact k_fX12_deedRead_J97 N g x0 d28 hS z_3
    · exact k_fX12_deedRead_J97 N g x0 d18 hS z_2
  · exact pc_some hZ
theorem k_fX12_deedRead_J20 (N : Nat) (g : Gs) (x0 : Nat) (z0 : Int32) (d : Ds) (hS : Shp g) (hZ : KL d) : pc (fX12_deedRead_J20 N g x0 z0 d) (fun _ d1 => KL d1) := by
  unfold fX12_deedRead_J20
  refine pc_if (fun _ => ?_) (fun _ => ?_)
  · exact k_fX12_deedRead_J33 N g x0 d hS hZ
  · refine pc_if (fun _ => ?_) (fun _ => ?_)
    · refine pc_gd (fun c_1 => ?_)
      refine pc_cv (k_fX12_passes N g x0 d hS hZ) (fun d9 z_2 => ?_)
      refine pc_if (fun _ => ?_) (fun _ => ?_)
      · exact k_fX12_deedRead_J55 N g x0 d9 hS z_2
      · refine pc_if (fun _ => ?_) (fun _ => ?_)
        · exact k_fX12_deedRead_J55 N g x0 d9 hS z_2
        · refine pc_cv (k_fX12_must N g x0 2 d9 hS z_2) (fun d13 z_3 => ?_)
          refine pc_if (fun _ => ?_) (fun _ => ?_)
          · refine pc_cv (k_fX12_must N g x0 2 d13 hS z_3) (fun d34 z_4 => ?_)
            exact k_fX12_deedRead_J72 N g x0 z0 d34 hS z_4
          · exact k_fX12_deedRead_J72 N g x0 z0 d13 hS z_3
    · exact k_fX12_deedRead_J33 N g x0 d hS hZ
theorem k_fX12_deedRead (N : Nat) (g : Gs) (x0 : Nat) (d : Ds) (hS : Shp g) (hZ : KL d) : pc (fX12_deedRead N g x0 d) (fun _ d1 => KL d1) := by
  unfold fX12_deedRead
  refine pc_gd (fun c_1 => ?_)
  refine pc_if (fun _ => ?_) (fun _ => ?_)
  · refine pc_ob (fun r36 e_2 => ?_)
    refine pc_gd (fun c_3 => ?_)
    refine pc_gd (fun c_4 => ?_)
    exact k_fX12_deedRead_J20 N g x0 (dI d r36 (dI d x0 11).toNatClampNeg) d hS hZ
  · exact k_fX12_deedRead_J20 N g x0 0 d hS hZ
theorem k_fX12_tell_J188 (N : Nat) (g : Gs) (x0 : Nat) (d : Ds) (hS : Shp g) (hZ : KL d) : pc (fX12_tell_J188 N g x0 d) (fun _ d1 => KL d1) := by
  unfold fX12_tell_J188
  refine pc_gd (fun c_1 => ?_)
  refine pc_cv (k_fX12_must N g x0 4 d hS hZ) (fun d29 z_2 => ?_)
  exact pc_some z_2
theorem k_fX12_tell_J182 (N : Nat) (g : Gs) (x0 : Nat) (K156 : Int32 × Ds → Option (Unit × Ds)) (y2 : Int32) (d : Ds) (hS : Shp g) (hZ : KL d) (hK156 : ∀ a, KL a.2 → pc (K156 a) (fun _ d1 => KL d1)) : pc (fX12_tell_J182 N g x0 K156 y2 d) (fun _ d1 => KL d1) := by
  unfold fX12_tell_J182
  refine pc_bd (fun u39 e_1 => ?_)
  exact hK156 _ hZ
theorem k_fX12_tell_B156 (N : Nat) (g : Gs) (x0 : Nat) (K156 : Int32 × Ds → Option (Unit × Ds)) (y2 : Int32) (d : Ds) (hS : Shp g) (hZ : KL d) (hK156 : ∀ a, KL a.2 → pc (K156 a) (fun _ d1 => KL d1)) : pc (fX12_tell_B156 N g x0 K156 y2 d) (fun _ d1 => KL d1) := by
  unfold fX12_tell_B156
  refine pc_gd (fun c_1 => ?_)
  refine pc_cb (k_fX12_is N g x0 2 d hS hZ) (fun u34 d32 z_2 => ?_)
  refine pc_if (fun _ => ?_) (fun _ => ?_)
  · exact k_fX12_tell_J188 N g x0 d32 hS z_2
  · refine pc_if (fun _ => ?_) (fun _ => ?_)
    · refine pc_cv (k_fX12_fail N g x0 2 d32 hS z_2) (fun d40 z_3 => ?_)
      exact k_fX12_tell_J182 N g x0 K156 y2 d40 hS z_3 hK156
    · refine pc_cv (k_fX12_passes N g x0 d32 hS z_2) (fun d37 z_4 => ?_)
      exact k_fX12_tell_J182 N g x0 K156 y2 d37 hS z_4 hK156
theorem k_fX12_tell_L156 (N : Nat) (g : Gs) (x0 : Nat) (hS : Shp g) (a0 : Int32) (a1 : Ds) (hZ : KL a1) : pc (fX12_tell_L156 N g x0 (a0, a1)) (fun _ d1 => KL d1) := by
  unfold fX12_tell_L156
  refine pc_lp (fun a => KL a.2) ?_ N (a0, a1) hZ
  rintro K ⟨a0, a1⟩ hZ hK
  exact k_fX12_tell_B156 N g x0 K a0 a1 hS hZ hK
theorem k_fX12_tell_J148 (N : Nat) (g : Gs) (x0 : Nat) (y1 : Int32) (d : Ds) (hS : Shp g) (hZ : KL d) : pc (fX12_tell_J148 N g x0 y1 d) (fun _ d1 => KL d1) := by
  unfold fX12_tell_J148
  refine pc_if (fun _ => ?_) (fun _ => ?_)
  · exact k_fX12_tell_L156 N g x0 hS 1 d hZ
  · exact k_fX12_tell_J188 N g x0 d hS hZ
theorem k_fX12_tell_J144 (N : Nat) (g : Gs) (x0 : Nat) (y1 : Int32) (d : Ds) (hS : Shp g) (hZ : KL d) : pc (fX12_tell_J144 N g x0 y1 d) (fun _ d1 => KL d1) := by
  unfold fX12_tell_J144
  refine pc_gd (fun c_1 => ?_)
  refine pc_cv (k_fX12_deedRead N g x0 d hS hZ) (fun d25 z_2 => ?_)
  exact k_fX12_tell_J148 N g x0 y1 d25 hS z_2
theorem k_fX12_tell_J132 (N : Nat) (g : Gs) (x0 : Nat) (y1 : Int32) (d : Ds) (hS : Shp g) (hZ : KL d) : pc (fX12_tell_J132 N g x0 y1 d) (fun _ d1 => KL d1) := by
  unfold fX12_tell_J132
  refine pc_if (fun _ => ?_) (fun _ => ?_)
  · exact k_fX12_tell_J144 N g x0 y1 d hS hZ
  · refine pc_if (fun _ => ?_) (fun _ => ?_)
    · exact k_fX12_tell_J144 N g x0 y1 d hS hZ
    · exact k_fX12_tell_J148 N g x0 y1 d hS hZ
theorem k_fX12_tell_J127 (N : Nat) (g : Gs) (x0 : Nat) (y1 : Int32) (d : Ds) (hS : Shp g) (hZ : KL d) : pc (fX12_tell_J127 N g x0 y1 d) (fun _ d1 => KL d1) := by
  unfold fX12_tell_J127
  refine pc_gd (fun c_1 => ?_)
  refine pc_cv (k_fX12_must N g x0 2 d hS hZ) (fun d21 z_2 => ?_)
  exact k_fX12_tell_J132 N g x0 y1 d21 hS z_2
theorem k_fX12_tell_J109 (N : Nat) (g : Gs) (x0 : Nat) (y1 : Int32) (d : Ds) (hS : Shp g) (hZ : KL d) : pc (fX12_tell_J109 N g x0 y1 d) (fun _ d1 => KL d1) := by
  unfold fX12_tell_J109
  refine pc_if (fun _ => ?_) (fun _ => ?_)
  · exact k_fX12_tell_J127 N g x0 y1 d hS hZ
  · refine pc_if (fun _ => ?_) (fun _ => ?_)
    · exact k_fX12_tell_J127 N g x0 y1 d hS hZ
    · refine pc_if (fun _ => ?_) (fun _ => ?_)
      · exact k_fX12_tell_J127 N g x0 y1 d hS hZ
      · exact k_fX12_tell_J132 N g x0 y1 d hS hZ
theorem k_fX12_tell_J98 (N : Nat) (g : Gs) (x0 : Nat) (y1 : Int32) (d : Ds) (hS : Shp g) (hZ : KL d) : pc (fX12_tell_J98 N g x0 y1 d) (fun _ d1 => KL d1) := by
  unfold fX12_tell_J98
  refine pc_if (fun _ => ?_) (fun _ => ?_)
  · exact k_fX12_tell_J109 N g x0 y1 d hS hZ
  · refine pc_gd (fun c_1 => ?_)
    refine pc_cv (k_fX12_must N g x0 2 d hS hZ) (fun d46 z_2 => ?_)
    exact k_fX12_tell_J109 N g x0 y1 d46 hS z_2
theorem k_fX12_tell_J82 (N : Nat) (g : Gs) (x0 : Nat) (y1 : Int32) (d : Ds) (hS : Shp g) (hZ : KL d) : pc (fX12_tell_J82 N g x0 y1 d) (fun _ d1 => KL d1) := by
  unfold fX12_tell_J82
  refine pc_if (fun _ => ?_) (fun _ => ?_)
  · refine pc_gd (fun c_1 => ?_)
    refine pc_bd (fun d49 e_2 => ?_)
    have z_3 := KL.i hZ e_2
    exact k_fX12_tell_J98 N g x0 y1 d49 hS z_3
  · exact k_fX12_tell_J98 N g x0 y1 d hS hZ
theorem k_fX12_tell_J62 (N : Nat) (g : Gs) (x0 : Nat) (y1 : Int32) (d : Ds) (hS : Shp g) (hZ : KL d) : pc (fX12_tell_J62 N g x0 y1 d) (fun _ d1 => KL d1) := by
  unfold fX12_tell_J62
  refine pc_gd (fun c_1 => ?_)
  refine pc_cv (k_fX12_passes N g x0 d hS hZ) (fun d14 z_2 => ?_)
  refine pc_if (fun _ => ?_) (fun _ => ?_)
  · refine pc_bd (fun d50 e_3 => ?_)
    have z_4 := KL.i z_2 e_3
    exact k_fX12_tell_J82 N g x0 y1 d50 hS z_4
  · exact k_fX12_tell_J82 N g x0 y1 d14 hS z_2
theorem k_fX12_tell_J42 (N : Nat) (g : Gs) (x0 : Nat) (y1 : Int32) (d : Ds) (hS : Shp g) (hZ : KL d) : pc (fX12_tell_J42 N g x0 y1 d) (fun _ d1 => KL d1) := by
  unfold fX12_tell_J42
  refine pc_if (fun _ => ?_) (fun _ => ?_)
  · refine pc_gd (fun c_1 => ?_)
    refine pc_if (fun _ => ?_) (fun _ => ?_)
    · exact k_fX12_tell_J56 N g x0 d hS hZ
    · exact k_fX12_tell_J62 N g x0 y1 d hS hZ
  · exact k_fX12_tell_J62 N g x0 y1 d hS hZ
theorem k_fX12_tell (N : Nat) (g : Gs) (x0 : Nat) (d : Ds) (hS : Shp g) (hZ : KL d) : pc (fX12_tell N g x0 d) (fun _ d1 => KL d1) := by
  unfold fX12_tell
  refine pc_gd (fun c_1 => ?_)
  refine pc_ob (fun r2 e_2 => ?_)
  refine pc_gd (fun c_3 => ?_)
  refine pc_gd (fun c_4 => ?_)
  refine pc_bd (fun u5 e_5 => ?_)
  refine pc_if (fun _ => ?_) (fun _ => ?_)
  · exact k_fX12_tell_J22 N g x0 d hS hZ
  · refine pc_if (fun _ => ?_) (fun _ => ?_)
    · refine pc_if (fun _ => ?_) (fun _ => ?_)
      · refine pc_if (fun _ => ?_) (fun _ => ?_)
        · exact k_fX12_tell_J56 N g x0 d hS hZ
        · exact k_fX12_tell_J42 N g x0 u5 d hS hZ
      · exact k_fX12_tell_J42 N g x0 u5 d hS hZ
    · exact k_fX12_tell_J22 N g x0 d hS hZ
theorem k_fX12_begins_J76 (N : Nat) (g : Gs) (x0 : Nat) (K52 : Int32 × Ds → Option (Unit × Ds)) (y1 : Int32) (z0 : Int32) (z1 : Int32) (z2 : Nat) (d : Ds) (hS : Shp g) (hZ : KL d) (hK52 : ∀ a, KL a.2 → pc (K52 a) (fun _ d1 => KL d1)) : pc (fX12_begins_J76 N g x0 K52 y1 z0 z1 z2 d) (fun _ d1 => KL d1) := by
  unfold fX12_begins_J76
  refine pc_gd (fun c_1 => ?_)
  refine pc_gd (fun c_2 => ?_)
  refine pc_bd (fun d19 e_3 => ?_)
  have z_4 := KL.i hZ e_3
  refine pc_gd (fun c_5 => ?_)
  refine pc_gd (fun c_6 => ?_)
  refine pc_bd (fun d22 e_7 => ?_)
  have z_8 := KL.i z_4 e_7
  refine pc_gd (fun c_9 => ?_)
  refine pc_bd (fun d24 e_10 => ?_)
  have z_11 := KL.i z_8 e_10
  refine pc_bd (fun u25 e_12 => ?_)
  exact hK52 _ z_11
theorem k_fX12_begins_B52 (N : Nat) (g : Gs) (x0 : Nat) (K52 : Int32 × Ds → Option (Unit × Ds)) (y1 : Int32) (d : Ds) (hS : Shp g) (hZ : KL d) (hK52 : ∀ a, KL a.2 → pc (K52 a) (fun _ d1 => KL d1)) : pc (fX12_begins_B52 N g x0 K52 y1 d) (fun _ d1 => KL d1) := by
  unfold fX12_begins_B52
  refine pc_if (fun _ => ?_) (fun _ => ?_)
  · exact pc_some hZ
  · refine pc_if (fun _ => ?_) (fun _ => ?_)
    · exact k_fX12_begins_J76 N g x0 K52 y1 5 ((12 : Int32) + ((3 : Int32) * y1)) x0 d hS hZ hK52
    · exact k_fX12_begins_J76 N g x0 K52 y1 4 ((12 : Int32) + ((3 : Int32) * y1)) x0 d hS hZ hK52
theorem k_fX12_begins_L52 (N : Nat) (g : Gs) (x0 : Nat) (hS : Shp g) (a0 : Int32) (a1 : Ds) (hZ : KL a1) : pc (fX12_begins_L52 N g x0 (a0, a1)) (fun _ d1 => KL d1) := by
  unfold fX12_begins_L52
  refine pc_lp (fun a => KL a.2) ?_ N (a0, a1) hZ
  rintro K ⟨a0, a1⟩ hZ hK
  exact k_fX12_begins_B52 N g x0 K a0 a1 hS hZ hK
theorem k_fX12_begins_B2 (N : Nat) (g : Gs) (x0 : Nat) (K2 : Int32 × Ds → Option (Unit × Ds)) (y1 : Int32) (d : Ds) (hS : Shp g) (hZ : KL d) (hK2 : ∀ a, KL a.2 → pc (K2 a) (fun _ d1 => KL d1)) : pc (fX12_begins_B2 N g x0 K2 y1 d) (fun _ d1 => KL d1) := by
  unfold fX12_begins_B2
  refine pc_if (fun _ => ?_) (fun _ => ?_)
  · refine pc_gd (fun c_1 => ?_)
    refine pc_gd (fun c_2 => ?_)
    refine pc_bd (fun d4 e_3 => ?_)
    have z_4 := KL.i hZ e_3
    refine pc_gd (fun c_5 => ?_)
    refine pc_bd (fun d6 e_6 => ?_)
    have z_7 := KL.i z_4 e_6
    refine pc_gd (fun c_8 => ?_)
    refine pc_bd (fun d8 e_9 => ?_)
    have z_10 := KL.i z_7 e_9
    refine pc_gd (fun c_11 => ?_)
    refine pc_bd (fun d10 e_12 => ?_)
    have z_13 := KL.i z_10 e_12
    refine pc_gd (fun c_14 => ?_)
    refine pc_bd (fun d12 e_15 => ?_)
    have z_16 := KL.i z_13 e_15
    refine pc_gd (fun c_17 => ?_)
    refine pc_bd (fun d14 e_18 => ?_)
    have z_19 := KL.i z_16 e_18
    exact k_fX12_begins_L52 N g x0 hS 0 d14 z_19
  · refine pc_gd (fun c_20 => ?_)
    refine pc_gd (fun c_21 => ?_)
    refine pc_bd (fun d28 e_22 => ?_)
    have z_23 := KL.i hZ e_22
    refine pc_bd (fun u29 e_24 => ?_)
    exact hK2 _ z_23
theorem k_fX12_begins_L2 (N : Nat) (g : Gs) (x0 : Nat) (hS : Shp g) (a0 : Int32) (a1 : Ds) (hZ : KL a1) : pc (fX12_begins_L2 N g x0 (a0, a1)) (fun _ d1 => KL d1) := by
  unfold fX12_begins_L2
  refine pc_lp (fun a => KL a.2) ?_ N (a0, a1) hZ
  rintro K ⟨a0, a1⟩ hZ hK
  exact k_fX12_begins_B2 N g x0 K a0 a1 hS hZ hK
theorem k_fX12_begins (N : Nat) (g : Gs) (x0 : Nat) (d : Ds) (hS : Shp g) (hZ : KL d) : pc (fX12_begins N g x0 d) (fun _ d1 => KL d1) := by
  unfold fX12_begins
  exact k_fX12_begins_L2 N g x0 hS 0 d hZ
theorem k_fX12_in_J15 (N : Nat) (g : Gs) (x0 : Int32) (x1 : Int32) (x2 : Int32) (z0 : Int32) (d : Ds) (hS : Shp g) (hZ : KL d) : pc (fX12_in_J15 N g x0 x1 x2 z0 d) (fun _ d1 => KL d1) := by
  unfold fX12_in_J15
  refine pc_gd (fun c_1 => ?_)
  exact pc_some hZ
theorem k_fX12_in_J14 (N : Nat) (g : Gs) (x0 : Int32) (x1 : Int32) (x2 : Int32) (d : Ds) (hS : Shp g) (hZ : KL d) : pc (fX12_in_J14 N g x0 x1 x2 d) (fun _ d1 => KL d1) := by
  unfold fX12_in_J14
  exact k_fX12_in_J15 N g x0 x1 x2 0 d hS hZ
theorem k_fX12_in (N : Nat) (g : Gs) (x0 : Int32) (x1 : Int32) (x2 : Int32) (d : Ds) (hS : Shp g) (hZ : KL d) : pc (fX12_in N g x0 x1 x2 d) (fun _ d1 => KL d1) := by
  unfold fX12_in
  refine pc_if (fun _ => ?_) (fun _ => ?_)
  · exact k_fX12_in_J14 N g x0 x1 x2 d hS hZ
  · refine pc_if (fun _ => ?_) (fun _ => ?_)
    · exact k_fX12_in_J14 N g x0 x1 x2 d hS hZ
    · exact k_fX12_in_J15 N g x0 x1 x2 1 d hS hZ
theorem k_fX12_wrong_J45 (N : Nat) (g : Gs) (x0 : Nat) (x1 : Int32) (x2 : Int32) (d : Ds) (hS : Shp g) (hZ : KL d) : pc (fX12_wrong_J45 N g x0 x1 x2 d) (fun _ d1 => KL d1) := by
  unfold fX12_wrong_J45
  exact pc_some hZ
theorem k_fX12_wrong_J46 (N : Nat) (g : Gs) (x0 : Nat) (x1 : Int32) (x2 : Int32) (y3 : Int32) (d : Ds) (hS : Shp g) (hZ : KL d) : pc (fX12_wrong_J46 N g x0 x1 x2 y3 d) (fun _ d1 => KL d1) := by
  unfold fX12_wrong_J46
  refine pc_gd (fun c_1 => ?_)
  refine pc_bd (fun d9 e_2 => ?_)
  have z_3 := KL.i hZ e_2
  refine pc_bd (fun d10 e_4 => ?_)
  have z_5 := KL.i z_3 e_4
  exact pc_some z_5
theorem k_fX12_wrong (N : Nat) (g : Gs) (x0 : Nat) (x1 : Int32) (x2 : Int32) (d : Ds) (hS : Shp g) (hZ : KL d) : pc (fX12_wrong N g x0 x1 x2 d) (fun _ d1 => KL d1) := by
  unfold fX12_wrong
  refine pc_gd (fun c_1 => ?_)
  refine pc_ob (fun r2 e_2 => ?_)
  refine pc_gd (fun c_3 => ?_)
  refine pc_gd (fun c_4 => ?_)
  refine pc_bd (fun u5 e_5 => ?_)
  refine pc_if (fun _ => ?_) (fun _ => ?_)
  · exact k_fX12_wrong_J45 N g x0 x1 x2 d hS hZ
  · refine pc_if (fun _ => ?_) (fun _ => ?_)
    · exact k_fX12_wrong_J46 N g x0 x1 x2 u5 d hS hZ
    · refine pc_if (fun _ => ?_) (fun _ => ?_)
      · exact k_fX12_wrong_J45 N g x0 x1 x2 d hS hZ
      · refine pc_if (fun _ => ?_) (fun _ => ?_)
        · refine pc_if (fun _ => ?_) (fun _ => ?_)
          · exact k_fX12_wrong_J46 N g x0 x1 x2 u5 d hS hZ
          · exact k_fX12_wrong_J45 N g x0 x1 x2 d hS hZ
        · exact k_fX12_wrong_J46 N g x0 x1 x2 u5 d hS hZ
theorem k_fX12_within_J20 (N : Nat) (g : Gs) (x0 : Nat) (x1 : Int32) (x2 : Int32) (x3 : Int32) (d : Ds) (hS : Shp g) (hZ : KL d) : pc (fX12_within_J20 N g x0 x1 x2 x3 d) (fun _ d1 => KL d1) := by
  unfold fX12_within_J20
  refine pc_gd (fun c_1 => ?_)
  refine pc_ob (fun r10 e_2 => ?_)
  refine pc_gd (fun c_3 => ?_)
  refine pc_gd (fun c_4 => ?_)
  exact pc_some hZ
theorem k_fX12_within (N : Nat) (g : Gs) (x0 : Nat) (x1 : Int32) (x2 : Int32) (x3 : Int32) (d : Ds) (hS : Shp g) (hZ : KL d) : pc (fX12_within N g x0 x1 x2 x3 d) (fun _ d1 => KL d1) := by
  unfold fX12_within
  refine pc_gd (fun c_1 => ?_)
  refine pc_ob (fun r2 e_2 => ?_)
  refine pc_gd (fun c_3 => ?_)
  refine pc_gd (fun c_4 => ?_)
  refine pc_cb (k_fX12_in N g (dI d r2 x1.toNatClampNeg) x2 x3 d hS hZ) (fun u7 d5 z_5 => ?_)
  refine pc_if (fun _ => ?_) (fun _ => ?_)
  · refine pc_cv (k_fX12_wrong N g x0 5 x1 d5 hS z_5) (fun d13 z_6 => ?_)
    exact k_fX12_within_J20 N g x0 x1 x2 x3 d13 hS z_6
  · exact k_fX12_within_J20 N g x0 x1 x2 x3 d5 hS z_5
theorem k_fX12_meansLine_J219 (N : Nat) (g : Gs) (x0 : Nat) (x1 : Int32) (d : Ds) (hS : Shp g) (hZ : KL d) : pc (fX12_meansLine_J219 N g x0 x1 d) (fun _ d1 => KL d1) := by
  unfold fX12_meansLine_J219
  exact pc_some hZ
theorem k_fX12_meansLine_J175 (N : Nat) (g : Gs) (x0 : Nat) (x1 : Int32) (d : Ds) (hS : Shp g) (hZ : KL d) : pc (fX12_meansLine_J175 N g x0 x1 d) (fun _ d1 => KL d1) := by
  unfold fX12_meansLine_J175
  refine pc_gd (fun c_1 => ?_)
  refine pc_ob (fun r57 e_2 => ?_)
  refine pc_cb (k_fX12_within N g x0 (x1 + 2) 1 20 d hS hZ) (fun u60 d58 z_3 => ?_)
  refine pc_gd (fun c_4 => ?_)
  refine pc_gd (fun c_5 => ?_)
  refine pc_bd (fun d63 e_6 => ?_)
  have z_7 := KL.i z_3 e_6
  exact k_fX12_meansLine_J219 N g x0 x1 d63 hS z_7
theorem k_fX12_keyTold_J32 (N : Nat) (g : Gs) (x0 : Nat) (x1 : Int32) (z0 : Int32) (d : Ds) (hS : Shp g) (hZ : KL d) : pc (fX12_keyTold_J32 N g x0 x1 z0 d) (fun _ d1 => KL d1) := by
  unfold fX12_keyTold_J32
  exact pc_some hZ
theorem k_fX12_keyTold (N : Nat) (g : Gs) (x0 : Nat) (x1 : Int32) (d : Ds) (hS : Shp g) (hZ : KL d) : pc (fX12_keyTold N g x0 x1 d) (fun _ d1 => KL d1) := by
  unfold fX12_keyTold
  refine pc_gd (fun c_1 => ?_)
  refine pc_if (fun _ => ?_) (fun _ => ?_)
  · exact k_fX12_keyTold_J32 N g x0 x1 0 d hS hZ
  · refine pc_ob (fun r3 e_2 => ?_)
    refine pc_gd (fun c_3 => ?_)
    refine pc_gd (fun c_4 => ?_)
    refine pc_gd (fun c_5 => ?_)
    refine pc_cb (k_fX12_within N g x0 x1 0 (((dI d r3 (0 : Int32).toNatClampNeg) * (dI d r3 (1 : Int32).toNatClampNeg)) - 1) d hS hZ) (fun u9 d7 z_6 => ?_)
    exact k_fX12_keyTold_J32 N g x0 x1 u9 d7 hS z_6
theorem k_fX12_meansDeed_J347 (N : Nat) (g : Gs) (x0 : Nat) (x1 : Int32) (d : Ds) (hS : Shp g) (hZ : KL d) : pc (fX12_meansDeed_J347 N g x0 x1 d) (fun _ d1 => KL d1) := by
  unfold fX12_meansDeed_J347
  exact pc_some hZ
theorem k_fX12_meansDeed_J153 (N : Nat) (g : Gs) (x0 : Nat) (x1 : Int32) (d : Ds) (hS : Shp g) (hZ : KL d) : pc (fX12_meansDeed_J153 N g x0 x1 d) (fun _ d1 => KL d1) := by
  unfold fX12_meansDeed_J153
  refine pc_gd (fun c_1 => ?_)
  refine pc_ob (fun r43 e_2 => ?_)
  refine pc_cb (k_fX12_within N g x0 (x1 + 1) 1 3 d hS hZ) (fun u46 d44 z_3 => ?_)
  refine pc_gd (fun c_4 => ?_)
  refine pc_gd (fun c_5 => ?_)
  refine pc_bd (fun d49 e_6 => ?_)
  have z_7 := KL.i z_3 e_6
  exact k_fX12_meansDeed_J347 N g x0 x1 d49 hS z_7
theorem k_fX12_meansDeed_J275 (N : Nat) (g : Gs) (x0 : Nat) (x1 : Int32) (z0 : Int32) (z1 : Int32) (z2 : Nat) (d : Ds) (hS : Shp g) (hZ : KL d) : pc (fX12_meansDeed_J275 N g x0 x1 z0 z1 z2 d) (fun _ d1 => KL d1) := by
  unfold fX12_meansDeed_J275
  refine pc_gd (fun c_1 => ?_)
  refine pc_gd (fun c_2 => ?_)
  refine pc_bd (fun d79 e_3 => ?_)
  have z_4 := KL.i hZ e_3
  exact k_fX12_meansDeed_J347 N g x0 x1 d79 hS z_4
theorem k_fX12_meansDeed_J226 (N : Nat) (g : Gs) (x0 : Nat) (x1 : Int32) (y2 : Int32) (z0 : Int32) (z1 : Int32) (z2 : Nat) (d : Ds) (hS : Shp g) (hZ : KL d) : pc (fX12_meansDeed_J226 N g x0 x1 y2 z0 z1 z2 d) (fun _ d1 => KL d1) := by
  unfold fX12_meansDeed_J226
  refine pc_gd (fun c_1 => ?_)
  refine pc_gd (fun c_2 => ?_)
  refine pc_bd (fun d64 e_3 => ?_)
  have z_4 := KL.i hZ e_3
  refine pc_gd (fun c_5 => ?_)
  refine pc_ob (fun r66 e_6 => ?_)
  refine pc_cb (k_fX12_within N g x0 (x1 + 1) 1 200 d64 hS z_4) (fun u69 d67 z_7 => ?_)
  refine pc_gd (fun c_8 => ?_)
  refine pc_gd (fun c_9 => ?_)
  refine pc_bd (fun d72 e_10 => ?_)
  have z_11 := KL.i z_7 e_10
  refine pc_if (fun _ => ?_) (fun _ => ?_)
  · refine pc_cb (k_fX12_within N g x0 (x1 + 3) 0 7 d72 hS z_11) (fun u76 d74 z_12 => ?_)
    exact k_fX12_meansDeed_J275 N g x0 x1 u76 2 r66 d74 hS z_12
  · refine pc_cb (k_fX12_within N g x0 (x1 + 3) 1 3 d72 hS z_11) (fun u82 d80 z_13 => ?_)
    exact k_fX12_meansDeed_J275 N g x0 x1 u82 2 r66 d80 hS z_13
theorem k_fX12_meansDeed_J209 (N : Nat) (g : Gs) (x0 : Nat) (x1 : Int32) (z0 : Int32) (d : Ds) (hS : Shp g) (hZ : KL d) : pc (fX12_meansDeed_J209 N g x0 x1 z0 d) (fun _ d1 => KL d1) := by
  unfold fX12_meansDeed_J209
  refine pc_gd (fun c_1 => ?_)
  refine pc_ob (fun r60 e_2 => ?_)
  refine pc_if (fun _ => ?_) (fun _ => ?_)
  · exact k_fX12_meansDeed_J226 N g x0 x1 z0 7 0 r60 d hS hZ
  · exact k_fX12_meansDeed_J226 N g x0 x1 z0 6 0 r60 d hS hZ
theorem k_fX12_meansDeed (N : Nat) (g : Gs) (x0 : Nat) (x1 : Int32) (d : Ds) (hS : Shp g) (hZ : KL d) : pc (fX12_meansDeed N g x0 x1 d) (fun _ d1 => KL d1) := by
  unfold fX12_meansDeed
  refine pc_gd (fun c_1 => ?_)
  refine pc_ob (fun r2 e_2 => ?_)
  refine pc_gd (fun c_3 => ?_)
  refine pc_gd (fun c_4 => ?_)
  refine pc_bd (fun d5 e_5 => ?_)
  have z_6 := KL.i hZ e_5
  refine pc_gd (fun c_7 => ?_)
  refine pc_bd (fun d7 e_8 => ?_)
  have z_9 := KL.i z_6 e_8
  refine pc_ob (fun r8 e_10 => ?_)
  refine pc_gd (fun c_11 => ?_)
  refine pc_gd (fun c_12 => ?_)
  refine pc_if (fun _ => ?_) (fun _ => ?_)
  · refine pc_gd (fun c_13 => ?_)
    refine pc_bd (fun d13 e_14 => ?_)
    have z_15 := KL.i z_9 e_14
    refine pc_cb (k_fX12_within N g x0 (x1 + 1) 0 3 d13 hS z_15) (fun u16 d14 z_16 => ?_)
    refine pc_bd (fun d17 e_17 => ?_)
    have z_18 := KL.i z_16 e_17
    exact k_fX12_meansDeed_J347 N g x0 x1 d17 hS z_18
  · refine pc_if (fun _ => ?_) (fun _ => ?_)
    · refine pc_gd (fun c_19 => ?_)
      refine pc_bd (fun d20 e_20 => ?_)
      have z_21 := KL.i z_9 e_20
      refine pc_cb (k_fX12_within N g x0 (x1 + 1) 1 200 d20 hS z_21) (fun u23 d21 z_22 => ?_)
      refine pc_bd (fun d24 e_23 => ?_)
      have z_24 := KL.i z_22 e_23
      exact k_fX12_meansDeed_J347 N g x0 x1 d24 hS z_24
    · refine pc_if (fun _ => ?_) (fun _ => ?_)
      · refine pc_gd (fun c_25 => ?_)
        refine pc_bd (fun d27 e_26 => ?_)
        have z_27 := KL.i z_9 e_26
        refine pc_cb (k_fX12_within N g x0 (x1 + 1) 0 7 d27 hS z_27) (fun u30 d28 z_28 => ?_)
        refine pc_bd (fun d31 e_29 => ?_)
        have z_30 := KL.i z_28 e_29
        exact k_fX12_meansDeed_J347 N g x0 x1 d31 hS z_30
      · refine pc_if (fun _ => ?_) (fun _ => ?_)
        · refine pc_gd (fun c_31 => ?_)
          refine pc_bd (fun d34 e_32 => ?_)
          have z_33 := KL.i z_9 e_32
          refine pc_cb (k_fX12_within N g x0 (x1 + 1) 1 3 d34 hS z_33) (fun u37 d35 z_34 => ?_)
          refine pc_bd (fun d38 e_35 => ?_)
          have z_36 := KL.i z_34 e_35
          exact k_fX12_meansDeed_J347 N g x0 x1 d38 hS z_36
        · refine pc_if (fun _ => ?_) (fun _ => ?_)
          · refine pc_gd (fun c_37 => ?_)
            refine pc_bd (fun d41 e_38 => ?_)
            have z_39 := KL.i z_9 e_38
            exact k_fX12_meansDeed_J153 N g x0 x1 d41 hS z_39
          · refine pc_if (fun _ => ?_) (fun _ => ?_)
            · refine pc_gd (fun c_40 => ?_)
              refine pc_bd (fun d52 e_41 => ?_)
              have z_42 := KL.i z_9 e_41
              exact k_fX12_meansDeed_J347 N g x0 x1 d52 hS z_42
            · refine pc_if (fun _ => ?_) (fun _ => ?_)
              · refine pc_gd (fun c_43 => ?_)
                refine pc_bd (fun d55 e_44 => ?_)
                have z_45 := KL.i z_9 e_44
                exact k_fX12_meansDeed_J347 N g x0 x1 d55 hS z_45
              · refine pc_if (fun _ => ?_) (fun _ => ?_)
                · refine pc_gd (fun c_46 => ?_)
                  refine pc_if (fun _ => ?_) (fun _ => ?_)
                  · exact k_fX12_meansDeed_J209 N g x0 x1 1 d7 hS z_9
                  · exact k_fX12_meansDeed_J209 N g x0 x1 0 d7 hS z_9
                · refine pc_if (fun _ => ?_) (fun _ => ?_)
                  · refine pc_gd (fun c_47 => ?_)
                    refine pc_bd (fun d85 e_48 => ?_)
                    have z_49 := KL.i z_9 e_48
                    refine pc_cb (k_fX12_within N g x0 (x1 + 1) 1 200 d85 hS z_49) (fun u88 d86 z_50 => ?_)
                    refine pc_bd (fun d89 e_51 => ?_)
                    have z_52 := KL.i z_50 e_51
                    refine pc_cb (k_fX12_within N g x0 (x1 + 2) 1 200 d89 hS z_52) (fun u92 d90 z_53 => ?_)
                    refine pc_bd (fun d93 e_54 => ?_)
                    have z_55 := KL.i z_53 e_54
                    exact k_fX12_meansDeed_J347 N g x0 x1 d93 hS z_55
                  · exact pc_none
theorem k_fX12_meansKey_B36 (N : Nat) (g : Gs) (x0 : Nat) (x1 : Int32) (K36 : Int32 × Int32 × Int32 × Ds → Option (Unit × Ds)) (y2 : Int32) (y3 : Int32) (y4 : Int32) (d : Ds) (hS : Shp g) (hZ : KL d) (hK36 : ∀ a, KL a.2.2.2 → pc (K36 a) (fun _ d1 => KL d1)) : pc (fX12_meansKey_B36 N g x0 x1 K36 y2 y3 y4 d) (fun _ d1 => KL d1) := by
  unfold fX12_meansKey_B36
  refine pc_if (fun _ => ?_) (fun _ => ?_)
  · exact pc_some hZ
  · refine pc_gd (fun c_1 => ?_)
    refine pc_ob (fun r13 e_2 => ?_)
    refine pc_ob (fun r14 e_3 => ?_)
    refine pc_gd (fun c_4 => ?_)
    refine pc_gd (fun c_5 => ?_)
    refine pc_gd (fun c_6 => ?_)
    refine pc_gd (fun c_7 => ?_)
    refine pc_bd (fun d19 e_8 => ?_)
    have z_9 := KL.i hZ e_8
    refine pc_bd (fun u20 e_10 => ?_)
    exact hK36 _ z_9
theorem k_fX12_meansKey_L36 (N : Nat) (g : Gs) (x0 : Nat) (x1 : Int32) (hS : Shp g) (a0 : Int32) (a1 : Int32) (a2 : Int32) (a3 : Ds) (hZ : KL a3) : pc (fX12_meansKey_L36 N g x0 x1 (a0, a1, a2, a3)) (fun _ d1 => KL d1) := by
  unfold fX12_meansKey_L36
  refine pc_lp (fun a => KL a.2.2.2) ?_ N (a0, a1, a2, a3) hZ
  rintro K ⟨a0, a1, a2, a3⟩ hZ hK
  exact k_fX12_meansKey_B36 N g x0 x1 K a0 a1 a2 a3 hS hZ hK
theorem k_fX12_meansKey (N : Nat) (g : Gs) (x0 : Nat) (x1 : Int32) (d : Ds) (hS : Shp g) (hZ : KL d) : pc (fX12_meansKey N g x0 x1 d) (fun _ d1 => KL d1) := by
  unfold fX12_meansKey
  refine pc_gd (fun c_1 => ?_)
  refine pc_cb (k_fX12_within N g x0 (x1 + 1) 0 3 d hS hZ) (fun u4 d2 z_2 => ?_)
  refine pc_cb (k_fX12_keyTold N g x0 (x1 + 2) d2 hS z_2) (fun u7 d5 z_3 => ?_)
  refine pc_cv (k_fX12_meansDeed N g x0 (x1 + 3) d5 hS z_3) (fun d8 z_4 => ?_)
  refine pc_if (fun _ => ?_) (fun _ => ?_)
  · exact k_fX12_meansKey_L36 N g x0 x1 hS u4 u7 0 d8 z_4
  · exact pc_some z_4
theorem k_fX12_meansChord_J116 (N : Nat) (g : Gs) (x0 : Nat) (x1 : Int32) (y2 : Int32) (d : Ds) (hS : Shp g) (hZ : KL d) : pc (fX12_meansChord_J116 N g x0 x1 y2 d) (fun _ d1 => KL d1) := by
  unfold fX12_meansChord_J116
  refine pc_gd (fun c_1 => ?_)
  refine pc_cv (k_fX12_meansDeed N g x0 (x1 + 3) d hS hZ) (fun d14 z_2 => ?_)
  refine pc_ob (fun r16 e_3 => ?_)
  refine pc_ob (fun r17 e_4 => ?_)
  refine pc_gd (fun c_5 => ?_)
  refine pc_gd (fun c_6 => ?_)
  refine pc_gd (fun c_7 => ?_)
  refine pc_gd (fun c_8 => ?_)
  refine pc_bd (fun d22 e_9 => ?_)
  have z_10 := KL.i z_2 e_9
  refine pc_gd (fun c_11 => ?_)
  refine pc_gd (fun c_12 => ?_)
  refine pc_bd (fun d25 e_13 => ?_)
  have z_14 := KL.i z_10 e_13
  refine pc_ob (fun r26 e_15 => ?_)
  refine pc_gd (fun c_16 => ?_)
  refine pc_gd (fun c_17 => ?_)
  refine pc_gd (fun c_18 => ?_)
  refine pc_bd (fun d30 e_19 => ?_)
  have z_20 := KL.i z_14 e_19
  refine pc_gd (fun c_21 => ?_)
  refine pc_gd (fun c_22 => ?_)
  refine pc_bd (fun d33 e_23 => ?_)
  have z_24 := KL.i z_20 e_23
  refine pc_gd (fun c_25 => ?_)
  refine pc_bd (fun d35 e_26 => ?_)
  have z_27 := KL.i z_24 e_26
  exact pc_some z_27
theorem k_fX12_isChorded_J47 (N : Nat) (g : Gs) (x0 : Nat) (x1 : Int32) (d : Ds) (hS : Shp g) (hZ : KL d) : pc (fX12_isChorded_J47 N g x0 x1 d) (fun _ d1 => KL d1) := by
  unfold fX12_isChorded_J47
  exact pc_some hZ
theorem k_fX12_isChorded_B2 (N : Nat) (g : Gs) (x0 : Nat) (x1 : Int32) (K2 : Int32 × Ds → Option (Int32 × Ds)) (y2 : Int32) (d : Ds) (hS : Shp g) (hZ : KL d) (hK2 : ∀ a, KL a.2 → pc (K2 a) (fun _ d1 => KL d1)) : pc (fX12_isChorded_B2 N g x0 x1 K2 y2 d) (fun _ d1 => KL d1) := by
  unfold fX12_isChorded_B2
  refine pc_gd (fun c_1 => ?_)
  refine pc_ob (fun r2 e_2 => ?_)
  refine pc_gd (fun c_3 => ?_)
  refine pc_gd (fun c_4 => ?_)
  refine pc_if (fun _ => ?_) (fun _ => ?_)
  · exact pc_some hZ
  · refine pc_gd (fun c_5 => ?_)
    refine pc_if (fun _ => ?_) (fun _ => ?_)
    · exact k_fX12_isChorded_J47 N g x0 x1 d hS hZ
    · refine pc_gd (fun c_6 => ?_)
      refine pc_if (fun _ => ?_) (fun _ => ?_)
      · exact k_fX12_isChorded_J47 N g x0 x1 d hS hZ
      · refine pc_bd (fun u10 e_7 => ?_)
        exact hK2 _ hZ
theorem k_fX12_isChorded_L2 (N : Nat) (g : Gs) (x0 : Nat) (x1 : Int32) (hS : Shp g) (a0 : Int32) (a1 : Ds) (hZ : KL a1) : pc (fX12_isChorded_L2 N g x0 x1 (a0, a1)) (fun _ d1 => KL d1) := by
  unfold fX12_isChorded_L2
  refine pc_lp (fun a => KL a.2) ?_ N (a0, a1) hZ
  rintro K ⟨a0, a1⟩ hZ hK
  exact k_fX12_isChorded_B2 N g x0 x1 K a0 a1 hS hZ hK
theorem k_fX12_isChorded (N : Nat) (g : Gs) (x0 : Nat) (x1 : Int32) (d : Ds) (hS : Shp g) (hZ : KL d) : pc (fX12_isChorded N g x0 x1 d) (fun _ d1 => KL d1) := by
  unfold fX12_isChorded
  exact k_fX12_isChorded_L2 N g x0 x1 hS 0 d hZ
theorem k_fX12_meansChord_J66 (N : Nat) (g : Gs) (x0 : Nat) (x1 : Int32) (K16 : Int32 × Int32 × Ds → Option (Unit × Ds)) (y2 : Int32) (y3 : Int32) (d : Ds) (hS : Shp g) (hZ : KL d) (hK16 : ∀ a, KL a.2.2 → pc (K16 a) (fun _ d1 => KL d1)) : pc (fX12_meansChord_J66 N g x0 x1 K16 y2 y3 d) (fun _ d1 => KL d1) := by
  unfold fX12_meansChord_J66
  refine pc_gd (fun c_1 => ?_)
  refine pc_cb (k_fX12_keyTold N g x0 (x1 + y3) d hS hZ) (fun u55 d53 z_2 => ?_)
  refine pc_bd (fun u56 e_3 => ?_)
  exact hK16 _ z_2
theorem k_fX12_meansChord_J58 (N : Nat) (g : Gs) (x0 : Nat) (x1 : Int32) (K16 : Int32 × Int32 × Ds → Option (Unit × Ds)) (y2 : Int32) (y3 : Int32) (d : Ds) (hS : Shp g) (hZ : KL d) (hK16 : ∀ a, KL a.2.2 → pc (K16 a) (fun _ d1 => KL d1)) : pc (fX12_meansChord_J58 N g x0 x1 K16 y2 y3 d) (fun _ d1 => KL d1) := by
  unfold fX12_meansChord_J58
  refine pc_gd (fun c_1 => ?_)
  refine pc_cv (k_fX12_wrong N g x0 3 (x1 + y3) d hS hZ) (fun d50 z_2 => ?_)
  exact k_fX12_meansChord_J66 N g x0 x1 K16 y2 y3 d50 hS z_2 hK16
theorem k_fX12_meansChord_B16 (N : Nat) (g : Gs) (x0 : Nat) (x1 : Int32) (K16 : Int32 × Int32 × Ds → Option (Unit × Ds)) (y2 : Int32) (y3 : Int32) (d : Ds) (hS : Shp g) (hZ : KL d) (hK16 : ∀ a, KL a.2.2 → pc (K16 a) (fun _ d1 => KL d1)) : pc (fX12_meansChord_B16 N g x0 x1 K16 y2 y3 d) (fun _ d1 => KL d1) := by
  unfold fX12_meansChord_B16
  refine pc_if (fun _ => ?_) (fun _ => ?_)
  · refine pc_gd (fun c_1 => ?_)
    refine pc_ob (fun r8 e_2 => ?_)
    refine pc_gd (fun c_3 => ?_)
    refine pc_gd (fun c_4 => ?_)
    refine pc_bd (fun u11 e_5 => ?_)
    refine pc_if (fun _ => ?_) (fun _ => ?_)
    · exact k_fX12_meansChord_J116 N g x0 x1 y2 d hS hZ
    · refine pc_if (fun _ => ?_) (fun _ => ?_)
      · exact k_fX12_meansChord_J116 N g x0 x1 y2 d hS hZ
      · refine pc_if (fun _ => ?_) (fun _ => ?_)
        · exact k_fX12_meansChord_J116 N g x0 x1 y2 d hS hZ
        · refine pc_cv (k_fX12_wrong N g x0 5 (x1 + 3) d hS hZ) (fun d38 z_6 => ?_)
          exact k_fX12_meansChord_J116 N g x0 x1 y2 d38 hS z_6
  · refine pc_gd (fun c_7 => ?_)
    refine pc_ob (fun r41 e_8 => ?_)
    refine pc_gd (fun c_9 => ?_)
    refine pc_gd (fun c_10 => ?_)
    refine pc_bd (fun u44 e_11 => ?_)
    refine pc_cb (k_fX12_isChorded N g x0 u44 d hS hZ) (fun u47 d45 z_12 => ?_)
    refine pc_if (fun _ => ?_) (fun _ => ?_)
    · refine pc_if (fun _ => ?_) (fun _ => ?_)
      · refine pc_gd (fun c_13 => ?_)
        refine pc_if (fun _ => ?_) (fun _ => ?_)
        · exact k_fX12_meansChord_J58 N g x0 x1 K16 y2 y3 d45 hS z_12 hK16
        · exact k_fX12_meansChord_J66 N g x0 x1 K16 y2 y3 d45 hS z_12 hK16
      · exact k_fX12_meansChord_J66 N g x0 x1 K16 y2 y3 d45 hS z_12 hK16
    · exact k_fX12_meansChord_J58 N g x0 x1 K16 y2 y3 d45 hS z_12 hK16
theorem k_fX12_meansChord_L16 (N : Nat) (g : Gs) (x0 : Nat) (x1 : Int32) (hS : Shp g) (a0 : Int32) (a1 : Int32) (a2 : Ds) (hZ : KL a2) : pc (fX12_meansChord_L16 N g x0 x1 (a0, a1, a2)) (fun _ d1 => KL d1) := by
  unfold fX12_meansChord_L16
  refine pc_lp (fun a => KL a.2.2) ?_ N (a0, a1, a2) hZ
  rintro K ⟨a0, a1, a2⟩ hZ hK
  exact k_fX12_meansChord_B16 N g x0 x1 K a0 a1 a2 hS hZ hK
theorem k_fX12_meansChord (N : Nat) (g : Gs) (x0 : Nat) (x1 : Int32) (d : Ds) (hS : Shp g) (hZ : KL d) : pc (fX12_meansChord N g x0 x1 d) (fun _ d1 => KL d1) := by
  unfold fX12_meansChord
  refine pc_gd (fun c_1 => ?_)
  refine pc_ob (fun r2 e_2 => ?_)
  refine pc_gd (fun c_3 => ?_)
  refine pc_gd (fun c_4 => ?_)
  refine pc_bd (fun u5 e_5 => ?_)
  exact k_fX12_meansChord_L16 N g x0 x1 hS u5 1 d hZ
theorem k_fX12_meansMacro_B19 (N : Nat) (g : Gs) (x0 : Nat) (x1 : Int32) (K19 : Int32 × Int32 × Ds → Option (Unit × Ds)) (y2 : Int32) (y3 : Int32) (d : Ds) (hS : Shp g) (hZ : KL d) (hK19 : ∀ a, KL a.2.2 → pc (K19 a) (fun _ d1 => KL d1)) : pc (fX12_meansMacro_B19 N g x0 x1 K19 y2 y3 d) (fun _ d1 => KL d1) := by
  unfold fX12_meansMacro_B19
  refine pc_gd (fun c_1 => ?_)
  refine pc_ob (fun r8 e_2 => ?_)
  refine pc_gd (fun c_3 => ?_)
  refine pc_gd (fun c_4 => ?_)
  refine pc_if (fun _ => ?_) (fun _ => ?_)
  · refine pc_ob (fun r16 e_5 => ?_)
    refine pc_gd (fun c_6 => ?_)
    refine pc_gd (fun c_7 => ?_)
    refine pc_bd (fun d19 e_8 => ?_)
    have z_9 := KL.i hZ e_8
    refine pc_cb (k_fX12_within N g x0 y3 1 200 d19 hS z_9) (fun u22 d20 z_10 => ?_)
    refine pc_gd (fun c_11 => ?_)
    refine pc_bd (fun d24 e_12 => ?_)
    have z_13 := KL.i z_10 e_12
    refine pc_bd (fun u25 e_14 => ?_)
    exact hK19 _ z_13
  · refine pc_ob (fun r12 e_15 => ?_)
    refine pc_gd (fun c_16 => ?_)
    refine pc_gd (fun c_17 => ?_)
    refine pc_bd (fun d15 e_18 => ?_)
    have z_19 := KL.i hZ e_18
    exact pc_some z_19
theorem k_fX12_meansMacro_L19 (N : Nat) (g : Gs) (x0 : Nat) (x1 : Int32) (hS : Shp g) (a0 : Int32) (a1 : Int32) (a2 : Ds) (hZ : KL a2) : pc (fX12_meansMacro_L19 N g x0 x1 (a0, a1, a2)) (fun _ d1 => KL d1) := by
  unfold fX12_meansMacro_L19
  refine pc_lp (fun a => KL a.2.2) ?_ N (a0, a1, a2) hZ
  rintro K ⟨a0, a1, a2⟩ hZ hK
  exact k_fX12_meansMacro_B19 N g x0 x1 K a0 a1 a2 hS hZ hK
theorem k_fX12_meansMacro (N : Nat) (g : Gs) (x0 : Nat) (x1 : Int32) (d : Ds) (hS : Shp g) (hZ : KL d) : pc (fX12_meansMacro N g x0 x1 d) (fun _ d1 => KL d1) := by
  unfold fX12_meansMacro
  refine pc_gd (fun c_1 => ?_)
  refine pc_ob (fun r2 e_2 => ?_)
  refine pc_gd (fun c_3 => ?_)
  refine pc_gd (fun c_4 => ?_)
  refine pc_bd (fun u5 e_5 => ?_)
  refine pc_bd (fun u6 e_6 => ?_)
  exact k_fX12_meansMacro_L19 N g x0 x1 hS u5 u6 d hZ
theorem k_fX12_meansLine (N : Nat) (g : Gs) (x0 : Nat) (x1 : Int32) (d : Ds) (hS : Shp g) (hZ : KL d) : pc (fX12_meansLine N g x0 x1 d) (fun _ d1 => KL d1) := by
  unfold fX12_meansLine
  refine pc_gd (fun c_1 => ?_)
  refine pc_ob (fun r2 e_2 => ?_)
  refine pc_gd (fun c_3 => ?_)
  refine pc_gd (fun c_4 => ?_)
  refine pc_if (fun _ => ?_) (fun _ => ?_)
  · exact k_fX12_meansLine_J219 N g x0 x1 d hS hZ
  · refine pc_if (fun _ => ?_) (fun _ => ?_)
    · refine pc_ob (fun r7 e_5 => ?_)
      refine pc_gd (fun c_6 => ?_)
      refine pc_gd (fun c_7 => ?_)
      refine pc_bd (fun d10 e_8 => ?_)
      have z_9 := KL.i hZ e_8
      exact k_fX12_meansLine_J219 N g x0 x1 d10 hS z_9
    · refine pc_if (fun _ => ?_) (fun _ => ?_)
      · refine pc_ob (fun r12 e_10 => ?_)
        refine pc_gd (fun c_11 => ?_)
        refine pc_gd (fun c_12 => ?_)
        refine pc_bd (fun d15 e_13 => ?_)
        have z_14 := KL.i hZ e_13
        exact k_fX12_meansLine_J219 N g x0 x1 d15 hS z_14
      · refine pc_if (fun _ => ?_) (fun _ => ?_)
        · refine pc_ob (fun r17 e_15 => ?_)
          refine pc_cb (k_fX12_within N g x0 (x1 + 1) 1 9 d hS hZ) (fun u20 d18 z_16 => ?_)
          refine pc_gd (fun c_17 => ?_)
          refine pc_gd (fun c_18 => ?_)
          refine pc_bd (fun d23 e_19 => ?_)
          have z_20 := KL.i z_16 e_19
          exact k_fX12_meansLine_J219 N g x0 x1 d23 hS z_20
        · refine pc_if (fun _ => ?_) (fun _ => ?_)
          · refine pc_ob (fun r25 e_21 => ?_)
            refine pc_cb (k_fX12_within N g x0 (x1 + 1) 1 99 d hS hZ) (fun u28 d26 z_22 => ?_)
            refine pc_gd (fun c_23 => ?_)
            refine pc_gd (fun c_24 => ?_)
            refine pc_bd (fun d31 e_25 => ?_)
            have z_26 := KL.i z_22 e_25
            exact k_fX12_meansLine_J219 N g x0 x1 d31 hS z_26
          · refine pc_if (fun _ => ?_) (fun _ => ?_)
            · refine pc_ob (fun r33 e_27 => ?_)
              refine pc_cb (k_fX12_within N g x0 (x1 + 1) 1 20 d hS hZ) (fun u36 d34 z_28 => ?_)
              refine pc_gd (fun c_29 => ?_)
              refine pc_gd (fun c_30 => ?_)
              refine pc_bd (fun d39 e_31 => ?_)
              have z_32 := KL.i z_28 e_31
              exact k_fX12_meansLine_J219 N g x0 x1 d39 hS z_32
            · refine pc_if (fun _ => ?_) (fun _ => ?_)
              · refine pc_ob (fun r41 e_33 => ?_)
                refine pc_cb (k_fX12_within N g x0 (x1 + 1) 1 40 d hS hZ) (fun u44 d42 z_34 => ?_)
                refine pc_gd (fun c_35 => ?_)
                refine pc_gd (fun c_36 => ?_)
                refine pc_bd (fun d47 e_37 => ?_)
                have z_38 := KL.i z_34 e_37
                exact k_fX12_meansLine_J219 N g x0 x1 d47 hS z_38
              · refine pc_if (fun _ => ?_) (fun _ => ?_)
                · refine pc_ob (fun r49 e_39 => ?_)
                  refine pc_cb (k_fX12_within N g x0 (x1 + 1) 1 99 d hS hZ) (fun u52 d50 z_40 => ?_)
                  refine pc_gd (fun c_41 => ?_)
                  refine pc_gd (fun c_42 => ?_)
                  refine pc_bd (fun d55 e_43 => ?_)
                  have z_44 := KL.i z_40 e_43
                  exact k_fX12_meansLine_J175 N g x0 x1 d55 hS z_44
                · refine pc_if (fun _ => ?_) (fun _ => ?_)
                  · refine pc_cv (k_fX12_meansKey N g x0 x1 d hS hZ) (fun d65 z_45 => ?_)
                    exact k_fX12_meansLine_J219 N g x0 x1 d65 hS z_45
                  · refine pc_if (fun _ => ?_) (fun _ => ?_)
                    · refine pc_cv (k_fX12_meansChord N g x0 x1 d hS hZ) (fun d68 z_46 => ?_)
                      exact k_fX12_meansLine_J219 N g x0 x1 d68 hS z_46
                    · refine pc_if (fun _ => ?_) (fun _ => ?_)
                      · refine pc_cv (k_fX12_meansMacro N g x0 x1 d hS hZ) (fun d71 z_47 => ?_)
                        exact k_fX12_meansLine_J219 N g x0 x1 d71 hS z_47
                      · exact pc_none
theorem k_fX12_means_J77 (N : Nat) (g : Gs) (x0 : Nat) (K52 : Int32 × Ds → Option (Unit × Ds)) (y1 : Int32) (d : Ds) (hS : Shp g) (hZ : KL d) (hK52 : ∀ a, KL a.2 → pc (K52 a) (fun _ d1 => KL d1)) : pc (fX12_means_J77 N g x0 K52 y1 d) (fun _ d1 => KL d1) := by
  unfold fX12_means_J77
  refine pc_bd (fun u26 e_1 => ?_)
  exact hK52 _ hZ
theorem k_fX12_means_B52 (N : Nat) (g : Gs) (x0 : Nat) (K52 : Int32 × Ds → Option (Unit × Ds)) (y1 : Int32) (d : Ds) (hS : Shp g) (hZ : KL d) (hK52 : ∀ a, KL a.2 → pc (K52 a) (fun _ d1 => KL d1)) : pc (fX12_means_B52 N g x0 K52 y1 d) (fun _ d1 => KL d1) := by
  unfold fX12_means_B52
  refine pc_gd (fun c_1 => ?_)
  refine pc_if (fun _ => ?_) (fun _ => ?_)
  · exact pc_some hZ
  · refine pc_ob (fun r22 e_2 => ?_)
    refine pc_gd (fun c_3 => ?_)
    refine pc_gd (fun c_4 => ?_)
    refine pc_if (fun _ => ?_) (fun _ => ?_)
    · refine pc_cv (k_fX12_meansLine N g x0 y1 d hS hZ) (fun d27 z_5 => ?_)
      exact k_fX12_means_J77 N g x0 K52 y1 d27 hS z_5 hK52
    · exact k_fX12_means_J77 N g x0 K52 y1 d hS hZ hK52
theorem k_fX12_means_L52 (N : Nat) (g : Gs) (x0 : Nat) (hS : Shp g) (a0 : Int32) (a1 : Ds) (hZ : KL a1) : pc (fX12_means_L52 N g x0 (a0, a1)) (fun _ d1 => KL d1) := by
  unfold fX12_means_L52
  refine pc_lp (fun a => KL a.2) ?_ N (a0, a1) hZ
  rintro K ⟨a0, a1⟩ hZ hK
  exact k_fX12_means_B52 N g x0 K a0 a1 hS hZ hK
theorem k_fX12_means_J47 (N : Nat) (g : Gs) (x0 : Nat) (z0 : Int32) (z1 : Nat) (d : Ds) (hS : Shp g) (hZ : KL d) : pc (fX12_means_J47 N g x0 z0 z1 d) (fun _ d1 => KL d1) := by
  unfold fX12_means_J47
  refine pc_gd (fun c_1 => ?_)
  refine pc_gd (fun c_2 => ?_)
  refine pc_bd (fun d19 e_3 => ?_)
  have z_4 := KL.i hZ e_3
  exact k_fX12_means_L52 N g x0 hS 4 d19 z_4
theorem k_fX12_means (N : Nat) (g : Gs) (x0 : Nat) (d : Ds) (hS : Shp g) (hZ : KL d) : pc (fX12_means N g x0 d) (fun _ d1 => KL d1) := by
  unfold fX12_means
  refine pc_gd (fun c_1 => ?_)
  refine pc_ob (fun r2 e_2 => ?_)
  refine pc_cv (k_fX12_begins N g r2 d hS hZ) (fun d3 z_3 => ?_)
  refine pc_cb (k_fX12_within N g x0 1 1 4 d3 hS z_3) (fun u7 d5 z_4 => ?_)
  refine pc_gd (fun c_5 => ?_)
  refine pc_gd (fun c_6 => ?_)
  refine pc_bd (fun d10 e_7 => ?_)
  have z_8 := KL.i z_4 e_7
  refine pc_cb (k_fX12_within N g x0 2 1 6 d10 hS z_8) (fun u13 d11 z_9 => ?_)
  refine pc_gd (fun c_10 => ?_)
  refine pc_bd (fun d15 e_11 => ?_)
  have z_12 := KL.i z_9 e_11
  refine pc_if (fun _ => ?_) (fun _ => ?_)
  · exact k_fX12_means_J47 N g x0 1 x0 d15 hS z_12
  · exact k_fX12_means_J47 N g x0 0 x0 d15 hS z_12
theorem k_fX12_startsAnew_B26 (N : Nat) (g : Gs) (x0 : Nat) (K26 : Int32 × Ds → Option (Unit × Ds)) (y1 : Int32) (d : Ds) (hS : Shp g) (hZ : KL d) (hK26 : ∀ a, KL a.2 → pc (K26 a) (fun _ d1 => KL d1)) : pc (fX12_startsAnew_B26 N g x0 K26 y1 d) (fun _ d1 => KL d1) := by
  unfold fX12_startsAnew_B26
  refine pc_if (fun _ => ?_) (fun _ => ?_)
  · refine pc_gd (fun c_1 => ?_)
    refine pc_ob (fun r4 e_2 => ?_)
    refine pc_gd (fun c_3 => ?_)
    refine pc_gd (fun c_4 => ?_)
    refine pc_bd (fun d7 e_5 => ?_)
    have z_6 := KL.i hZ e_5
    refine pc_gd (fun c_7 => ?_)
    refine pc_bd (fun d9 e_8 => ?_)
    have z_9 := KL.i z_6 e_8
    refine pc_gd (fun c_10 => ?_)
    refine pc_bd (fun d11 e_11 => ?_)
    have z_12 := KL.i z_9 e_11
    refine pc_gd (fun c_13 => ?_)
    refine pc_bd (fun d13 e_14 => ?_)
    have z_15 := KL.i z_12 e_14
    exact pc_some z_15
  · refine pc_gd (fun c_16 => ?_)
    refine pc_ob (fun r15 e_17 => ?_)
    refine pc_gd (fun c_18 => ?_)
    refine pc_gd (fun c_19 => ?_)
    refine pc_bd (fun d18 e_20 => ?_)
    have z_21 := KL.f hZ e_20
    refine pc_ob (fun r19 e_22 => ?_)
    refine pc_gd (fun c_23 => ?_)
    refine pc_gd (fun c_24 => ?_)
    refine pc_bd (fun d22 e_25 => ?_)
    have z_26 := KL.i z_21 e_25
    refine pc_gd (fun c_27 => ?_)
    refine pc_bd (fun d24 e_28 => ?_)
    have z_29 := KL.i z_26 e_28
    refine pc_gd (fun c_30 => ?_)
    refine pc_bd (fun d26 e_31 => ?_)
    have z_32 := KL.i z_29 e_31
    refine pc_bd (fun u27 e_33 => ?_)
    exact hK26 _ z_32
theorem k_fX12_startsAnew_L26 (N : Nat) (g : Gs) (x0 : Nat) (hS : Shp g) (a0 : Int32) (a1 : Ds) (hZ : KL a1) : pc (fX12_startsAnew_L26 N g x0 (a0, a1)) (fun _ d1 => KL d1) := by
  unfold fX12_startsAnew_L26
  refine pc_lp (fun a => KL a.2) ?_ N (a0, a1) hZ
  rintro K ⟨a0, a1⟩ hZ hK
  exact k_fX12_startsAnew_B26 N g x0 K a0 a1 hS hZ hK
theorem k_fX12_startsAnew_B4 (N : Nat) (g : Gs) (x0 : Nat) (K4 : Int32 × Ds → Option (Unit × Ds)) (y1 : Int32) (d : Ds) (hS : Shp g) (hZ : KL d) (hK4 : ∀ a, KL a.2 → pc (K4 a) (fun _ d1 => KL d1)) : pc (fX12_startsAnew_B4 N g x0 K4 y1 d) (fun _ d1 => KL d1) := by
  unfold fX12_startsAnew_B4
  refine pc_if (fun _ => ?_) (fun _ => ?_)
  · exact k_fX12_startsAnew_L26 N g x0 hS 0 d hZ
  · refine pc_gd (fun c_1 => ?_)
    refine pc_ob (fun r29 e_2 => ?_)
    refine pc_gd (fun c_3 => ?_)
    refine pc_gd (fun c_4 => ?_)
    refine pc_bd (fun d32 e_5 => ?_)
    have z_6 := KL.i hZ e_5
    refine pc_bd (fun u33 e_7 => ?_)
    exact hK4 _ z_6
theorem k_fX12_startsAnew_L4 (N : Nat) (g : Gs) (x0 : Nat) (hS : Shp g) (a0 : Int32) (a1 : Ds) (hZ : KL a1) : pc (fX12_startsAnew_L4 N g x0 (a0, a1)) (fun _ d1 => KL d1) := by
  unfold fX12_startsAnew_L4
  refine pc_lp (fun a => KL a.2) ?_ N (a0, a1) hZ
  rintro K ⟨a0, a1⟩ hZ hK
  exact k_fX12_startsAnew_B4 N g x0 K a0 a1 hS hZ hK
theorem k_fX12_startsAnew (N : Nat) (g : Gs) (x0 : Nat) (d : Ds) (hS : Shp g) (hZ : KL d) : pc (fX12_startsAnew N g x0 d) (fun _ d1 => KL d1) := by
  unfold fX12_startsAnew
  exact k_fX12_startsAnew_L4 N g x0 hS 352 d hZ
theorem k_fX12_read_B214 (N : Nat) (g : Gs) (x0 : Nat) (K214 : Int32 × Ds → Option (Int32 × Ds)) (y1 : Int32) (d : Ds) (hS : Shp g) (hZ : KL d) (hK214 : ∀ a, KL a.2 → pc (K214 a) (fun _ d1 => KL d1)) : pc (fX12_read_B214 N g x0 K214 y1 d) (fun _ d1 => KL d1) := by
  unfold fX12_read_B214
  refine pc_if (fun _ => ?_) (fun _ => ?_)
  · exact pc_some hZ
  · refine pc_gd (fun c_1 => ?_)
    refine pc_ob (fun r39 e_2 => ?_)
    refine pc_gd (fun c_3 => ?_)
    refine pc_gd (fun c_4 => ?_)
    refine pc_bd (fun d42 e_5 => ?_)
    have z_6 := KL.i hZ e_5
    refine pc_bd (fun u43 e_7 => ?_)
    exact hK214 _ z_6
theorem k_fX12_read_L214 (N : Nat) (g : Gs) (x0 : Nat) (hS : Shp g) (a0 : Int32) (a1 : Ds) (hZ : KL a1) : pc (fX12_read_L214 N g x0 (a0, a1)) (fun _ d1 => KL d1) := by
  unfold fX12_read_L214
  refine pc_lp (fun a => KL a.2) ?_ N (a0, a1) hZ
  rintro K ⟨a0, a1⟩ hZ hK
  exact k_fX12_read_B214 N g x0 K a0 a1 hS hZ hK
theorem k_fX12_read_B183 (N : Nat) (g : Gs) (x0 : Nat) (K183 : Int32 × Ds → Option (Int32 × Ds)) (y1 : Int32) (d : Ds) (hS : Shp g) (hZ : KL d) (hK183 : ∀ a, KL a.2 → pc (K183 a) (fun _ d1 => KL d1)) : pc (fX12_read_B183 N g x0 K183 y1 d) (fun _ d1 => KL d1) := by
  unfold fX12_read_B183
  refine pc_if (fun _ => ?_) (fun _ => ?_)
  · refine pc_gd (fun c_1 => ?_)
    refine pc_cv (k_fX12_startsAnew N g x0 d hS hZ) (fun d35 z_2 => ?_)
    exact k_fX12_read_L214 N g x0 hS 0 d35 z_2
  · refine pc_gd (fun c_3 => ?_)
    refine pc_ob (fun r45 e_4 => ?_)
    refine pc_ob (fun r46 e_5 => ?_)
    refine pc_gd (fun c_6 => ?_)
    refine pc_gd (fun c_7 => ?_)
    refine pc_gd (fun c_8 => ?_)
    refine pc_gd (fun c_9 => ?_)
    refine pc_bd (fun d51 e_10 => ?_)
    have z_11 := KL.i hZ e_10
    refine pc_bd (fun u52 e_12 => ?_)
    exact hK183 _ z_11
theorem k_fX12_read_L183 (N : Nat) (g : Gs) (x0 : Nat) (hS : Shp g) (a0 : Int32) (a1 : Ds) (hZ : KL a1) : pc (fX12_read_L183 N g x0 (a0, a1)) (fun _ d1 => KL d1) := by
  unfold fX12_read_L183
  refine pc_lp (fun a => KL a.2) ?_ N (a0, a1) hZ
  rintro K ⟨a0, a1⟩ hZ hK
  exact k_fX12_read_B183 N g x0 K a0 a1 hS hZ hK
theorem k_fX12_read_J154 (N : Nat) (g : Gs) (x0 : Nat) (z0 : Int32) (z1 : Nat) (d : Ds) (hS : Shp g) (hZ : KL d) : pc (fX12_read_J154 N g x0 z0 z1 d) (fun _ d1 => KL d1) := by
  unfold fX12_read_J154
  refine pc_gd (fun c_1 => ?_)
  refine pc_bd (fun d29 e_2 => ?_)
  have z_3 := KL.i hZ e_2
  refine pc_gd (fun c_4 => ?_)
  refine pc_if (fun _ => ?_) (fun _ => ?_)
  · refine pc_if (fun _ => ?_) (fun _ => ?_)
    · exact k_fX12_read_L183 N g x0 hS 0 d29 z_3
    · exact pc_some z_3
  · exact pc_some z_3
theorem k_fX12_read_J124 (N : Nat) (g : Gs) (x0 : Nat) (d : Ds) (hS : Shp g) (hZ : KL d) : pc (fX12_read_J124 N g x0 d) (fun _ d1 => KL d1) := by
  unfold fX12_read_J124
  refine pc_gd (fun c_1 => ?_)
  refine pc_if (fun _ => ?_) (fun _ => ?_)
  · refine pc_if (fun _ => ?_) (fun _ => ?_)
    · exact k_fX12_read_J154 N g x0 (-1) x0 d hS hZ
    · exact k_fX12_read_J154 N g x0 (dI d x0 15) x0 d hS hZ
  · exact k_fX12_read_J154 N g x0 (dI d x0 13) x0 d hS hZ
theorem k_fX12_read_J113 (N : Nat) (g : Gs) (x0 : Nat) (d : Ds) (hS : Shp g) (hZ : KL d) : pc (fX12_read_J113 N g x0 d) (fun _ d1 => KL d1) := by
  unfold fX12_read_J113
  refine pc_gd (fun c_1 => ?_)
  refine pc_if (fun _ => ?_) (fun _ => ?_)
  · refine pc_cv (k_fX12_means N g x0 d hS hZ) (fun d53 z_2 => ?_)
    exact k_fX12_read_J124 N g x0 d53 hS z_2
  · exact k_fX12_read_J124 N g x0 d hS hZ
theorem k_fX12_read_B91 (N : Nat) (g : Gs) (x0 : Nat) (K91 : Ds → Option (Int32 × Ds)) (d : Ds) (hS : Shp g) (hZ : KL d) (hK91 : ∀ a, KL a → pc (K91 a) (fun _ d1 => KL d1)) : pc (fX12_read_B91 N g x0 K91 d) (fun _ d1 => KL d1) := by
  unfold fX12_read_B91
  refine pc_gd (fun c_1 => ?_)
  refine pc_if (fun _ => ?_) (fun _ => ?_)
  · refine pc_cb (k_fX12_is N g x0 0 d hS hZ) (fun u57 d55 z_2 => ?_)
    refine pc_if (fun _ => ?_) (fun _ => ?_)
    · refine pc_cv (k_fX12_tell N g x0 d55 hS z_2) (fun d59 z_3 => ?_)
      exact hK91 _ z_3
    · exact k_fX12_read_J113 N g x0 d55 hS z_2
  · exact k_fX12_read_J113 N g x0 d hS hZ
theorem k_fX12_read_L91 (N : Nat) (g : Gs) (x0 : Nat) (hS : Shp g) (a0 : Ds) (hZ : KL a0) : pc (fX12_read_L91 N g x0 a0) (fun _ d1 => KL d1) := by
  unfold fX12_read_L91
  refine pc_lp (fun a => KL a) ?_ N a0 hZ
  rintro K a0 hZ hK
  exact k_fX12_read_B91 N g x0 K a0 hS hZ hK
theorem k_fX12_read_B10 (N : Nat) (g : Gs) (x0 : Nat) (K10 : Int32 × Ds → Option (Int32 × Ds)) (y1 : Int32) (d : Ds) (hS : Shp g) (hZ : KL d) (hK10 : ∀ a, KL a.2 → pc (K10 a) (fun _ d1 => KL d1)) : pc (fX12_read_B10 N g x0 K10 y1 d) (fun _ d1 => KL d1) := by
  unfold fX12_read_B10
  refine pc_gd (fun c_1 => ?_)
  refine pc_if (fun _ => ?_) (fun _ => ?_)
  · refine pc_bd (fun d5 e_2 => ?_)
    have z_3 := KL.i hZ e_2
    refine pc_cv (k_fX12_cutsText N g x0 d5 hS z_3) (fun d6 z_4 => ?_)
    refine pc_bd (fun d8 e_5 => ?_)
    have z_6 := KL.i z_4 e_5
    refine pc_bd (fun d9 e_7 => ?_)
    have z_8 := KL.i z_6 e_7
    refine pc_bd (fun d10 e_9 => ?_)
    have z_10 := KL.i z_8 e_9
    refine pc_bd (fun d11 e_11 => ?_)
    have z_12 := KL.i z_10 e_11
    refine pc_bd (fun d12 e_13 => ?_)
    have z_14 := KL.i z_12 e_13
    refine pc_cv (k_fX12_must N g x0 20 d12 hS z_14) (fun d13 z_15 => ?_)
    refine pc_cv (k_fX12_must N g x0 2 d13 hS z_15) (fun d15 z_16 => ?_)
    refine pc_cv (k_fX12_must N g x0 2 d15 hS z_16) (fun d17 z_17 => ?_)
    refine pc_cv (k_fX12_must N g x0 4 d17 hS z_17) (fun d19 z_18 => ?_)
    exact k_fX12_read_L91 N g x0 hS d19 z_18
  · refine pc_ob (fun r61 e_19 => ?_)
    refine pc_ob (fun r62 e_20 => ?_)
    refine pc_gd (fun c_21 => ?_)
    refine pc_gd (fun c_22 => ?_)
    refine pc_gd (fun c_23 => ?_)
    refine pc_gd (fun c_24 => ?_)
    refine pc_bd (fun d67 e_25 => ?_)
    have z_26 := KL.i hZ e_25
    refine pc_bd (fun u68 e_27 => ?_)
    exact hK10 _ z_26
theorem k_fX12_read_L10 (N : Nat) (g : Gs) (x0 : Nat) (hS : Shp g) (a0 : Int32) (a1 : Ds) (hZ : KL a1) : pc (fX12_read_L10 N g x0 (a0, a1)) (fun _ d1 => KL d1) := by
  unfold fX12_read_L10
  refine pc_lp (fun a => KL a.2) ?_ N (a0, a1) hZ
  rintro K ⟨a0, a1⟩ hZ hK
  exact k_fX12_read_B10 N g x0 K a0 a1 hS hZ hK
theorem k_fX12_read (N : Nat) (g : Gs) (x0 : Nat) (d : Ds) (hS : Shp g) (hZ : KL d) : pc (fX12_read N g x0 d) (fun _ d1 => KL d1) := by
  unfold fX12_read
  refine pc_gd (fun c_1 => ?_)
  refine pc_bd (fun d2 e_2 => ?_)
  have z_3 := KL.i hZ e_2
  exact k_fX12_read_L10 N g x0 hS 0 d2 z_3
theorem k_fX12_place (N : Nat) (g : Gs) (x0 : Nat) (d : Ds) (hS : Shp g) (hZ : KL d) : pc (fX12_place N g x0 d) (fun _ d1 => KL d1) := by
  unfold fX12_place
  refine pc_gd (fun c_1 => ?_)
  exact pc_some hZ
theorem k_fX12_keysMany (N : Nat) (g : Gs) (x0 : Nat) (d : Ds) (hS : Shp g) (hZ : KL d) : pc (fX12_keysMany N g x0 d) (fun _ d1 => KL d1) := by
  unfold fX12_keysMany
  refine pc_gd (fun c_1 => ?_)
  refine pc_ob (fun r2 e_2 => ?_)
  refine pc_gd (fun c_3 => ?_)
  refine pc_gd (fun c_4 => ?_)
  refine pc_gd (fun c_5 => ?_)
  exact pc_some hZ
theorem k_fX12_isKey (N : Nat) (g : Gs) (x0 : Nat) (x1 : Int32) (d : Ds) (hS : Shp g) (hZ : KL d) : pc (fX12_isKey N g x0 x1 d) (fun _ d1 => KL d1) := by
  unfold fX12_isKey
  refine pc_gd (fun c_1 => ?_)
  refine pc_cb (k_fX12_keysMany N g x0 d hS hZ) (fun u4 d2 z_2 => ?_)
  refine pc_cb (k_fX12_in N g x1 0 (u4 - 1) d2 hS z_2) (fun u7 d5 z_3 => ?_)
  refine pc_gd (fun c_4 => ?_)
  exact pc_some z_3
theorem k_fX12_press_J24 (N : Nat) (g : Gs) (x0 : Nat) (x1 : Int32) (x2 : Int32) (d : Ds) (hS : Shp g) (hZ : KL d) : pc (fX12_press_J24 N g x0 x1 x2 d) (fun _ d1 => KL d1) := by
  unfold fX12_press_J24
  exact pc_some hZ
theorem k_fX12_has_J14 (N : Nat) (g : Gs) (x0 : Int32) (x1 : Int32) (z0 : Int32) (d : Ds) (hS : Shp g) (hZ : KL d) : pc (fX12_has_J14 N g x0 x1 z0 d) (fun _ d1 => KL d1) := by
  unfold fX12_has_J14
  refine pc_gd (fun c_1 => ?_)
  exact pc_some hZ
theorem k_fX12_has (N : Nat) (g : Gs) (x0 : Int32) (x1 : Int32) (d : Ds) (hS : Shp g) (hZ : KL d) : pc (fX12_has N g x0 x1 d) (fun _ d1 => KL d1) := by
  unfold fX12_has
  refine pc_if (fun _ => ?_) (fun _ => ?_)
  · exact k_fX12_has_J14 N g x0 x1 1 d hS hZ
  · exact k_fX12_has_J14 N g x0 x1 0 d hS hZ
theorem k_fX12_press (N : Nat) (g : Gs) (x0 : Nat) (x1 : Int32) (x2 : Int32) (d : Ds) (hS : Shp g) (hZ : KL d) : pc (fX12_press N g x0 x1 x2 d) (fun _ d1 => KL d1) := by
  unfold fX12_press
  refine pc_gd (fun c_1 => ?_)
  refine pc_cb (k_fX12_isKey N g x0 x1 d hS hZ) (fun u4 d2 z_2 => ?_)
  refine pc_if (fun _ => ?_) (fun _ => ?_)
  · exact k_fX12_press_J24 N g x0 x1 x2 d2 hS z_2
  · refine pc_ob (fun r6 e_3 => ?_)
    refine pc_gd (fun c_4 => ?_)
    refine pc_gd (fun c_5 => ?_)
    refine pc_cb (k_fX12_has N g (dI d2 r6 (352 : Int32).toNatClampNeg) x1 d2 hS z_2) (fun u11 d9 z_6 => ?_)
    refine pc_if (fun _ => ?_) (fun _ => ?_)
    · exact k_fX12_press_J24 N g x0 x1 x2 d9 hS z_6
    · refine pc_bd (fun d13 e_7 => ?_)
      have z_8 := KL.i z_6 e_7
      exact pc_some z_8
theorem k_fX12_tick_J17 (N : Nat) (g : Gs) (x0 : Nat) (x1 : Int32) (d : Ds) (hS : Shp g) (hZ : KL d) : pc (fX12_tick_J17 N g x0 x1 d) (fun _ d1 => KL d1) := by
  unfold fX12_tick_J17
  exact pc_some hZ
theorem k_fX12_laysParts_J148 (N : Nat) (g : Gs) (x0 : Nat) (x1 : Int32) (K39 : Int32 × Int32 × Int32 × Ds → Option (Int32 × Ds)) (y2 : Int32) (y3 : Int32) (y4 : Int32) (d : Ds) (hS : Shp g) (hZ : KL d) (hK39 : ∀ a, KL a.2.2.2 → pc (K39 a) (fun _ d1 => KL d1)) : pc (fX12_laysParts_J148 N g x0 x1 K39 y2 y3 y4 d) (fun _ d1 => KL d1) := by
  unfold fX12_laysParts_J148
  refine pc_bd (fun u32 e_1 => ?_)
  exact hK39 _ hZ
theorem k_fX12_laysParts_J142 (N : Nat) (g : Gs) (x0 : Nat) (x1 : Int32) (K39 : Int32 × Int32 × Int32 × Ds → Option (Int32 × Ds)) (K115 : Int32 × Int32 × Int32 × Int32 × Int32 × Int32 × Ds → Option (Int32 × Ds)) (y2 : Int32) (y3 : Int32) (y4 : Int32) (y5 : Int32) (y6 : Int32) (y7 : Int32) (d : Ds) (hS : Shp g) (hZ : KL d) (hK39 : ∀ a, KL a.2.2.2 → pc (K39 a) (fun _ d1 => KL d1)) (hK115 : ∀ a, KL a.2.2.2.2.2.2 → pc (K115 a) (fun _ d1 => KL d1)) : pc (fX12_laysParts_J142 N g x0 x1 K39 K115 y2 y3 y4 y5 y6 y7 d) (fun _ d1 => KL d1) := by
  unfold fX12_laysParts_J142
  refine pc_bd (fun u38 e_1 => ?_)
  exact hK115 _ hZ
theorem k_fX12_laysParts_B115 (N : Nat) (g : Gs) (x0 : Nat) (x1 : Int32) (K39 : Int32 × Int32 × Int32 × Ds → Option (Int32 × Ds)) (K115 : Int32 × Int32 × Int32 × Int32 × Int32 × Int32 × Ds → Option (Int32 × Ds)) (y2 : Int32) (y3 : Int32) (y4 : Int32) (y5 : Int32) (y6 : Int32) (y7 : Int32) (d : Ds) (hS : Shp g) (hZ : KL d) (hK39 : ∀ a, KL a.2.2.2 → pc (K39 a) (fun _ d1 => KL d1)) (hK115 : ∀ a, KL a.2.2.2.2.2.2 → pc (K115 a) (fun _ d1 => KL d1)) : pc (fX12_laysParts_B115 N g x0 x1 K39 K115 y2 y3 y4 y5 y6 y7 d) (fun _ d1 => KL d1) := by
  unfold fX12_laysParts_B115
  refine pc_if (fun _ => ?_) (fun _ => ?_)
  · exact k_fX12_laysParts_J148 N g x0 x1 K39 y2 y3 y4 d hS hZ hK39
  · refine pc_gd (fun c_1 => ?_)
    refine pc_ob (fun r34 e_2 => ?_)
    refine pc_gd (fun c_3 => ?_)
    refine pc_gd (fun c_4 => ?_)
    refine pc_if (fun _ => ?_) (fun _ => ?_)
    · refine pc_bd (fun d39 e_5 => ?_)
      have z_6 := KL.i hZ e_5
      exact k_fX12_laysParts_J142 N g x0 x1 K39 K115 y2 y3 y4 y5 y6 y7 d39 hS z_6 hK39 hK115
    · exact k_fX12_laysParts_J142 N g x0 x1 K39 K115 y2 y3 y4 y5 y6 y7 d hS hZ hK39 hK115
theorem k_fX12_laysParts_L115 (N : Nat) (g : Gs) (x0 : Nat) (x1 : Int32) (K39 : Int32 × Int32 × Int32 × Ds → Option (Int32 × Ds)) (hS : Shp g) (a0 : Int32) (a1 : Int32) (a2 : Int32) (a3 : Int32) (a4 : Int32) (a5 : Int32) (a6 : Ds) (hZ : KL a6) (hK39 : ∀ a, KL a.2.2.2 → pc (K39 a) (fun _ d1 => KL d1)) : pc (fX12_laysParts_L115 N g x0 x1 K39 (a0, a1, a2, a3, a4, a5, a6)) (fun _ d1 => KL d1) := by
  unfold fX12_laysParts_L115
  refine pc_lp (fun a => KL a.2.2.2.2.2.2) ?_ N (a0, a1, a2, a3, a4, a5, a6) hZ
  rintro K ⟨a0, a1, a2, a3, a4, a5, a6⟩ hZ hK
  exact k_fX12_laysParts_B115 N g x0 x1 K39 K a0 a1 a2 a3 a4 a5 a6 hS hZ hK39 hK
theorem k_fX12_laysParts_B39 (N : Nat) (g : Gs) (x0 : Nat) (x1 : Int32) (K39 : Int32 × Int32 × Int32 × Ds → Option (Int32 × Ds)) (y2 : Int32) (y3 : Int32) (y4 : Int32) (d : Ds) (hS : Shp g) (hZ : KL d) (hK39 : ∀ a, KL a.2.2.2 → pc (K39 a) (fun _ d1 => KL d1)) : pc (fX12_laysParts_B39 N g x0 x1 K39 y2 y3 y4 d) (fun _ d1 => KL d1) := by
  unfold fX12_laysParts_B39
  refine pc_gd (fun c_1 => ?_)
  refine pc_cb (k_fX12_keysMany N g x0 d hS hZ) (fun u11 d9 z_2 => ?_)
  refine pc_if (fun _ => ?_) (fun _ => ?_)
  · exact pc_some z_2
  · refine pc_cb (k_fX12_has N g x1 y4 d9 hS z_2) (fun u15 d13 z_3 => ?_)
    refine pc_if (fun _ => ?_) (fun _ => ?_)
    · exact k_fX12_laysParts_J148 N g x0 x1 K39 y2 y3 y4 d13 hS z_3 hK39
    · refine pc_ob (fun r17 e_4 => ?_)
      refine pc_ob (fun r18 e_5 => ?_)
      refine pc_gd (fun c_6 => ?_)
      refine pc_gd (fun c_7 => ?_)
      refine pc_gd (fun c_8 => ?_)
      refine pc_gd (fun c_9 => ?_)
      refine pc_gd (fun c_10 => ?_)
      refine pc_bd (fun u24 e_11 => ?_)
      refine pc_gd (fun c_12 => ?_)
      refine pc_bd (fun u26 e_13 => ?_)
      refine pc_gd (fun c_14 => ?_)
      refine pc_bd (fun u28 e_15 => ?_)
      refine pc_if (fun _ => ?_) (fun _ => ?_)
      · exact k_fX12_laysParts_J148 N g x0 x1 K39 y2 y3 y4 d13 hS z_3 hK39
      · refine pc_bd (fun u30 e_16 => ?_)
        exact k_fX12_laysParts_L115 N g x0 x1 K39 hS y2 u30 y4 u24 u28 0 d13 z_3 hK39
theorem k_fX12_laysParts_L39 (N : Nat) (g : Gs) (x0 : Nat) (x1 : Int32) (hS : Shp g) (a0 : Int32) (a1 : Int32) (a2 : Int32) (a3 : Ds) (hZ : KL a3) : pc (fX12_laysParts_L39 N g x0 x1 (a0, a1, a2, a3)) (fun _ d1 => KL d1) := by
  unfold fX12_laysParts_L39
  refine pc_lp (fun a => KL a.2.2.2) ?_ N (a0, a1, a2, a3) hZ
  rintro K ⟨a0, a1, a2, a3⟩ hZ hK
  exact k_fX12_laysParts_B39 N g x0 x1 K a0 a1 a2 a3 hS hZ hK
theorem k_fX12_laysParts_B16 (N : Nat) (g : Gs) (x0 : Nat) (x1 : Int32) (K16 : Int32 × Int32 × Ds → Option (Int32 × Ds)) (y2 : Int32) (y3 : Int32) (d : Ds) (hS : Shp g) (hZ : KL d) (hK16 : ∀ a, KL a.2.2 → pc (K16 a) (fun _ d1 => KL d1)) : pc (fX12_laysParts_B16 N g x0 x1 K16 y2 y3 d) (fun _ d1 => KL d1) := by
  unfold fX12_laysParts_B16
  refine pc_if (fun _ => ?_) (fun _ => ?_)
  · exact k_fX12_laysParts_L39 N g x0 x1 hS y2 y2 0 d hZ
  · refine pc_gd (fun c_1 => ?_)
    refine pc_ob (fun r41 e_2 => ?_)
    refine pc_gd (fun c_3 => ?_)
    refine pc_gd (fun c_4 => ?_)
    refine pc_bd (fun d44 e_5 => ?_)
    have z_6 := KL.i hZ e_5
    refine pc_bd (fun u45 e_7 => ?_)
    exact hK16 _ z_6
theorem k_fX12_laysParts_L16 (N : Nat) (g : Gs) (x0 : Nat) (x1 : Int32) (hS : Shp g) (a0 : Int32) (a1 : Int32) (a2 : Ds) (hZ : KL a2) : pc (fX12_laysParts_L16 N g x0 x1 (a0, a1, a2)) (fun _ d1 => KL d1) := by
  unfold fX12_laysParts_L16
  refine pc_lp (fun a => KL a.2.2) ?_ N (a0, a1, a2) hZ
  rintro K ⟨a0, a1, a2⟩ hZ hK
  exact k_fX12_laysParts_B16 N g x0 x1 K a0 a1 a2 hS hZ hK
theorem k_fX12_laysParts (N : Nat) (g : Gs) (x0 : Nat) (x1 : Int32) (d : Ds) (hS : Shp g) (hZ : KL d) : pc (fX12_laysParts N g x0 x1 d) (fun _ d1 => KL d1) := by
  unfold fX12_laysParts
  refine pc_gd (fun c_1 => ?_)
  refine pc_ob (fun r2 e_2 => ?_)
  refine pc_gd (fun c_3 => ?_)
  refine pc_gd (fun c_4 => ?_)
  refine pc_gd (fun c_5 => ?_)
  refine pc_bd (fun u6 e_6 => ?_)
  exact k_fX12_laysParts_L16 N g x0 x1 hS u6 0 d hZ
theorem k_fX12_seenBy_J77 (N : Nat) (g : Gs) (x0 : Nat) (x1 : Int32) (K23 : Int32 × Int32 × Ds → Option (Int32 × Ds)) (y3 : Int32) (y4 : Int32) (d : Ds) (hS : Shp g) (hZ : KL d) (hK23 : ∀ a, KL a.2.2 → pc (K23 a) (fun _ d1 => KL d1)) : pc (fX12_seenBy_J77 N g x0 x1 K23 y3 y4 d) (fun _ d1 => KL d1) := by
  unfold fX12_seenBy_J77
  refine pc_bd (fun u25 e_1 => ?_)
  exact hK23 _ hZ
theorem k_fX12_seenBy_B23 (N : Nat) (g : Gs) (x0 : Nat) (x1 : Int32) (K23 : Int32 × Int32 × Ds → Option (Int32 × Ds)) (y3 : Int32) (y4 : Int32) (d : Ds) (hS : Shp g) (hZ : KL d) (hK23 : ∀ a, KL a.2.2 → pc (K23 a) (fun _ d1 => KL d1)) : pc (fX12_seenBy_B23 N g x0 x1 K23 y3 y4 d) (fun _ d1 => KL d1) := by
  unfold fX12_seenBy_B23
  refine pc_gd (fun c_1 => ?_)
  refine pc_cb (k_fX12_keysMany N g x0 d hS hZ) (fun u12 d10 z_2 => ?_)
  refine pc_if (fun _ => ?_) (fun _ => ?_)
  · exact pc_some z_2
  · refine pc_ob (fun r14 e_3 => ?_)
    refine pc_ob (fun r15 e_4 => ?_)
    refine pc_gd (fun c_5 => ?_)
    refine pc_gd (fun c_6 => ?_)
    refine pc_gd (fun c_7 => ?_)
    refine pc_gd (fun c_8 => ?_)
    refine pc_gd (fun c_9 => ?_)
    refine pc_gd (fun c_10 => ?_)
    refine pc_bd (fun u22 e_11 => ?_)
    refine pc_gd (fun c_12 => ?_)
    refine pc_if (fun _ => ?_) (fun _ => ?_)
    · refine pc_bd (fun u26 e_13 => ?_)
      exact k_fX12_seenBy_J77 N g x0 x1 K23 u26 y4 d10 hS z_2 hK23
    · exact k_fX12_seenBy_J77 N g x0 x1 K23 y3 y4 d10 hS z_2 hK23
theorem k_fX12_seenBy_L23 (N : Nat) (g : Gs) (x0 : Nat) (x1 : Int32) (hS : Shp g) (a0 : Int32) (a1 : Int32) (a2 : Ds) (hZ : KL a2) : pc (fX12_seenBy_L23 N g x0 x1 (a0, a1, a2)) (fun _ d1 => KL d1) := by
  unfold fX12_seenBy_L23
  refine pc_lp (fun a => KL a.2.2) ?_ N (a0, a1, a2) hZ
  rintro K ⟨a0, a1, a2⟩ hZ hK
  exact k_fX12_seenBy_B23 N g x0 x1 K a0 a1 a2 hS hZ hK
theorem k_fX12_seenBy (N : Nat) (g : Gs) (x0 : Nat) (x1 : Int32) (d : Ds) (hS : Shp g) (hZ : KL d) : pc (fX12_seenBy N g x0 x1 d) (fun _ d1 => KL d1) := by
  unfold fX12_seenBy
  refine pc_gd (fun c_1 => ?_)
  refine pc_ob (fun r2 e_2 => ?_)
  refine pc_gd (fun c_3 => ?_)
  refine pc_gd (fun c_4 => ?_)
  refine pc_if (fun _ => ?_) (fun _ => ?_)
  · exact pc_some hZ
  · refine pc_cb (k_fX12_laysParts N g x0 x1 d hS hZ) (fun u8 d6 z_5 => ?_)
    exact k_fX12_seenBy_L23 N g x0 x1 hS 0 0 d6 z_5
theorem k_fX12_isCornered_J105 (N : Nat) (g : Gs) (x0 : Nat) (x1 : Int32) (x2 : Int32) (x3 : Int32) (K11 : Int32 × Int32 × Ds → Option (Int32 × Ds)) (K25 : Int32 × Int32 × Int32 × Ds → Option (Int32 × Ds)) (y4 : Int32) (y5 : Int32) (y6 : Int32) (d : Ds) (hS : Shp g) (hZ : KL d) (hK11 : ∀ a, KL a.2.2 → pc (K11 a) (fun _ d1 => KL d1)) (hK25 : ∀ a, KL a.2.2.2 → pc (K25 a) (fun _ d1 => KL d1)) : pc (fX12_isCornered_J105 N g x0 x1 x2 x3 K11 K25 y4 y5 y6 d) (fun _ d1 => KL d1) := by
  unfold fX12_isCornered_J105
  refine pc_bd (fun u14 e_1 => ?_)
  exact hK25 _ hZ
theorem k_fX12_isCornered_B25 (N : Nat) (g : Gs) (x0 : Nat) (x1 : Int32) (x2 : Int32) (x3 : Int32) (K11 : Int32 × Int32 × Ds → Option (Int32 × Ds)) (K25 : Int32 × Int32 × Int32 × Ds → Option (Int32 × Ds)) (y4 : Int32) (y5 : Int32) (y6 : Int32) (d : Ds) (hS : Shp g) (hZ : KL d) (hK11 : ∀ a, KL a.2.2 → pc (K11 a) (fun _ d1 => KL d1)) (hK25 : ∀ a, KL a.2.2.2 → pc (K25 a) (fun _ d1 => KL d1)) : pc (fX12_isCornered_B25 N g x0 x1 x2 x3 K11 K25 y4 y5 y6 d) (fun _ d1 => KL d1) := by
  unfold fX12_isCornered_B25
  refine pc_if (fun _ => ?_) (fun _ => ?_)
  · refine pc_bd (fun u12 e_1 => ?_)
    exact hK11 _ hZ
  · refine pc_if (fun _ => ?_) (fun _ => ?_)
    · exact k_fX12_isCornered_J105 N g x0 x1 x2 x3 K11 K25 y4 y5 y6 d hS hZ hK11 hK25
    · refine pc_if (fun _ => ?_) (fun _ => ?_)
      · exact k_fX12_isCornered_J105 N g x0 x1 x2 x3 K11 K25 y4 y5 y6 d hS hZ hK11 hK25
      · refine pc_cb (k_fX12_has N g x1 ((y4 * x2) + x3) d hS hZ) (fun u18 d16 z_2 => ?_)
        refine pc_if (fun _ => ?_) (fun _ => ?_)
        · exact k_fX12_isCornered_J105 N g x0 x1 x2 x3 K11 K25 y4 y5 y6 d16 hS z_2 hK11 hK25
        · refine pc_cb (k_fX12_has N g x1 ((y4 * x2) + y6) d16 hS z_2) (fun u22 d20 z_3 => ?_)
          refine pc_if (fun _ => ?_) (fun _ => ?_)
          · exact k_fX12_isCornered_J105 N g x0 x1 x2 x3 K11 K25 y4 y5 y6 d20 hS z_3 hK11 hK25
          · refine pc_cb (k_fX12_has N g x1 ((y4 * y5) + x3) d20 hS z_3) (fun u26 d24 z_4 => ?_)
            refine pc_if (fun _ => ?_) (fun _ => ?_)
            · exact k_fX12_isCornered_J105 N g x0 x1 x2 x3 K11 K25 y4 y5 y6 d24 hS z_4 hK11 hK25
            · refine pc_cb (k_fX12_has N g x1 ((y4 * y5) + y6) d24 hS z_4) (fun u30 d28 z_5 => ?_)
              refine pc_if (fun _ => ?_) (fun _ => ?_)
              · exact k_fX12_isCornered_J105 N g x0 x1 x2 x3 K11 K25 y4 y5 y6 d28 hS z_5 hK11 hK25
              · exact pc_some z_5
theorem k_fX12_isCornered_L25 (N : Nat) (g : Gs) (x0 : Nat) (x1 : Int32) (x2 : Int32) (x3 : Int32) (K11 : Int32 × Int32 × Ds → Option (Int32 × Ds)) (hS : Shp g) (a0 : Int32) (a1 : Int32) (a2 : Int32) (a3 : Ds) (hZ : KL a3) (hK11 : ∀ a, KL a.2.2 → pc (K11 a) (fun _ d1 => KL d1)) : pc (fX12_isCornered_L25 N g x0 x1 x2 x3 K11 (a0, a1, a2, a3)) (fun _ d1 => KL d1) := by
  unfold fX12_isCornered_L25
  refine pc_lp (fun a => KL a.2.2.2) ?_ N (a0, a1, a2, a3) hZ
  rintro K ⟨a0, a1, a2, a3⟩ hZ hK
  exact k_fX12_isCornered_B25 N g x0 x1 x2 x3 K11 K a0 a1 a2 a3 hS hZ hK11 hK
theorem k_fX12_isCornered_B11 (N : Nat) (g : Gs) (x0 : Nat) (x1 : Int32) (x2 : Int32) (x3 : Int32) (K11 : Int32 × Int32 × Ds → Option (Int32 × Ds)) (y4 : Int32) (y5 : Int32) (d : Ds) (hS : Shp g) (hZ : KL d) (hK11 : ∀ a, KL a.2.2 → pc (K11 a) (fun _ d1 => KL d1)) : pc (fX12_isCornered_B11 N g x0 x1 x2 x3 K11 y4 y5 d) (fun _ d1 => KL d1) := by
  unfold fX12_isCornered_B11
  refine pc_gd (fun c_1 => ?_)
  refine pc_ob (fun r7 e_2 => ?_)
  refine pc_gd (fun c_3 => ?_)
  refine pc_gd (fun c_4 => ?_)
  refine pc_if (fun _ => ?_) (fun _ => ?_)
  · exact pc_some hZ
  · exact k_fX12_isCornered_L25 N g x0 x1 x2 x3 K11 hS y4 y5 0 d hZ hK11
theorem k_fX12_isCornered_L11 (N : Nat) (g : Gs) (x0 : Nat) (x1 : Int32) (x2 : Int32) (x3 : Int32) (hS : Shp g) (a0 : Int32) (a1 : Int32) (a2 : Ds) (hZ : KL a2) : pc (fX12_isCornered_L11 N g x0 x1 x2 x3 (a0, a1, a2)) (fun _ d1 => KL d1) := by
  unfold fX12_isCornered_L11
  refine pc_lp (fun a => KL a.2.2) ?_ N (a0, a1, a2) hZ
  rintro K ⟨a0, a1, a2⟩ hZ hK
  exact k_fX12_isCornered_B11 N g x0 x1 x2 x3 K a0 a1 a2 hS hZ hK
theorem k_fX12_isCornered (N : Nat) (g : Gs) (x0 : Nat) (x1 : Int32) (x2 : Int32) (x3 : Int32) (d : Ds) (hS : Shp g) (hZ : KL d) : pc (fX12_isCornered N g x0 x1 x2 x3 d) (fun _ d1 => KL d1) := by
  unfold fX12_isCornered
  refine pc_gd (fun c_1 => ?_)
  refine pc_ob (fun r2 e_2 => ?_)
  refine pc_gd (fun c_3 => ?_)
  refine pc_gd (fun c_4 => ?_)
  refine pc_bd (fun u5 e_5 => ?_)
  exact k_fX12_isCornered_L11 N g x0 x1 x2 x3 hS u5 0 d hZ
theorem k_fX12_barredBy_J54 (N : Nat) (g : Gs) (x0 : Nat) (x1 : Int32) (K16 : Int32 × Int32 × Ds → Option (Int32 × Ds)) (y2 : Int32) (y3 : Int32) (d : Ds) (hS : Shp g) (hZ : KL d) (hK16 : ∀ a, KL a.2.2 → pc (K16 a) (fun _ d1 => KL d1)) : pc (fX12_barredBy_J54 N g x0 x1 K16 y2 y3 d) (fun _ d1 => KL d1) := by
  unfold fX12_barredBy_J54
  refine pc_bd (fun u19 e_1 => ?_)
  exact hK16 _ hZ
theorem k_fX12_barredBy_B16 (N : Nat) (g : Gs) (x0 : Nat) (x1 : Int32) (K16 : Int32 × Int32 × Ds → Option (Int32 × Ds)) (y2 : Int32) (y3 : Int32) (d : Ds) (hS : Shp g) (hZ : KL d) (hK16 : ∀ a, KL a.2.2 → pc (K16 a) (fun _ d1 => KL d1)) : pc (fX12_barredBy_B16 N g x0 x1 K16 y2 y3 d) (fun _ d1 => KL d1) := by
  unfold fX12_barredBy_B16
  refine pc_gd (fun c_1 => ?_)
  refine pc_cb (k_fX12_keysMany N g x0 d hS hZ) (fun u9 d7 z_2 => ?_)
  refine pc_if (fun _ => ?_) (fun _ => ?_)
  · exact pc_some z_2
  · refine pc_ob (fun r11 e_3 => ?_)
    refine pc_gd (fun c_4 => ?_)
    refine pc_gd (fun c_5 => ?_)
    refine pc_gd (fun c_6 => ?_)
    refine pc_cb (k_fX12_isCornered N g x0 x1 (y3 / (dI d7 r11 (1 : Int32).toNatClampNeg)) (y3 - ((y3 / (dI d7 r11 (1 : Int32).toNatClampNeg)) * (dI d7 r11 (1 : Int32).toNatClampNeg))) d7 hS z_2) (fun u17 d15 z_7 => ?_)
    refine pc_if (fun _ => ?_) (fun _ => ?_)
    · exact k_fX12_barredBy_J54 N g x0 x1 K16 y2 y3 d15 hS z_7 hK16
    · refine pc_bd (fun u20 e_8 => ?_)
      exact k_fX12_barredBy_J54 N g x0 x1 K16 u20 y3 d15 hS z_7 hK16
theorem k_fX12_barredBy_L16 (N : Nat) (g : Gs) (x0 : Nat) (x1 : Int32) (hS : Shp g) (a0 : Int32) (a1 : Int32) (a2 : Ds) (hZ : KL a2) : pc (fX12_barredBy_L16 N g x0 x1 (a0, a1, a2)) (fun _ d1 => KL d1) := by
  unfold fX12_barredBy_L16
  refine pc_lp (fun a => KL a.2.2) ?_ N (a0, a1, a2) hZ
  rintro K ⟨a0, a1, a2⟩ hZ hK
  exact k_fX12_barredBy_B16 N g x0 x1 K a0 a1 a2 hS hZ hK
theorem k_fX12_barredBy (N : Nat) (g : Gs) (x0 : Nat) (x1 : Int32) (d : Ds) (hS : Shp g) (hZ : KL d) : pc (fX12_barredBy N g x0 x1 d) (fun _ d1 => KL d1) := by
  unfold fX12_barredBy
  refine pc_gd (fun c_1 => ?_)
  refine pc_ob (fun r2 e_2 => ?_)
  refine pc_gd (fun c_3 => ?_)
  refine pc_gd (fun c_4 => ?_)
  refine pc_if (fun _ => ?_) (fun _ => ?_)
  · exact pc_some hZ
  · exact k_fX12_barredBy_L16 N g x0 x1 hS 0 0 d hZ
theorem k_fX12_repeats_J54 (N : Nat) (g : Gs) (x0 : Nat) (d : Ds) (hS : Shp g) (hZ : KL d) : pc (fX12_repeats_J54 N g x0 d) (fun _ d1 => KL d1) := by
  unfold fX12_repeats_J54
  exact pc_some hZ
theorem k_fX12_repeats (N : Nat) (g : Gs) (x0 : Nat) (d : Ds) (hS : Shp g) (hZ : KL d) : pc (fX12_repeats N g x0 d) (fun _ d1 => KL d1) := by
  unfold fX12_repeats
  refine pc_gd (fun c_1 => ?_)
  refine pc_ob (fun r2 e_2 => ?_)
  refine pc_gd (fun c_3 => ?_)
  refine pc_gd (fun c_4 => ?_)
  refine pc_if (fun _ => ?_) (fun _ => ?_)
  · refine pc_gd (fun c_5 => ?_)
    refine pc_gd (fun c_6 => ?_)
    refine pc_gd (fun c_7 => ?_)
    refine pc_bd (fun u9 e_8 => ?_)
    refine pc_if (fun _ => ?_) (fun _ => ?_)
    · exact k_fX12_repeats_J54 N g x0 d hS hZ
    · refine pc_gd (fun c_9 => ?_)
      refine pc_gd (fun c_10 => ?_)
      refine pc_if (fun _ => ?_) (fun _ => ?_)
      · refine pc_gd (fun c_11 => ?_)
        refine pc_bd (fun d15 e_12 => ?_)
        have z_13 := KL.i hZ e_12
        refine pc_gd (fun c_14 => ?_)
        refine pc_bd (fun d17 e_15 => ?_)
        have z_16 := KL.i z_13 e_15
        exact pc_some z_16
      · exact k_fX12_repeats_J54 N g x0 d hS hZ
  · exact pc_some hZ
theorem k_fX12_ticks_J217 (N : Nat) (g : Gs) (x0 : Nat) (K165 : Int32 × Int32 × Ds → Option (Unit × Ds)) (y1 : Int32) (y4 : Int32) (d : Ds) (hS : Shp g) (hZ : KL d) (hK165 : ∀ a, KL a.2.2 → pc (K165 a) (fun _ d1 => KL d1)) : pc (fX12_ticks_J217 N g x0 K165 y1 y4 d) (fun _ d1 => KL d1) := by
  unfold fX12_ticks_J217
  refine pc_bd (fun u36 e_1 => ?_)
  exact hK165 _ hZ
theorem k_fX12_ticks_B165 (N : Nat) (g : Gs) (x0 : Nat) (K165 : Int32 × Int32 × Ds → Option (Unit × Ds)) (y1 : Int32) (y4 : Int32) (d : Ds) (hS : Shp g) (hZ : KL d) (hK165 : ∀ a, KL a.2.2 → pc (K165 a) (fun _ d1 => KL d1)) : pc (fX12_ticks_B165 N g x0 K165 y1 y4 d) (fun _ d1 => KL d1) := by
  unfold fX12_ticks_B165
  refine pc_gd (fun c_1 => ?_)
  refine pc_cb (k_fX12_keysMany N g x0 d hS hZ) (fun u22 d20 z_2 => ?_)
  refine pc_if (fun _ => ?_) (fun _ => ?_)
  · refine pc_cv (k_fX12_repeats N g x0 d20 hS z_2) (fun d24 z_3 => ?_)
    exact pc_some z_3
  · refine pc_ob (fun r26 e_4 => ?_)
    refine pc_gd (fun c_5 => ?_)
    refine pc_gd (fun c_6 => ?_)
    refine pc_gd (fun c_7 => ?_)
    refine pc_bd (fun u30 e_8 => ?_)
    refine pc_bd (fun d31 e_9 => ?_)
    have z_10 := KL.f z_2 e_9
    refine pc_cb (k_fX12_has N g y1 y4 d31 hS z_10) (fun u34 d32 z_11 => ?_)
    refine pc_if (fun _ => ?_) (fun _ => ?_)
    · exact k_fX12_ticks_J217 N g x0 K165 y1 y4 d32 hS z_11 hK165
    · refine pc_gd (fun c_12 => ?_)
      refine pc_bd (fun u38 e_13 => ?_)
      refine pc_bd (fun d39 e_14 => ?_)
      have z_15 := KL.f z_11 e_14
      exact k_fX12_ticks_J217 N g x0 K165 y1 y4 d39 hS z_15 hK165
theorem k_fX12_ticks_L165 (N : Nat) (g : Gs) (x0 : Nat) (hS : Shp g) (a0 : Int32) (a1 : Int32) (a2 : Ds) (hZ : KL a2) : pc (fX12_ticks_L165 N g x0 (a0, a1, a2)) (fun _ d1 => KL d1) := by
  unfold fX12_ticks_L165
  refine pc_lp (fun a => KL a.2.2) ?_ N (a0, a1, a2) hZ
  rintro K ⟨a0, a1, a2⟩ hZ hK
  exact k_fX12_ticks_B165 N g x0 K a0 a1 a2 hS hZ hK
theorem k_fX12_ticks_J162 (N : Nat) (g : Gs) (x0 : Nat) (y1 : Int32) (d : Ds) (hS : Shp g) (hZ : KL d) : pc (fX12_ticks_J162 N g x0 y1 d) (fun _ d1 => KL d1) := by
  unfold fX12_ticks_J162
  exact k_fX12_ticks_L165 N g x0 hS y1 0 d hZ
theorem k_fX12_keyAt (N : Nat) (g : Gs) (x0 : Nat) (x1 : Int32) (d : Ds) (hS : Shp g) (hZ : KL d) : pc (fX12_keyAt N g x0 x1 d) (fun _ d1 => KL d1) := by
  unfold fX12_keyAt
  refine pc_gd (fun c_1 => ?_)
  refine pc_ob (fun r2 e_2 => ?_)
  refine pc_gd (fun c_3 => ?_)
  refine pc_gd (fun c_4 => ?_)
  exact pc_some hZ
theorem k_fX12_isDownAt_J23 (N : Nat) (g : Gs) (x0 : Nat) (x1 : Int32) (z0 : Int32) (d : Ds) (hS : Shp g) (hZ : KL d) : pc (fX12_isDownAt_J23 N g x0 x1 z0 d) (fun _ d1 => KL d1) := by
  unfold fX12_isDownAt_J23
  refine pc_gd (fun c_1 => ?_)
  exact pc_some hZ
theorem k_fX12_isDownAt (N : Nat) (g : Gs) (x0 : Nat) (x1 : Int32) (d : Ds) (hS : Shp g) (hZ : KL d) : pc (fX12_isDownAt N g x0 x1 d) (fun _ d1 => KL d1) := by
  unfold fX12_isDownAt
  refine pc_gd (fun c_1 => ?_)
  refine pc_ob (fun r2 e_2 => ?_)
  refine pc_gd (fun c_3 => ?_)
  refine pc_gd (fun c_4 => ?_)
  refine pc_if (fun _ => ?_) (fun _ => ?_)
  · exact k_fX12_isDownAt_J23 N g x0 x1 1 d hS hZ
  · exact k_fX12_isDownAt_J23 N g x0 x1 0 d hS hZ
theorem k_fX12_drops_B8 (N : Nat) (g : Gs) (x0 : Nat) (x1 : Int32) (K8 : Int32 × Ds → Option (Unit × Ds)) (y2 : Int32) (d : Ds) (hS : Shp g) (hZ : KL d) (hK8 : ∀ a, KL a.2 → pc (K8 a) (fun _ d1 => KL d1)) : pc (fX12_drops_B8 N g x0 x1 K8 y2 d) (fun _ d1 => KL d1) := by
  unfold fX12_drops_B8
  refine pc_gd (fun c_1 => ?_)
  refine pc_ob (fun r3 e_2 => ?_)
  refine pc_gd (fun c_3 => ?_)
  refine pc_gd (fun c_4 => ?_)
  refine pc_if (fun _ => ?_) (fun _ => ?_)
  · refine pc_bd (fun d7 e_5 => ?_)
    have z_6 := KL.i hZ e_5
    exact pc_some z_6
  · refine pc_gd (fun c_7 => ?_)
    refine pc_gd (fun c_8 => ?_)
    refine pc_bd (fun d10 e_9 => ?_)
    have z_10 := KL.i hZ e_9
    refine pc_bd (fun u11 e_11 => ?_)
    exact hK8 _ z_10
theorem k_fX12_drops_L8 (N : Nat) (g : Gs) (x0 : Nat) (x1 : Int32) (hS : Shp g) (a0 : Int32) (a1 : Ds) (hZ : KL a1) : pc (fX12_drops_L8 N g x0 x1 (a0, a1)) (fun _ d1 => KL d1) := by
  unfold fX12_drops_L8
  refine pc_lp (fun a => KL a.2) ?_ N (a0, a1) hZ
  rintro K ⟨a0, a1⟩ hZ hK
  exact k_fX12_drops_B8 N g x0 x1 K a0 a1 hS hZ hK
theorem k_fX12_drops (N : Nat) (g : Gs) (x0 : Nat) (x1 : Int32) (d : Ds) (hS : Shp g) (hZ : KL d) : pc (fX12_drops N g x0 x1 d) (fun _ d1 => KL d1) := by
  unfold fX12_drops
  refine pc_bd (fun u1 e_1 => ?_)
  exact k_fX12_drops_L8 N g x0 x1 hS u1 d hZ
theorem k_fX12_chordOf_J47 (N : Nat) (g : Gs) (x0 : Nat) (x1 : Int32) (y2 : Int32) (d : Ds) (hS : Shp g) (hZ : KL d) : pc (fX12_chordOf_J47 N g x0 x1 y2 d) (fun _ d1 => KL d1) := by
  unfold fX12_chordOf_J47
  exact pc_some hZ
theorem k_fX12_chordOf_B2 (N : Nat) (g : Gs) (x0 : Nat) (x1 : Int32) (K2 : Int32 × Ds → Option (Int32 × Ds)) (y2 : Int32) (d : Ds) (hS : Shp g) (hZ : KL d) (hK2 : ∀ a, KL a.2 → pc (K2 a) (fun _ d1 => KL d1)) : pc (fX12_chordOf_B2 N g x0 x1 K2 y2 d) (fun _ d1 => KL d1) := by
  unfold fX12_chordOf_B2
  refine pc_gd (fun c_1 => ?_)
  refine pc_ob (fun r2 e_2 => ?_)
  refine pc_gd (fun c_3 => ?_)
  refine pc_gd (fun c_4 => ?_)
  refine pc_if (fun _ => ?_) (fun _ => ?_)
  · exact pc_some hZ
  · refine pc_gd (fun c_5 => ?_)
    refine pc_if (fun _ => ?_) (fun _ => ?_)
    · exact k_fX12_chordOf_J47 N g x0 x1 y2 d hS hZ
    · refine pc_gd (fun c_6 => ?_)
      refine pc_if (fun _ => ?_) (fun _ => ?_)
      · exact k_fX12_chordOf_J47 N g x0 x1 y2 d hS hZ
      · refine pc_bd (fun u10 e_7 => ?_)
        exact hK2 _ hZ
theorem k_fX12_chordOf_L2 (N : Nat) (g : Gs) (x0 : Nat) (x1 : Int32) (hS : Shp g) (a0 : Int32) (a1 : Ds) (hZ : KL a1) : pc (fX12_chordOf_L2 N g x0 x1 (a0, a1)) (fun _ d1 => KL d1) := by
  unfold fX12_chordOf_L2
  refine pc_lp (fun a => KL a.2) ?_ N (a0, a1) hZ
  rintro K ⟨a0, a1⟩ hZ hK
  exact k_fX12_chordOf_B2 N g x0 x1 K a0 a1 hS hZ hK
theorem k_fX12_chordOf (N : Nat) (g : Gs) (x0 : Nat) (x1 : Int32) (d : Ds) (hS : Shp g) (hZ : KL d) : pc (fX12_chordOf N g x0 x1 d) (fun _ d1 => KL d1) := by
  unfold fX12_chordOf
  exact k_fX12_chordOf_L2 N g x0 x1 hS 0 d hZ
theorem k_fX12_stops (N : Nat) (g : Gs) (x0 : Nat) (x1 : Int32) (d : Ds) (hS : Shp g) (hZ : KL d) : pc (fX12_stops N g x0 x1 d) (fun _ d1 => KL d1) := by
  unfold fX12_stops
  refine pc_gd (fun c_1 => ?_)
  refine pc_ob (fun r2 e_2 => ?_)
  refine pc_gd (fun c_3 => ?_)
  refine pc_gd (fun c_4 => ?_)
  refine pc_bd (fun d5 e_5 => ?_)
  have z_6 := KL.i hZ e_5
  refine pc_gd (fun c_7 => ?_)
  refine pc_bd (fun d7 e_8 => ?_)
  have z_9 := KL.i z_6 e_8
  exact pc_some z_9
theorem k_fX12_ends_J73 (N : Nat) (g : Gs) (x0 : Nat) (x1 : Int32) (d : Ds) (hS : Shp g) (hZ : KL d) : pc (fX12_ends_J73 N g x0 x1 d) (fun _ d1 => KL d1) := by
  unfold fX12_ends_J73
  refine pc_gd (fun c_1 => ?_)
  refine pc_cv (k_fX12_stops N g x0 x1 d hS hZ) (fun d7 z_2 => ?_)
  exact pc_some z_2
theorem k_fX12_ends (N : Nat) (g : Gs) (x0 : Nat) (x1 : Int32) (d : Ds) (hS : Shp g) (hZ : KL d) : pc (fX12_ends N g x0 x1 d) (fun _ d1 => KL d1) := by
  unfold fX12_ends
  refine pc_gd (fun c_1 => ?_)
  refine pc_cb (k_fX12_chordOf N g x0 x1 d hS hZ) (fun u4 d2 z_2 => ?_)
  refine pc_if (fun _ => ?_) (fun _ => ?_)
  · exact k_fX12_ends_J73 N g x0 x1 d2 hS z_2
  · refine pc_ob (fun r9 e_3 => ?_)
    refine pc_gd (fun c_4 => ?_)
    refine pc_gd (fun c_5 => ?_)
    refine pc_cb (k_fX12_has N g (dI d2 r9 (453 : Int32).toNatClampNeg) u4 d2 hS z_2) (fun u14 d12 z_6 => ?_)
    refine pc_if (fun _ => ?_) (fun _ => ?_)
    · exact k_fX12_ends_J73 N g x0 x1 d12 hS z_6
    · refine pc_bd (fun d16 e_7 => ?_)
      have z_8 := KL.i z_6 e_7
      refine pc_gd (fun c_9 => ?_)
      refine pc_cv (k_fX12_stops N g x0 (dI d16 r9 ((300 : Int32) + ((4 : Int32) * u4)).toNatClampNeg) d16 hS z_8) (fun d18 z_10 => ?_)
      refine pc_gd (fun c_11 => ?_)
      refine pc_cv (k_fX12_stops N g x0 (dI d18 r9 (((300 : Int32) + ((4 : Int32) * u4)) + 1).toNatClampNeg) d18 hS z_10) (fun d21 z_12 => ?_)
      exact k_fX12_ends_J73 N g x0 x1 d21 hS z_12
theorem k_fX12_nextBegun_J83 (N : Nat) (g : Gs) (x0 : Nat) (x1 : Int32) (K4 : Int32 × Int32 × Ds → Option (Int32 × Ds)) (y2 : Int32) (y3 : Int32) (d : Ds) (hS : Shp g) (hZ : KL d) (hK4 : ∀ a, KL a.2.2 → pc (K4 a) (fun _ d1 => KL d1)) : pc (fX12_nextBegun_J83 N g x0 x1 K4 y2 y3 d) (fun _ d1 => KL d1) := by
  unfold fX12_nextBegun_J83
  refine pc_bd (fun u7 e_1 => ?_)
  exact hK4 _ hZ
theorem k_fX12_nextBegun_J81 (N : Nat) (g : Gs) (x0 : Nat) (x1 : Int32) (K4 : Int32 × Int32 × Ds → Option (Int32 × Ds)) (y3 : Int32) (d : Ds) (hS : Shp g) (hZ : KL d) (hK4 : ∀ a, KL a.2.2 → pc (K4 a) (fun _ d1 => KL d1)) : pc (fX12_nextBegun_J81 N g x0 x1 K4 y3 d) (fun _ d1 => KL d1) := by
  unfold fX12_nextBegun_J81
  exact k_fX12_nextBegun_J83 N g x0 x1 K4 y3 y3 d hS hZ hK4
theorem k_fX12_nextBegun_B4 (N : Nat) (g : Gs) (x0 : Nat) (x1 : Int32) (K4 : Int32 × Int32 × Ds → Option (Int32 × Ds)) (y2 : Int32) (y3 : Int32) (d : Ds) (hS : Shp g) (hZ : KL d) (hK4 : ∀ a, KL a.2.2 → pc (K4 a) (fun _ d1 => KL d1)) : pc (fX12_nextBegun_B4 N g x0 x1 K4 y2 y3 d) (fun _ d1 => KL d1) := by
  unfold fX12_nextBegun_B4
  refine pc_if (fun _ => ?_) (fun _ => ?_)
  · exact pc_some hZ
  · refine pc_gd (fun c_1 => ?_)
    refine pc_ob (fun r3 e_2 => ?_)
    refine pc_gd (fun c_3 => ?_)
    refine pc_gd (fun c_4 => ?_)
    refine pc_if (fun _ => ?_) (fun _ => ?_)
    · exact k_fX12_nextBegun_J83 N g x0 x1 K4 y2 y3 d hS hZ hK4
    · refine pc_gd (fun c_5 => ?_)
      refine pc_if (fun _ => ?_) (fun _ => ?_)
      · refine pc_if (fun _ => ?_) (fun _ => ?_)
        · exact k_fX12_nextBegun_J81 N g x0 x1 K4 y3 d hS hZ hK4
        · refine pc_gd (fun c_6 => ?_)
          refine pc_if (fun _ => ?_) (fun _ => ?_)
          · exact k_fX12_nextBegun_J83 N g x0 x1 K4 y2 y3 d hS hZ hK4
          · exact k_fX12_nextBegun_J81 N g x0 x1 K4 y3 d hS hZ hK4
      · exact k_fX12_nextBegun_J83 N g x0 x1 K4 y2 y3 d hS hZ hK4
theorem k_fX12_nextBegun_L4 (N : Nat) (g : Gs) (x0 : Nat) (x1 : Int32) (hS : Shp g) (a0 : Int32) (a1 : Int32) (a2 : Ds) (hZ : KL a2) : pc (fX12_nextBegun_L4 N g x0 x1 (a0, a1, a2)) (fun _ d1 => KL d1) := by
  unfold fX12_nextBegun_L4
  refine pc_lp (fun a => KL a.2.2) ?_ N (a0, a1, a2) hZ
  rintro K ⟨a0, a1, a2⟩ hZ hK
  exact k_fX12_nextBegun_B4 N g x0 x1 K a0 a1 a2 hS hZ hK
theorem k_fX12_nextBegun (N : Nat) (g : Gs) (x0 : Nat) (x1 : Int32) (d : Ds) (hS : Shp g) (hZ : KL d) : pc (fX12_nextBegun N g x0 x1 d) (fun _ d1 => KL d1) := by
  unfold fX12_nextBegun
  exact k_fX12_nextBegun_L4 N g x0 x1 hS (-1) 0 d hZ
theorem k_fX12_laysSent_J121 (N : Nat) (g : Gs) (x0 : Nat) (d : Ds) (hS : Shp g) (hZ : KL d) : pc (fX12_laysSent_J121 N g x0 d) (fun _ d1 => KL d1) := by
  unfold fX12_laysSent_J121
  exact pc_some hZ
theorem k_fX12_adds_B2 (N : Nat) (g : Gs) (x0 : Nat) (x1 : Int32) (K2 : Int32 × Ds → Option (Unit × Ds)) (y2 : Int32) (d : Ds) (hS : Shp g) (hZ : KL d) (hK2 : ∀ a, KL a.2 → pc (K2 a) (fun _ d1 => KL d1)) : pc (fX12_adds_B2 N g x0 x1 K2 y2 d) (fun _ d1 => KL d1) := by
  unfold fX12_adds_B2
  refine pc_gd (fun c_1 => ?_)
  refine pc_if (fun _ => ?_) (fun _ => ?_)
  · refine pc_ob (fun r3 e_2 => ?_)
    refine pc_gd (fun c_3 => ?_)
    refine pc_gd (fun c_4 => ?_)
    refine pc_bd (fun d6 e_5 => ?_)
    have z_6 := KL.i hZ e_5
    refine pc_bd (fun d7 e_7 => ?_)
    have z_8 := KL.i z_6 e_7
    exact pc_some z_8
  · refine pc_ob (fun r8 e_9 => ?_)
    refine pc_gd (fun c_10 => ?_)
    refine pc_gd (fun c_11 => ?_)
    refine pc_if (fun _ => ?_) (fun _ => ?_)
    · exact pc_some hZ
    · refine pc_bd (fun u12 e_12 => ?_)
      exact hK2 _ hZ
theorem k_fX12_adds_L2 (N : Nat) (g : Gs) (x0 : Nat) (x1 : Int32) (hS : Shp g) (a0 : Int32) (a1 : Ds) (hZ : KL a1) : pc (fX12_adds_L2 N g x0 x1 (a0, a1)) (fun _ d1 => KL d1) := by
  unfold fX12_adds_L2
  refine pc_lp (fun a => KL a.2) ?_ N (a0, a1) hZ
  rintro K ⟨a0, a1⟩ hZ hK
  exact k_fX12_adds_B2 N g x0 x1 K a0 a1 hS hZ hK
theorem k_fX12_adds (N : Nat) (g : Gs) (x0 : Nat) (x1 : Int32) (d : Ds) (hS : Shp g) (hZ : KL d) : pc (fX12_adds N g x0 x1 d) (fun _ d1 => KL d1) := by
  unfold fX12_adds
  exact k_fX12_adds_L2 N g x0 x1 hS 0 d hZ
theorem k_fX12_laysSent_J80 (N : Nat) (g : Gs) (x0 : Nat) (K18 : Int32 × Ds → Option (Unit × Ds)) (y3 : Int32) (d : Ds) (hS : Shp g) (hZ : KL d) (hK18 : ∀ a, KL a.2 → pc (K18 a) (fun _ d1 => KL d1)) : pc (fX12_laysSent_J80 N g x0 K18 y3 d) (fun _ d1 => KL d1) := by
  unfold fX12_laysSent_J80
  refine pc_gd (fun c_1 => ?_)
  refine pc_ob (fun r27 e_2 => ?_)
  refine pc_gd (fun c_3 => ?_)
  refine pc_gd (fun c_4 => ?_)
  refine pc_bd (fun u30 e_5 => ?_)
  refine pc_cb (k_fX12_nextBegun N g x0 u30 d hS hZ) (fun u33 d31 z_6 => ?_)
  exact hK18 _ z_6
theorem k_fX12_laysSent_J59 (N : Nat) (g : Gs) (x0 : Nat) (K18 : Int32 × Ds → Option (Unit × Ds)) (y3 : Int32) (d : Ds) (hS : Shp g) (hZ : KL d) (hK18 : ∀ a, KL a.2 → pc (K18 a) (fun _ d1 => KL d1)) : pc (fX12_laysSent_J59 N g x0 K18 y3 d) (fun _ d1 => KL d1) := by
  unfold fX12_laysSent_J59
  refine pc_gd (fun c_1 => ?_)
  refine pc_ob (fun r22 e_2 => ?_)
  refine pc_gd (fun c_3 => ?_)
  refine pc_gd (fun c_4 => ?_)
  refine pc_if (fun _ => ?_) (fun _ => ?_)
  · refine pc_gd (fun c_5 => ?_)
    refine pc_cv (k_fX12_adds N g x0 (dI d r22 (y3 + 1).toNatClampNeg) d hS hZ) (fun d35 z_6 => ?_)
    exact k_fX12_laysSent_J80 N g x0 K18 y3 d35 hS z_6 hK18
  · exact k_fX12_laysSent_J80 N g x0 K18 y3 d hS hZ hK18
theorem k_fX12_laysSent_B18 (N : Nat) (g : Gs) (x0 : Nat) (K18 : Int32 × Ds → Option (Unit × Ds)) (y2 : Int32) (d : Ds) (hS : Shp g) (hZ : KL d) (hK18 : ∀ a, KL a.2 → pc (K18 a) (fun _ d1 => KL d1)) : pc (fX12_laysSent_B18 N g x0 K18 y2 d) (fun _ d1 => KL d1) := by
  unfold fX12_laysSent_B18
  refine pc_if (fun _ => ?_) (fun _ => ?_)
  · refine pc_gd (fun c_1 => ?_)
    refine pc_ob (fun r9 e_2 => ?_)
    refine pc_gd (fun c_3 => ?_)
    refine pc_gd (fun c_4 => ?_)
    refine pc_if (fun _ => ?_) (fun _ => ?_)
    · exact k_fX12_laysSent_J121 N g x0 d hS hZ
    · refine pc_cv (k_fX12_adds N g x0 (dI d r9 (454 : Int32).toNatClampNeg) d hS hZ) (fun d13 z_5 => ?_)
      exact k_fX12_laysSent_J121 N g x0 d13 hS z_5
  · refine pc_bd (fun u15 e_6 => ?_)
    refine pc_gd (fun c_7 => ?_)
    refine pc_ob (fun r17 e_8 => ?_)
    refine pc_gd (fun c_9 => ?_)
    refine pc_gd (fun c_10 => ?_)
    refine pc_if (fun _ => ?_) (fun _ => ?_)
    · refine pc_gd (fun c_11 => ?_)
      refine pc_bd (fun d38 e_12 => ?_)
      have z_13 := KL.i hZ e_12
      exact k_fX12_laysSent_J59 N g x0 K18 u15 d38 hS z_13 hK18
    · exact k_fX12_laysSent_J59 N g x0 K18 u15 d hS hZ hK18
theorem k_fX12_laysSent_L18 (N : Nat) (g : Gs) (x0 : Nat) (hS : Shp g) (a0 : Int32) (a1 : Ds) (hZ : KL a1) : pc (fX12_laysSent_L18 N g x0 (a0, a1)) (fun _ d1 => KL d1) := by
  unfold fX12_laysSent_L18
  refine pc_lp (fun a => KL a.2) ?_ N (a0, a1) hZ
  rintro K ⟨a0, a1⟩ hZ hK
  exact k_fX12_laysSent_B18 N g x0 K a0 a1 hS hZ hK
theorem k_fX12_laysSent (N : Nat) (g : Gs) (x0 : Nat) (d : Ds) (hS : Shp g) (hZ : KL d) : pc (fX12_laysSent N g x0 d) (fun _ d1 => KL d1) := by
  unfold fX12_laysSent
  refine pc_gd (fun c_1 => ?_)
  refine pc_bd (fun d2 e_2 => ?_)
  have z_3 := KL.i hZ e_2
  refine pc_bd (fun d3 e_4 => ?_)
  have z_5 := KL.i z_3 e_4
  refine pc_cb (k_fX12_nextBegun N g x0 (-1) d3 hS z_5) (fun u6 d4 z_6 => ?_)
  exact k_fX12_laysSent_L18 N g x0 hS u6 d4 z_6
theorem k_fX12_isLatest_J27 (N : Nat) (g : Gs) (x0 : Nat) (x1 : Int32) (z0 : Int32) (d : Ds) (hS : Shp g) (hZ : KL d) : pc (fX12_isLatest_J27 N g x0 x1 z0 d) (fun _ d1 => KL d1) := by
  unfold fX12_isLatest_J27
  refine pc_gd (fun c_1 => ?_)
  exact pc_some hZ
theorem k_fX12_isLatest_J26 (N : Nat) (g : Gs) (x0 : Nat) (x1 : Int32) (d : Ds) (hS : Shp g) (hZ : KL d) : pc (fX12_isLatest_J26 N g x0 x1 d) (fun _ d1 => KL d1) := by
  unfold fX12_isLatest_J26
  exact k_fX12_isLatest_J27 N g x0 x1 0 d hS hZ
theorem k_fX12_reportAt (N : Nat) (g : Gs) (x0 : Nat) (x1 : Int32) (d : Ds) (hS : Shp g) (hZ : KL d) : pc (fX12_reportAt N g x0 x1 d) (fun _ d1 => KL d1) := by
  unfold fX12_reportAt
  refine pc_gd (fun c_1 => ?_)
  refine pc_ob (fun r2 e_2 => ?_)
  refine pc_gd (fun c_3 => ?_)
  refine pc_gd (fun c_4 => ?_)
  refine pc_gd (fun c_5 => ?_)
  refine pc_bd (fun u6 e_6 => ?_)
  exact pc_some hZ
theorem k_fX12_isLatest_B65 (N : Nat) (g : Gs) (x0 : Nat) (x1 : Int32) (K65 : Int32 × Int32 × Ds → Option (Int32 × Ds)) (y2 : Int32) (y3 : Int32) (d : Ds) (hS : Shp g) (hZ : KL d) (hK65 : ∀ a, KL a.2.2 → pc (K65 a) (fun _ d1 => KL d1)) : pc (fX12_isLatest_B65 N g x0 x1 K65 y2 y3 d) (fun _ d1 => KL d1) := by
  unfold fX12_isLatest_B65
  refine pc_if (fun _ => ?_) (fun _ => ?_)
  · exact pc_some hZ
  · refine pc_gd (fun c_1 => ?_)
    refine pc_ob (fun r15 e_2 => ?_)
    refine pc_gd (fun c_3 => ?_)
    refine pc_gd (fun c_4 => ?_)
    refine pc_ob (fun r18 e_5 => ?_)
    refine pc_gd (fun c_6 => ?_)
    refine pc_gd (fun c_7 => ?_)
    refine pc_if (fun _ => ?_) (fun _ => ?_)
    · refine pc_bd (fun u22 e_8 => ?_)
      exact hK65 _ hZ
    · exact pc_some hZ
theorem k_fX12_isLatest_L65 (N : Nat) (g : Gs) (x0 : Nat) (x1 : Int32) (hS : Shp g) (a0 : Int32) (a1 : Int32) (a2 : Ds) (hZ : KL a2) : pc (fX12_isLatest_L65 N g x0 x1 (a0, a1, a2)) (fun _ d1 => KL d1) := by
  unfold fX12_isLatest_L65
  refine pc_lp (fun a => KL a.2.2) ?_ N (a0, a1, a2) hZ
  rintro K ⟨a0, a1, a2⟩ hZ hK
  exact k_fX12_isLatest_B65 N g x0 x1 K a0 a1 a2 hS hZ hK
theorem k_fX12_isLatest_J61 (N : Nat) (g : Gs) (x0 : Nat) (x1 : Int32) (d : Ds) (hS : Shp g) (hZ : KL d) : pc (fX12_isLatest_J61 N g x0 x1 d) (fun _ d1 => KL d1) := by
  unfold fX12_isLatest_J61
  exact pc_some hZ
theorem k_fX12_isLatest (N : Nat) (g : Gs) (x0 : Nat) (x1 : Int32) (d : Ds) (hS : Shp g) (hZ : KL d) : pc (fX12_isLatest N g x0 x1 d) (fun _ d1 => KL d1) := by
  unfold fX12_isLatest
  refine pc_gd (fun c_1 => ?_)
  refine pc_ob (fun r2 e_2 => ?_)
  refine pc_gd (fun c_3 => ?_)
  refine pc_gd (fun c_4 => ?_)
  refine pc_if (fun _ => ?_) (fun _ => ?_)
  · refine pc_if (fun _ => ?_) (fun _ => ?_)
    · refine pc_if (fun _ => ?_) (fun _ => ?_)
      · exact k_fX12_isLatest_J27 N g x0 x1 1 d hS hZ
      · exact k_fX12_isLatest_J26 N g x0 x1 d hS hZ
    · exact k_fX12_isLatest_J26 N g x0 x1 d hS hZ
  · refine pc_cb (k_fX12_reportAt N g x0 0 d hS hZ) (fun u8 d6 z_5 => ?_)
    refine pc_gd (fun c_6 => ?_)
    refine pc_if (fun _ => ?_) (fun _ => ?_)
    · refine pc_gd (fun c_7 => ?_)
      refine pc_if (fun _ => ?_) (fun _ => ?_)
      · exact k_fX12_isLatest_L65 N g x0 x1 hS u8 0 d6 z_5
      · exact k_fX12_isLatest_J61 N g x0 x1 d6 hS z_5
    · exact k_fX12_isLatest_J61 N g x0 x1 d6 hS z_5
theorem k_fX12_hears_J174 (N : Nat) (g : Gs) (x0 : Nat) (x1 : Int32) (d : Ds) (hS : Shp g) (hZ : KL d) : pc (fX12_hears_J174 N g x0 x1 d) (fun _ d1 => KL d1) := by
  unfold fX12_hears_J174
  exact pc_some hZ
theorem k_fX12_reportHas_B2 (N : Nat) (g : Gs) (x0 : Nat) (x1 : Int32) (x2 : Int32) (K2 : Int32 × Ds → Option (Int32 × Ds)) (y3 : Int32) (d : Ds) (hS : Shp g) (hZ : KL d) (hK2 : ∀ a, KL a.2 → pc (K2 a) (fun _ d1 => KL d1)) : pc (fX12_reportHas_B2 N g x0 x1 x2 K2 y3 d) (fun _ d1 => KL d1) := by
  unfold fX12_reportHas_B2
  refine pc_gd (fun c_1 => ?_)
  refine pc_ob (fun r2 e_2 => ?_)
  refine pc_gd (fun c_3 => ?_)
  refine pc_gd (fun c_4 => ?_)
  refine pc_if (fun _ => ?_) (fun _ => ?_)
  · exact pc_some hZ
  · refine pc_gd (fun c_5 => ?_)
    refine pc_if (fun _ => ?_) (fun _ => ?_)
    · exact pc_some hZ
    · refine pc_bd (fun u8 e_6 => ?_)
      exact hK2 _ hZ
theorem k_fX12_reportHas_L2 (N : Nat) (g : Gs) (x0 : Nat) (x1 : Int32) (x2 : Int32) (hS : Shp g) (a0 : Int32) (a1 : Ds) (hZ : KL a1) : pc (fX12_reportHas_L2 N g x0 x1 x2 (a0, a1)) (fun _ d1 => KL d1) := by
  unfold fX12_reportHas_L2
  refine pc_lp (fun a => KL a.2) ?_ N (a0, a1) hZ
  rintro K ⟨a0, a1⟩ hZ hK
  exact k_fX12_reportHas_B2 N g x0 x1 x2 K a0 a1 hS hZ hK
theorem k_fX12_reportHas (N : Nat) (g : Gs) (x0 : Nat) (x1 : Int32) (x2 : Int32) (d : Ds) (hS : Shp g) (hZ : KL d) : pc (fX12_reportHas N g x0 x1 x2 d) (fun _ d1 => KL d1) := by
  unfold fX12_reportHas
  exact k_fX12_reportHas_L2 N g x0 x1 x2 hS 0 d hZ
theorem k_fX12_hears_J73 (N : Nat) (g : Gs) (x0 : Nat) (x1 : Int32) (K4 : Int32 × Int32 × Ds → Option (Unit × Ds)) (y2 : Int32) (y3 : Int32) (d : Ds) (hS : Shp g) (hZ : KL d) (hK4 : ∀ a, KL a.2.2 → pc (K4 a) (fun _ d1 => KL d1)) : pc (fX12_hears_J73 N g x0 x1 K4 y2 y3 d) (fun _ d1 => KL d1) := by
  unfold fX12_hears_J73
  refine pc_bd (fun u28 e_1 => ?_)
  exact hK4 _ hZ
theorem k_fX12_hears_J55 (N : Nat) (g : Gs) (x0 : Nat) (x1 : Int32) (K4 : Int32 × Int32 × Ds → Option (Unit × Ds)) (y2 : Int32) (y3 : Int32) (z0 : Int32) (d : Ds) (hS : Shp g) (hZ : KL d) (hK4 : ∀ a, KL a.2.2 → pc (K4 a) (fun _ d1 => KL d1)) : pc (fX12_hears_J55 N g x0 x1 K4 y2 y3 z0 d) (fun _ d1 => KL d1) := by
  unfold fX12_hears_J55
  refine pc_if (fun _ => ?_) (fun _ => ?_)
  · refine pc_gd (fun c_1 => ?_)
    refine pc_ob (fun r30 e_2 => ?_)
    refine pc_gd (fun c_3 => ?_)
    refine pc_gd (fun c_4 => ?_)
    refine pc_bd (fun u33 e_5 => ?_)
    exact k_fX12_hears_J73 N g x0 x1 K4 u33 y3 d hS hZ hK4
  · exact k_fX12_hears_J73 N g x0 x1 K4 y2 y3 d hS hZ hK4
theorem k_fX12_hears_J54 (N : Nat) (g : Gs) (x0 : Nat) (x1 : Int32) (K4 : Int32 × Int32 × Ds → Option (Unit × Ds)) (y2 : Int32) (y3 : Int32) (d : Ds) (hS : Shp g) (hZ : KL d) (hK4 : ∀ a, KL a.2.2 → pc (K4 a) (fun _ d1 => KL d1)) : pc (fX12_hears_J54 N g x0 x1 K4 y2 y3 d) (fun _ d1 => KL d1) := by
  unfold fX12_hears_J54
  exact k_fX12_hears_J55 N g x0 x1 K4 y2 y3 0 d hS hZ hK4
theorem k_fX12_hears_B4 (N : Nat) (g : Gs) (x0 : Nat) (x1 : Int32) (K4 : Int32 × Int32 × Ds → Option (Unit × Ds)) (y2 : Int32) (y3 : Int32) (d : Ds) (hS : Shp g) (hZ : KL d) (hK4 : ∀ a, KL a.2.2 → pc (K4 a) (fun _ d1 => KL d1)) : pc (fX12_hears_B4 N g x0 x1 K4 y2 y3 d) (fun _ d1 => KL d1) := by
  unfold fX12_hears_B4
  refine pc_gd (fun c_1 => ?_)
  refine pc_ob (fun r2 e_2 => ?_)
  refine pc_gd (fun c_3 => ?_)
  refine pc_gd (fun c_4 => ?_)
  refine pc_if (fun _ => ?_) (fun _ => ?_)
  · refine pc_if (fun _ => ?_) (fun _ => ?_)
    · refine pc_gd (fun c_5 => ?_)
      refine pc_if (fun _ => ?_) (fun _ => ?_)
      · exact k_fX12_hears_J174 N g x0 x1 d hS hZ
      · refine pc_cb (k_fX12_reportHas N g x0 x1 (dI d r2 (455 : Int32).toNatClampNeg) d hS hZ) (fun u11 d9 z_6 => ?_)
        refine pc_if (fun _ => ?_) (fun _ => ?_)
        · refine pc_bd (fun d13 e_7 => ?_)
          have z_8 := KL.i z_6 e_7
          refine pc_gd (fun c_9 => ?_)
          refine pc_bd (fun d15 e_10 => ?_)
          have z_11 := KL.i z_8 e_10
          refine pc_gd (fun c_12 => ?_)
          refine pc_bd (fun d17 e_13 => ?_)
          have z_14 := KL.i z_11 e_13
          exact k_fX12_hears_J174 N g x0 x1 d17 hS z_14
        · exact k_fX12_hears_J174 N g x0 x1 d9 hS z_6
    · refine pc_gd (fun c_15 => ?_)
      refine pc_bd (fun d19 e_16 => ?_)
      have z_17 := KL.i hZ e_16
      refine pc_gd (fun c_18 => ?_)
      refine pc_gd (fun c_19 => ?_)
      refine pc_bd (fun d22 e_20 => ?_)
      have z_21 := KL.i z_17 e_20
      refine pc_gd (fun c_22 => ?_)
      refine pc_bd (fun d24 e_23 => ?_)
      have z_24 := KL.i z_21 e_23
      exact k_fX12_hears_J174 N g x0 x1 d24 hS z_24
  · refine pc_gd (fun c_25 => ?_)
    refine pc_if (fun _ => ?_) (fun _ => ?_)
    · exact k_fX12_hears_J54 N g x0 x1 K4 y2 y3 d hS hZ hK4
    · refine pc_cb (k_fX12_reportAt N g x0 1 d hS hZ) (fun u36 d34 z_26 => ?_)
      refine pc_gd (fun c_27 => ?_)
      refine pc_cb (k_fX12_reportHas N g x0 u36 (dI d34 r2 ((x1 + 3) + y3).toNatClampNeg) d34 hS z_26) (fun u40 d38 z_28 => ?_)
      refine pc_if (fun _ => ?_) (fun _ => ?_)
      · exact k_fX12_hears_J54 N g x0 x1 K4 y2 y3 d38 hS z_28 hK4
      · exact k_fX12_hears_J55 N g x0 x1 K4 y2 y3 1 d38 hS z_28 hK4
theorem k_fX12_hears_L4 (N : Nat) (g : Gs) (x0 : Nat) (x1 : Int32) (hS : Shp g) (a0 : Int32) (a1 : Int32) (a2 : Ds) (hZ : KL a2) : pc (fX12_hears_L4 N g x0 x1 (a0, a1, a2)) (fun _ d1 => KL d1) := by
  unfold fX12_hears_L4
  refine pc_lp (fun a => KL a.2.2) ?_ N (a0, a1, a2) hZ
  rintro K ⟨a0, a1, a2⟩ hZ hK
  exact k_fX12_hears_B4 N g x0 x1 K a0 a1 a2 hS hZ hK
theorem k_fX12_hears (N : Nat) (g : Gs) (x0 : Nat) (x1 : Int32) (d : Ds) (hS : Shp g) (hZ : KL d) : pc (fX12_hears N g x0 x1 d) (fun _ d1 => KL d1) := by
  unfold fX12_hears
  exact k_fX12_hears_L4 N g x0 x1 hS (-1) 0 d hZ
theorem k_fX12_reports_B97 (N : Nat) (g : Gs) (x0 : Nat) (K97 : Int32 × Int32 × Int32 × Ds → Option (Unit × Ds)) (y1 : Int32) (y2 : Int32) (y3 : Int32) (d : Ds) (hS : Shp g) (hZ : KL d) (hK97 : ∀ a, KL a.2.2.2 → pc (K97 a) (fun _ d1 => KL d1)) : pc (fX12_reports_B97 N g x0 K97 y1 y2 y3 d) (fun _ d1 => KL d1) := by
  unfold fX12_reports_B97
  refine pc_if (fun _ => ?_) (fun _ => ?_)
  · refine pc_gd (fun c_1 => ?_)
    refine pc_cv (k_fX12_hears N g x0 y2 d hS hZ) (fun d30 z_2 => ?_)
    exact pc_some z_2
  · refine pc_gd (fun c_3 => ?_)
    refine pc_ob (fun r33 e_4 => ?_)
    refine pc_ob (fun r34 e_5 => ?_)
    refine pc_gd (fun c_6 => ?_)
    refine pc_gd (fun c_7 => ?_)
    refine pc_gd (fun c_8 => ?_)
    refine pc_gd (fun c_9 => ?_)
    refine pc_bd (fun d39 e_10 => ?_)
    have z_11 := KL.i hZ e_10
    refine pc_bd (fun u40 e_12 => ?_)
    exact hK97 _ z_11
theorem k_fX12_reports_L97 (N : Nat) (g : Gs) (x0 : Nat) (hS : Shp g) (a0 : Int32) (a1 : Int32) (a2 : Int32) (a3 : Ds) (hZ : KL a3) : pc (fX12_reports_L97 N g x0 (a0, a1, a2, a3)) (fun _ d1 => KL d1) := by
  unfold fX12_reports_L97
  refine pc_lp (fun a => KL a.2.2.2) ?_ N (a0, a1, a2, a3) hZ
  rintro K ⟨a0, a1, a2, a3⟩ hZ hK
  exact k_fX12_reports_B97 N g x0 K a0 a1 a2 a3 hS hZ hK
theorem k_fX12_reports_J32 (N : Nat) (g : Gs) (x0 : Nat) (z0 : Int32) (d : Ds) (hS : Shp g) (hZ : KL d) : pc (fX12_reports_J32 N g x0 z0 d) (fun _ d1 => KL d1) := by
  unfold fX12_reports_J32
  refine pc_gd (fun c_1 => ?_)
  refine pc_cb (k_fX12_isLatest N g x0 z0 d hS hZ) (fun u12 d10 z_2 => ?_)
  refine pc_if (fun _ => ?_) (fun _ => ?_)
  · refine pc_ob (fun r14 e_3 => ?_)
    refine pc_gd (fun c_4 => ?_)
    refine pc_gd (fun c_5 => ?_)
    refine pc_bd (fun d17 e_6 => ?_)
    have z_7 := KL.i z_2 e_6
    refine pc_cb (k_fX12_reportAt N g x0 0 d17 hS z_7) (fun u20 d18 z_8 => ?_)
    refine pc_gd (fun c_9 => ?_)
    refine pc_gd (fun c_10 => ?_)
    refine pc_bd (fun d23 e_11 => ?_)
    have z_12 := KL.i z_8 e_11
    refine pc_gd (fun c_13 => ?_)
    refine pc_bd (fun d25 e_14 => ?_)
    have z_15 := KL.i z_12 e_14
    refine pc_gd (fun c_16 => ?_)
    refine pc_bd (fun d27 e_17 => ?_)
    have z_18 := KL.i z_15 e_17
    exact k_fX12_reports_L97 N g x0 hS z0 u20 0 d27 z_18
  · exact pc_some z_2
theorem k_fX12_reports_J28 (N : Nat) (g : Gs) (x0 : Nat) (d : Ds) (hS : Shp g) (hZ : KL d) : pc (fX12_reports_J28 N g x0 d) (fun _ d1 => KL d1) := by
  unfold fX12_reports_J28
  refine pc_gd (fun c_1 => ?_)
  exact k_fX12_reports_J32 N g x0 (dI d x0 26) d hS hZ
theorem k_fX12_reports (N : Nat) (g : Gs) (x0 : Nat) (d : Ds) (hS : Shp g) (hZ : KL d) : pc (fX12_reports N g x0 d) (fun _ d1 => KL d1) := by
  unfold fX12_reports
  refine pc_gd (fun c_1 => ?_)
  refine pc_cv (k_fX12_laysSent N g x0 d hS hZ) (fun d2 z_2 => ?_)
  refine pc_ob (fun r4 e_3 => ?_)
  refine pc_gd (fun c_4 => ?_)
  refine pc_gd (fun c_5 => ?_)
  refine pc_if (fun _ => ?_) (fun _ => ?_)
  · refine pc_if (fun _ => ?_) (fun _ => ?_)
    · exact k_fX12_reports_J28 N g x0 d2 hS z_2
    · exact k_fX12_reports_J32 N g x0 (-2) d2 hS z_2
  · exact k_fX12_reports_J28 N g x0 d2 hS z_2
theorem k_fX12_timeAt (N : Nat) (g : Gs) (x0 : Nat) (x1 : Int32) (d : Ds) (hS : Shp g) (hZ : KL d) : pc (fX12_timeAt N g x0 x1 d) (fun _ d1 => KL d1) := by
  unfold fX12_timeAt
  refine pc_gd (fun c_1 => ?_)
  refine pc_ob (fun r2 e_2 => ?_)
  refine pc_gd (fun c_3 => ?_)
  refine pc_gd (fun c_4 => ?_)
  exact pc_some hZ
theorem k_fX12_activeLayers_J54 (N : Nat) (g : Gs) (x0 : Nat) (K13 : Int32 × Int32 × Ds → Option (Int32 × Ds)) (y1 : Int32) (y2 : Int32) (d : Ds) (hS : Shp g) (hZ : KL d) (hK13 : ∀ a, KL a.2.2 → pc (K13 a) (fun _ d1 => KL d1)) : pc (fX12_activeLayers_J54 N g x0 K13 y1 y2 d) (fun _ d1 => KL d1) := by
  unfold fX12_activeLayers_J54
  refine pc_bd (fun u12 e_1 => ?_)
  exact hK13 _ hZ
theorem k_fX12_activeLayers_B13 (N : Nat) (g : Gs) (x0 : Nat) (K13 : Int32 × Int32 × Ds → Option (Int32 × Ds)) (y1 : Int32) (y2 : Int32) (d : Ds) (hS : Shp g) (hZ : KL d) (hK13 : ∀ a, KL a.2.2 → pc (K13 a) (fun _ d1 => KL d1)) : pc (fX12_activeLayers_B13 N g x0 K13 y1 y2 d) (fun _ d1 => KL d1) := by
  unfold fX12_activeLayers_B13
  refine pc_if (fun _ => ?_) (fun _ => ?_)
  · exact pc_some hZ
  · refine pc_gd (fun c_1 => ?_)
    refine pc_ob (fun r8 e_2 => ?_)
    refine pc_gd (fun c_3 => ?_)
    refine pc_gd (fun c_4 => ?_)
    refine pc_if (fun _ => ?_) (fun _ => ?_)
    · refine pc_gd (fun c_5 => ?_)
      refine pc_bd (fun u14 e_6 => ?_)
      refine pc_bd (fun u15 e_7 => ?_)
      exact k_fX12_activeLayers_J54 N g x0 K13 u15 y2 d hS hZ hK13
    · exact k_fX12_activeLayers_J54 N g x0 K13 y1 y2 d hS hZ hK13
theorem k_fX12_activeLayers_L13 (N : Nat) (g : Gs) (x0 : Nat) (hS : Shp g) (a0 : Int32) (a1 : Int32) (a2 : Ds) (hZ : KL a2) : pc (fX12_activeLayers_L13 N g x0 (a0, a1, a2)) (fun _ d1 => KL d1) := by
  unfold fX12_activeLayers_L13
  refine pc_lp (fun a => KL a.2.2) ?_ N (a0, a1, a2) hZ
  rintro K ⟨a0, a1, a2⟩ hZ hK
  exact k_fX12_activeLayers_B13 N g x0 K a0 a1 a2 hS hZ hK
theorem k_fX12_activeLayers (N : Nat) (g : Gs) (x0 : Nat) (d : Ds) (hS : Shp g) (hZ : KL d) : pc (fX12_activeLayers N g x0 d) (fun _ d1 => KL d1) := by
  unfold fX12_activeLayers
  refine pc_gd (fun c_1 => ?_)
  refine pc_ob (fun r2 e_2 => ?_)
  refine pc_gd (fun c_3 => ?_)
  refine pc_gd (fun c_4 => ?_)
  refine pc_bd (fun u5 e_5 => ?_)
  exact k_fX12_activeLayers_L13 N g x0 hS u5 0 d hZ
theorem k_fX12_layerOf_J41 (N : Nat) (g : Gs) (x0 : Nat) (x1 : Int32) (K7 : Int32 × Int32 × Ds → Option (Int32 × Ds)) (y2 : Int32) (y3 : Int32) (d : Ds) (hS : Shp g) (hZ : KL d) (hK7 : ∀ a, KL a.2.2 → pc (K7 a) (fun _ d1 => KL d1)) : pc (fX12_layerOf_J41 N g x0 x1 K7 y2 y3 d) (fun _ d1 => KL d1) := by
  unfold fX12_layerOf_J41
  refine pc_bd (fun u10 e_1 => ?_)
  exact hK7 _ hZ
theorem k_fX12_layerOf_B7 (N : Nat) (g : Gs) (x0 : Nat) (x1 : Int32) (K7 : Int32 × Int32 × Ds → Option (Int32 × Ds)) (y2 : Int32) (y3 : Int32) (d : Ds) (hS : Shp g) (hZ : KL d) (hK7 : ∀ a, KL a.2.2 → pc (K7 a) (fun _ d1 => KL d1)) : pc (fX12_layerOf_B7 N g x0 x1 K7 y2 y3 d) (fun _ d1 => KL d1) := by
  unfold fX12_layerOf_B7
  refine pc_if (fun _ => ?_) (fun _ => ?_)
  · exact pc_some hZ
  · refine pc_cb (k_fX12_has N g y2 y3 d hS hZ) (fun u8 d6 z_1 => ?_)
    refine pc_if (fun _ => ?_) (fun _ => ?_)
    · exact k_fX12_layerOf_J41 N g x0 x1 K7 y2 y3 d6 hS z_1 hK7
    · refine pc_gd (fun c_2 => ?_)
      refine pc_ob (fun r12 e_3 => ?_)
      refine pc_gd (fun c_4 => ?_)
      refine pc_gd (fun c_5 => ?_)
      refine pc_if (fun _ => ?_) (fun _ => ?_)
      · exact k_fX12_layerOf_J41 N g x0 x1 K7 y2 y3 d6 hS z_1 hK7
      · exact pc_some z_1
theorem k_fX12_layerOf_L7 (N : Nat) (g : Gs) (x0 : Nat) (x1 : Int32) (hS : Shp g) (a0 : Int32) (a1 : Int32) (a2 : Ds) (hZ : KL a2) : pc (fX12_layerOf_L7 N g x0 x1 (a0, a1, a2)) (fun _ d1 => KL d1) := by
  unfold fX12_layerOf_L7
  refine pc_lp (fun a => KL a.2.2) ?_ N (a0, a1, a2) hZ
  rintro K ⟨a0, a1, a2⟩ hZ hK
  exact k_fX12_layerOf_B7 N g x0 x1 K a0 a1 a2 hS hZ hK
theorem k_fX12_layerOf (N : Nat) (g : Gs) (x0 : Nat) (x1 : Int32) (d : Ds) (hS : Shp g) (hZ : KL d) : pc (fX12_layerOf N g x0 x1 d) (fun _ d1 => KL d1) := by
  unfold fX12_layerOf
  refine pc_gd (fun c_1 => ?_)
  refine pc_cb (k_fX12_activeLayers N g x0 d hS hZ) (fun u4 d2 z_2 => ?_)
  exact k_fX12_layerOf_L7 N g x0 x1 hS u4 3 d2 z_2
theorem k_fX12_heldOrTapped_J112 (N : Nat) (g : Gs) (x0 : Nat) (x1 : Int32) (x2 : Int32) (z0 : Int32) (d : Ds) (hS : Shp g) (hZ : KL d) : pc (fX12_heldOrTapped_J112 N g x0 x1 x2 z0 d) (fun _ d1 => KL d1) := by
  unfold fX12_heldOrTapped_J112
  exact pc_some hZ
theorem k_fX12_heldOrTapped_J89 (N : Nat) (g : Gs) (x0 : Nat) (x1 : Int32) (x2 : Int32) (K15 : Int32 × Int32 × Int32 × Ds → Option (Int32 × Ds)) (y3 : Int32) (y4 : Int32) (y5 : Int32) (d : Ds) (hS : Shp g) (hZ : KL d) (hK15 : ∀ a, KL a.2.2.2 → pc (K15 a) (fun _ d1 => KL d1)) : pc (fX12_heldOrTapped_J89 N g x0 x1 x2 K15 y3 y4 y5 d) (fun _ d1 => KL d1) := by
  unfold fX12_heldOrTapped_J89
  refine pc_bd (fun u29 e_1 => ?_)
  exact hK15 _ hZ
theorem k_fX12_heldOrTapped_B15 (N : Nat) (g : Gs) (x0 : Nat) (x1 : Int32) (x2 : Int32) (K15 : Int32 × Int32 × Int32 × Ds → Option (Int32 × Ds)) (y3 : Int32) (y4 : Int32) (y5 : Int32) (d : Ds) (hS : Shp g) (hZ : KL d) (hK15 : ∀ a, KL a.2.2.2 → pc (K15 a) (fun _ d1 => KL d1)) : pc (fX12_heldOrTapped_B15 N g x0 x1 x2 K15 y3 y4 y5 d) (fun _ d1 => KL d1) := by
  unfold fX12_heldOrTapped_B15
  refine pc_gd (fun c_1 => ?_)
  refine pc_ob (fun r7 e_2 => ?_)
  refine pc_gd (fun c_3 => ?_)
  refine pc_gd (fun c_4 => ?_)
  refine pc_if (fun _ => ?_) (fun _ => ?_)
  · refine pc_gd (fun c_5 => ?_)
    refine pc_if (fun _ => ?_) (fun _ => ?_)
    · exact k_fX12_heldOrTapped_J112 N g x0 x1 x2 (-1) d hS hZ
    · exact k_fX12_heldOrTapped_J112 N g x0 x1 x2 1 d hS hZ
  · refine pc_cb (k_fX12_timeAt N g x0 y5 d hS hZ) (fun u15 d13 z_6 => ?_)
    refine pc_if (fun _ => ?_) (fun _ => ?_)
    · refine pc_cb (k_fX12_keyAt N g x0 y5 d13 hS z_6) (fun u19 d17 z_7 => ?_)
      refine pc_cb (k_fX12_isDownAt N g x0 y5 d17 hS z_7) (fun u22 d20 z_8 => ?_)
      refine pc_if (fun _ => ?_) (fun _ => ?_)
      · refine pc_if (fun _ => ?_) (fun _ => ?_)
        · exact pc_some z_8
        · refine pc_cb (k_fX12_has N g y4 u19 d20 hS z_8) (fun u27 d25 z_9 => ?_)
          refine pc_if (fun _ => ?_) (fun _ => ?_)
          · exact k_fX12_heldOrTapped_J89 N g x0 x1 x2 K15 y3 y4 y5 d25 hS z_9 hK15
          · exact pc_some z_9
      · refine pc_bd (fun u30 e_10 => ?_)
        exact k_fX12_heldOrTapped_J89 N g x0 x1 x2 K15 y3 u30 y5 d20 hS z_8 hK15
    · exact pc_some z_6
theorem k_fX12_heldOrTapped_L15 (N : Nat) (g : Gs) (x0 : Nat) (x1 : Int32) (x2 : Int32) (hS : Shp g) (a0 : Int32) (a1 : Int32) (a2 : Int32) (a3 : Ds) (hZ : KL a3) : pc (fX12_heldOrTapped_L15 N g x0 x1 x2 (a0, a1, a2, a3)) (fun _ d1 => KL d1) := by
  unfold fX12_heldOrTapped_L15
  refine pc_lp (fun a => KL a.2.2.2) ?_ N (a0, a1, a2, a3) hZ
  rintro K ⟨a0, a1, a2, a3⟩ hZ hK
  exact k_fX12_heldOrTapped_B15 N g x0 x1 x2 K a0 a1 a2 a3 hS hZ hK
theorem k_fX12_heldOrTapped (N : Nat) (g : Gs) (x0 : Nat) (x1 : Int32) (x2 : Int32) (d : Ds) (hS : Shp g) (hZ : KL d) : pc (fX12_heldOrTapped N g x0 x1 x2 d) (fun _ d1 => KL d1) := by
  unfold fX12_heldOrTapped
  refine pc_gd (fun c_1 => ?_)
  refine pc_ob (fun r2 e_2 => ?_)
  refine pc_gd (fun c_3 => ?_)
  refine pc_gd (fun c_4 => ?_)
  refine pc_bd (fun u5 e_5 => ?_)
  exact k_fX12_heldOrTapped_L15 N g x0 x1 x2 hS u5 0 1 d hZ
theorem k_fX12_begin (N : Nat) (g : Gs) (x0 : Nat) (x1 : Int32) (x2 : Int32) (x3 : Int32) (d : Ds) (hS : Shp g) (hZ : KL d) : pc (fX12_begin N g x0 x1 x2 x3 d) (fun _ d1 => KL d1) := by
  unfold fX12_begin
  refine pc_gd (fun c_1 => ?_)
  refine pc_ob (fun r2 e_2 => ?_)
  refine pc_gd (fun c_3 => ?_)
  refine pc_gd (fun c_4 => ?_)
  refine pc_bd (fun d5 e_5 => ?_)
  have z_6 := KL.i hZ e_5
  refine pc_gd (fun c_7 => ?_)
  refine pc_bd (fun d7 e_8 => ?_)
  have z_9 := KL.i z_6 e_8
  refine pc_gd (fun c_10 => ?_)
  refine pc_gd (fun c_11 => ?_)
  refine pc_bd (fun d10 e_12 => ?_)
  have z_13 := KL.i z_9 e_12
  refine pc_bd (fun d11 e_14 => ?_)
  have z_15 := KL.i z_13 e_14
  exact pc_some z_15
theorem k_fX12_worksAlone_J190 (N : Nat) (g : Gs) (x0 : Nat) (x1 : Int32) (x2 : Int32) (d : Ds) (hS : Shp g) (hZ : KL d) : pc (fX12_worksAlone_J190 N g x0 x1 x2 d) (fun _ d1 => KL d1) := by
  unfold fX12_worksAlone_J190
  refine pc_gd (fun c_1 => ?_)
  refine pc_cv (k_fX12_reports N g x0 d hS hZ) (fun d28 z_2 => ?_)
  exact pc_some z_2
theorem k_fX12_worksAlone_J113 (N : Nat) (g : Gs) (x0 : Nat) (x1 : Int32) (x2 : Int32) (d : Ds) (hS : Shp g) (hZ : KL d) : pc (fX12_worksAlone_J113 N g x0 x1 x2 d) (fun _ d1 => KL d1) := by
  unfold fX12_worksAlone_J113
  exact k_fX12_worksAlone_J190 N g x0 x1 x2 d hS hZ
theorem k_fX12_worksAlone_J108 (N : Nat) (g : Gs) (x0 : Nat) (x1 : Int32) (x2 : Int32) (y6 : Int32) (z0 : Int32) (z1 : Int32) (z2 : Nat) (d : Ds) (hS : Shp g) (hZ : KL d) : pc (fX12_worksAlone_J108 N g x0 x1 x2 y6 z0 z1 z2 d) (fun _ d1 => KL d1) := by
  unfold fX12_worksAlone_J108
  refine pc_gd (fun c_1 => ?_)
  refine pc_cv (k_fX12_begin N g z2 z1 z0 y6 d hS hZ) (fun d25 z_2 => ?_)
  exact k_fX12_worksAlone_J113 N g x0 x1 x2 d25 hS z_2
theorem k_fX12_worksAlone_J58 (N : Nat) (g : Gs) (x0 : Nat) (x1 : Int32) (x2 : Int32) (y4 : Int32) (y5 : Int32) (y6 : Int32) (d : Ds) (hS : Shp g) (hZ : KL d) : pc (fX12_worksAlone_J58 N g x0 x1 x2 y4 y5 y6 d) (fun _ d1 => KL d1) := by
  unfold fX12_worksAlone_J58
  refine pc_gd (fun c_1 => ?_)
  refine pc_cb (k_fX12_heldOrTapped N g x0 x1 x2 d hS hZ) (fun u18 d16 z_2 => ?_)
  refine pc_if (fun _ => ?_) (fun _ => ?_)
  · refine pc_cv (k_fX12_drops N g x0 0 d16 hS z_2) (fun d20 z_3 => ?_)
    refine pc_if (fun _ => ?_) (fun _ => ?_)
    · refine pc_cv (k_fX12_begin N g x0 x1 0 y5 d20 hS z_3) (fun d30 z_4 => ?_)
      exact k_fX12_worksAlone_J113 N g x0 x1 x2 d30 hS z_4
    · refine pc_if (fun _ => ?_) (fun _ => ?_)
      · exact k_fX12_worksAlone_J108 N g x0 x1 x2 y6 2 x1 x0 d20 hS z_3
      · exact k_fX12_worksAlone_J108 N g x0 x1 x2 y6 1 x1 x0 d20 hS z_3
  · exact pc_some z_2
theorem k_fX12_onceOrTwice_J86 (N : Nat) (g : Gs) (x0 : Nat) (x1 : Int32) (x2 : Int32) (z0 : Int32) (d : Ds) (hS : Shp g) (hZ : KL d) : pc (fX12_onceOrTwice_J86 N g x0 x1 x2 z0 d) (fun _ d1 => KL d1) := by
  unfold fX12_onceOrTwice_J86
  exact pc_some hZ
theorem k_fX12_onceOrTwice_J62 (N : Nat) (g : Gs) (x0 : Nat) (x1 : Int32) (x2 : Int32) (z0 : Int32) (d : Ds) (hS : Shp g) (hZ : KL d) : pc (fX12_onceOrTwice_J62 N g x0 x1 x2 z0 d) (fun _ d1 => KL d1) := by
  unfold fX12_onceOrTwice_J62
  exact pc_some hZ
theorem k_fX12_onceOrTwice_B13 (N : Nat) (g : Gs) (x0 : Nat) (x1 : Int32) (x2 : Int32) (K13 : Int32 × Int32 × Ds → Option (Int32 × Ds)) (y3 : Int32) (y4 : Int32) (d : Ds) (hS : Shp g) (hZ : KL d) (hK13 : ∀ a, KL a.2.2 → pc (K13 a) (fun _ d1 => KL d1)) : pc (fX12_onceOrTwice_B13 N g x0 x1 x2 K13 y3 y4 d) (fun _ d1 => KL d1) := by
  unfold fX12_onceOrTwice_B13
  refine pc_gd (fun c_1 => ?_)
  refine pc_ob (fun r7 e_2 => ?_)
  refine pc_gd (fun c_3 => ?_)
  refine pc_gd (fun c_4 => ?_)
  refine pc_if (fun _ => ?_) (fun _ => ?_)
  · refine pc_gd (fun c_5 => ?_)
    refine pc_if (fun _ => ?_) (fun _ => ?_)
    · exact k_fX12_onceOrTwice_J86 N g x0 x1 x2 (-1) d hS hZ
    · exact k_fX12_onceOrTwice_J86 N g x0 x1 x2 0 d hS hZ
  · refine pc_cb (k_fX12_timeAt N g x0 y4 d hS hZ) (fun u15 d13 z_6 => ?_)
    refine pc_if (fun _ => ?_) (fun _ => ?_)
    · refine pc_cb (k_fX12_isDownAt N g x0 y4 d13 hS z_6) (fun u19 d17 z_7 => ?_)
      refine pc_if (fun _ => ?_) (fun _ => ?_)
      · refine pc_bd (fun u21 e_8 => ?_)
        exact hK13 _ z_7
      · refine pc_cb (k_fX12_keyAt N g x0 y4 d17 hS z_7) (fun u24 d22 z_9 => ?_)
        refine pc_if (fun _ => ?_) (fun _ => ?_)
        · exact k_fX12_onceOrTwice_J62 N g x0 x1 x2 1 d22 hS z_9
        · exact k_fX12_onceOrTwice_J62 N g x0 x1 x2 0 d22 hS z_9
    · exact pc_some z_6
theorem k_fX12_onceOrTwice_L13 (N : Nat) (g : Gs) (x0 : Nat) (x1 : Int32) (x2 : Int32) (hS : Shp g) (a0 : Int32) (a1 : Int32) (a2 : Ds) (hZ : KL a2) : pc (fX12_onceOrTwice_L13 N g x0 x1 x2 (a0, a1, a2)) (fun _ d1 => KL d1) := by
  unfold fX12_onceOrTwice_L13
  refine pc_lp (fun a => KL a.2.2) ?_ N (a0, a1, a2) hZ
  rintro K ⟨a0, a1, a2⟩ hZ hK
  exact k_fX12_onceOrTwice_B13 N g x0 x1 x2 K a0 a1 a2 hS hZ hK
theorem k_fX12_onceOrTwice (N : Nat) (g : Gs) (x0 : Nat) (x1 : Int32) (x2 : Int32) (d : Ds) (hS : Shp g) (hZ : KL d) : pc (fX12_onceOrTwice N g x0 x1 x2 d) (fun _ d1 => KL d1) := by
  unfold fX12_onceOrTwice
  refine pc_gd (fun c_1 => ?_)
  refine pc_ob (fun r2 e_2 => ?_)
  refine pc_gd (fun c_3 => ?_)
  refine pc_gd (fun c_4 => ?_)
  refine pc_bd (fun u5 e_5 => ?_)
  exact k_fX12_onceOrTwice_L13 N g x0 x1 x2 hS u5 1 d hZ
theorem k_fX12_dropsTwo_J47 (N : Nat) (g : Gs) (x0 : Nat) (x1 : Int32) (K30 : Int32 × Ds → Option (Unit × Ds)) (y2 : Int32) (d : Ds) (hS : Shp g) (hZ : KL d) (hK30 : ∀ a, KL a.2 → pc (K30 a) (fun _ d1 => KL d1)) : pc (fX12_dropsTwo_J47 N g x0 x1 K30 y2 d) (fun _ d1 => KL d1) := by
  unfold fX12_dropsTwo_J47
  refine pc_bd (fun u18 e_1 => ?_)
  exact hK30 _ hZ
theorem k_fX12_dropsTwo_B30 (N : Nat) (g : Gs) (x0 : Nat) (x1 : Int32) (K30 : Int32 × Ds → Option (Unit × Ds)) (y2 : Int32) (d : Ds) (hS : Shp g) (hZ : KL d) (hK30 : ∀ a, KL a.2 → pc (K30 a) (fun _ d1 => KL d1)) : pc (fX12_dropsTwo_B30 N g x0 x1 K30 y2 d) (fun _ d1 => KL d1) := by
  unfold fX12_dropsTwo_B30
  refine pc_gd (fun c_1 => ?_)
  refine pc_cb (k_fX12_keyAt N g x0 y2 d hS hZ) (fun u16 d14 z_2 => ?_)
  refine pc_if (fun _ => ?_) (fun _ => ?_)
  · refine pc_cb (k_fX12_isDownAt N g x0 y2 d14 hS z_2) (fun u21 d19 z_3 => ?_)
    refine pc_if (fun _ => ?_) (fun _ => ?_)
    · exact k_fX12_dropsTwo_J47 N g x0 x1 K30 y2 d19 hS z_3 hK30
    · refine pc_cv (k_fX12_drops N g x0 y2 d19 hS z_3) (fun d23 z_4 => ?_)
      exact pc_some z_4
  · exact k_fX12_dropsTwo_J47 N g x0 x1 K30 y2 d14 hS z_2 hK30
theorem k_fX12_dropsTwo_L30 (N : Nat) (g : Gs) (x0 : Nat) (x1 : Int32) (hS : Shp g) (a0 : Int32) (a1 : Ds) (hZ : KL a1) : pc (fX12_dropsTwo_L30 N g x0 x1 (a0, a1)) (fun _ d1 => KL d1) := by
  unfold fX12_dropsTwo_L30
  refine pc_lp (fun a => KL a.2) ?_ N (a0, a1) hZ
  rintro K ⟨a0, a1⟩ hZ hK
  exact k_fX12_dropsTwo_B30 N g x0 x1 K a0 a1 hS hZ hK
theorem k_fX12_dropsTwo_J19 (N : Nat) (g : Gs) (x0 : Nat) (x1 : Int32) (K2 : Int32 × Ds → Option (Unit × Ds)) (y2 : Int32) (d : Ds) (hS : Shp g) (hZ : KL d) (hK2 : ∀ a, KL a.2 → pc (K2 a) (fun _ d1 => KL d1)) : pc (fX12_dropsTwo_J19 N g x0 x1 K2 y2 d) (fun _ d1 => KL d1) := by
  unfold fX12_dropsTwo_J19
  refine pc_bd (fun u6 e_1 => ?_)
  exact hK2 _ hZ
theorem k_fX12_dropsTwo_B2 (N : Nat) (g : Gs) (x0 : Nat) (x1 : Int32) (K2 : Int32 × Ds → Option (Unit × Ds)) (y2 : Int32) (d : Ds) (hS : Shp g) (hZ : KL d) (hK2 : ∀ a, KL a.2 → pc (K2 a) (fun _ d1 => KL d1)) : pc (fX12_dropsTwo_B2 N g x0 x1 K2 y2 d) (fun _ d1 => KL d1) := by
  unfold fX12_dropsTwo_B2
  refine pc_gd (fun c_1 => ?_)
  refine pc_cb (k_fX12_keyAt N g x0 y2 d hS hZ) (fun u4 d2 z_2 => ?_)
  refine pc_if (fun _ => ?_) (fun _ => ?_)
  · refine pc_cb (k_fX12_isDownAt N g x0 y2 d2 hS z_2) (fun u9 d7 z_3 => ?_)
    refine pc_if (fun _ => ?_) (fun _ => ?_)
    · refine pc_cv (k_fX12_drops N g x0 y2 d7 hS z_3) (fun d11 z_4 => ?_)
      exact k_fX12_dropsTwo_L30 N g x0 x1 hS y2 d11 z_4
    · exact k_fX12_dropsTwo_J19 N g x0 x1 K2 y2 d7 hS z_3 hK2
  · exact k_fX12_dropsTwo_J19 N g x0 x1 K2 y2 d2 hS z_2 hK2
theorem k_fX12_dropsTwo_L2 (N : Nat) (g : Gs) (x0 : Nat) (x1 : Int32) (hS : Shp g) (a0 : Int32) (a1 : Ds) (hZ : KL a1) : pc (fX12_dropsTwo_L2 N g x0 x1 (a0, a1)) (fun _ d1 => KL d1) := by
  unfold fX12_dropsTwo_L2
  refine pc_lp (fun a => KL a.2) ?_ N (a0, a1) hZ
  rintro K ⟨a0, a1⟩ hZ hK
  exact k_fX12_dropsTwo_B2 N g x0 x1 K a0 a1 hS hZ hK
theorem k_fX12_dropsTwo (N : Nat) (g : Gs) (x0 : Nat) (x1 : Int32) (d : Ds) (hS : Shp g) (hZ : KL d) : pc (fX12_dropsTwo N g x0 x1 d) (fun _ d1 => KL d1) := by
  unfold fX12_dropsTwo
  exact k_fX12_dropsTwo_L2 N g x0 x1 hS 0 d hZ
theorem k_fX12_worksAlone_J170 (N : Nat) (g : Gs) (x0 : Nat) (x1 : Int32) (x2 : Int32) (z0 : Int32) (z1 : Int32) (z2 : Int32) (z3 : Nat) (d : Ds) (hS : Shp g) (hZ : KL d) : pc (fX12_worksAlone_J170 N g x0 x1 x2 z0 z1 z2 z3 d) (fun _ d1 => KL d1) := by
  unfold fX12_worksAlone_J170
  refine pc_gd (fun c_1 => ?_)
  refine pc_cv (k_fX12_begin N g z3 z2 z1 z0 d hS hZ) (fun d47 z_2 => ?_)
  exact k_fX12_worksAlone_J190 N g x0 x1 x2 d47 hS z_2
theorem k_fX12_worksAlone_J154 (N : Nat) (g : Gs) (x0 : Nat) (x1 : Int32) (x2 : Int32) (y5 : Int32) (y6 : Int32) (y7 : Int32) (d : Ds) (hS : Shp g) (hZ : KL d) : pc (fX12_worksAlone_J154 N g x0 x1 x2 y5 y6 y7 d) (fun _ d1 => KL d1) := by
  unfold fX12_worksAlone_J154
  refine pc_if (fun _ => ?_) (fun _ => ?_)
  · exact k_fX12_worksAlone_J170 N g x0 x1 x2 y6 0 x1 x0 d hS hZ
  · exact k_fX12_worksAlone_J170 N g x0 x1 x2 y5 0 x1 x0 d hS hZ
theorem k_fX12_plays_B23 (N : Nat) (g : Gs) (x0 : Nat) (x1 : Int32) (K23 : Int32 × Int32 × Ds → Option (Unit × Ds)) (y2 : Int32) (y3 : Int32) (d : Ds) (hS : Shp g) (hZ : KL d) (hK23 : ∀ a, KL a.2.2 → pc (K23 a) (fun _ d1 => KL d1)) : pc (fX12_plays_B23 N g x0 x1 K23 y2 y3 d) (fun _ d1 => KL d1) := by
  unfold fX12_plays_B23
  refine pc_gd (fun c_1 => ?_)
  refine pc_ob (fun r8 e_2 => ?_)
  refine pc_gd (fun c_3 => ?_)
  refine pc_gd (fun c_4 => ?_)
  refine pc_if (fun _ => ?_) (fun _ => ?_)
  · exact pc_some hZ
  · refine pc_gd (fun c_5 => ?_)
    refine pc_gd (fun c_6 => ?_)
    refine pc_bd (fun d14 e_7 => ?_)
    have z_8 := KL.i hZ e_7
    refine pc_cv (k_fX12_reports N g x0 d14 hS z_8) (fun d15 z_9 => ?_)
    refine pc_bd (fun d17 e_10 => ?_)
    have z_11 := KL.i z_9 e_10
    refine pc_cv (k_fX12_reports N g x0 d17 hS z_11) (fun d18 z_12 => ?_)
    refine pc_bd (fun u20 e_13 => ?_)
    exact hK23 _ z_12
theorem k_fX12_plays_L23 (N : Nat) (g : Gs) (x0 : Nat) (x1 : Int32) (hS : Shp g) (a0 : Int32) (a1 : Int32) (a2 : Ds) (hZ : KL a2) : pc (fX12_plays_L23 N g x0 x1 (a0, a1, a2)) (fun _ d1 => KL d1) := by
  unfold fX12_plays_L23
  refine pc_lp (fun a => KL a.2.2) ?_ N (a0, a1, a2) hZ
  rintro K ⟨a0, a1, a2⟩ hZ hK
  exact k_fX12_plays_B23 N g x0 x1 K a0 a1 a2 hS hZ hK
theorem k_fX12_plays (N : Nat) (g : Gs) (x0 : Nat) (x1 : Int32) (d : Ds) (hS : Shp g) (hZ : KL d) : pc (fX12_plays N g x0 x1 d) (fun _ d1 => KL d1) := by
  unfold fX12_plays
  refine pc_gd (fun c_1 => ?_)
  refine pc_ob (fun r2 e_2 => ?_)
  refine pc_gd (fun c_3 => ?_)
  refine pc_gd (fun c_4 => ?_)
  refine pc_if (fun _ => ?_) (fun _ => ?_)
  · refine pc_bd (fun u6 e_5 => ?_)
    exact k_fX12_plays_L23 N g x0 x1 hS u6 1 d hZ
  · exact pc_some hZ
theorem k_fX12_doesPlainly_J42 (N : Nat) (g : Gs) (x0 : Nat) (x1 : Int32) (x2 : Int32) (x3 : Int32) (d : Ds) (hS : Shp g) (hZ : KL d) : pc (fX12_doesPlainly_J42 N g x0 x1 x2 x3 d) (fun _ d1 => KL d1) := by
  unfold fX12_doesPlainly_J42
  exact pc_some hZ
theorem k_fX12_doesPlainly_J31 (N : Nat) (g : Gs) (x0 : Nat) (x1 : Int32) (x2 : Int32) (x3 : Int32) (d : Ds) (hS : Shp g) (hZ : KL d) : pc (fX12_doesPlainly_J31 N g x0 x1 x2 x3 d) (fun _ d1 => KL d1) := by
  unfold fX12_doesPlainly_J31
  refine pc_if (fun _ => ?_) (fun _ => ?_)
  · refine pc_gd (fun c_1 => ?_)
    refine pc_cv (k_fX12_plays N g x0 x3 d hS hZ) (fun d5 z_2 => ?_)
    exact k_fX12_doesPlainly_J42 N g x0 x1 x2 x3 d5 hS z_2
  · exact k_fX12_doesPlainly_J42 N g x0 x1 x2 x3 d hS hZ
theorem k_fX12_doesPlainly_J12 (N : Nat) (g : Gs) (x0 : Nat) (x1 : Int32) (x2 : Int32) (x3 : Int32) (d : Ds) (hS : Shp g) (hZ : KL d) : pc (fX12_doesPlainly_J12 N g x0 x1 x2 x3 d) (fun _ d1 => KL d1) := by
  unfold fX12_doesPlainly_J12
  refine pc_if (fun _ => ?_) (fun _ => ?_)
  · refine pc_gd (fun c_1 => ?_)
    refine pc_ob (fun r8 e_2 => ?_)
    refine pc_gd (fun c_3 => ?_)
    refine pc_gd (fun c_4 => ?_)
    refine pc_bd (fun d11 e_5 => ?_)
    have z_6 := KL.i hZ e_5
    exact k_fX12_doesPlainly_J31 N g x0 x1 x2 x3 d11 hS z_6
  · exact k_fX12_doesPlainly_J31 N g x0 x1 x2 x3 d hS hZ
theorem k_fX12_doesPlainly (N : Nat) (g : Gs) (x0 : Nat) (x1 : Int32) (x2 : Int32) (x3 : Int32) (d : Ds) (hS : Shp g) (hZ : KL d) : pc (fX12_doesPlainly N g x0 x1 x2 x3 d) (fun _ d1 => KL d1) := by
  unfold fX12_doesPlainly
  refine pc_if (fun _ => ?_) (fun _ => ?_)
  · exact k_fX12_doesPlainly_J12 N g x0 x1 x2 x3 d hS hZ
  · refine pc_gd (fun c_1 => ?_)
    refine pc_cv (k_fX12_begin N g x0 x1 x2 x3 d hS hZ) (fun d13 z_2 => ?_)
    exact k_fX12_doesPlainly_J12 N g x0 x1 x2 x3 d13 hS z_2
theorem k_fX12_worksAlone (N : Nat) (g : Gs) (x0 : Nat) (x1 : Int32) (x2 : Int32) (d : Ds) (hS : Shp g) (hZ : KL d) : pc (fX12_worksAlone N g x0 x1 x2 d) (fun _ d1 => KL d1) := by
  unfold fX12_worksAlone
  refine pc_gd (fun c_1 => ?_)
  refine pc_cb (k_fX12_layerOf N g x0 x1 d hS hZ) (fun u4 d2 z_2 => ?_)
  refine pc_bd (fun u5 e_3 => ?_)
  refine pc_ob (fun r6 e_4 => ?_)
  refine pc_gd (fun c_5 => ?_)
  refine pc_gd (fun c_6 => ?_)
  refine pc_bd (fun u9 e_7 => ?_)
  refine pc_gd (fun c_8 => ?_)
  refine pc_bd (fun u11 e_9 => ?_)
  refine pc_gd (fun c_10 => ?_)
  refine pc_bd (fun u13 e_11 => ?_)
  refine pc_if (fun _ => ?_) (fun _ => ?_)
  · exact k_fX12_worksAlone_J58 N g x0 x1 x2 u9 u11 u13 d2 hS z_2
  · refine pc_if (fun _ => ?_) (fun _ => ?_)
    · exact k_fX12_worksAlone_J58 N g x0 x1 x2 u9 u11 u13 d2 hS z_2
    · refine pc_if (fun _ => ?_) (fun _ => ?_)
      · refine pc_cb (k_fX12_onceOrTwice N g x0 x1 x2 d2 hS z_2) (fun u40 d38 z_12 => ?_)
        refine pc_if (fun _ => ?_) (fun _ => ?_)
        · refine pc_cv (k_fX12_drops N g x0 0 d38 hS z_12) (fun d42 z_13 => ?_)
          refine pc_if (fun _ => ?_) (fun _ => ?_)
          · refine pc_cv (k_fX12_dropsTwo N g x0 x1 d42 hS z_13) (fun d49 z_14 => ?_)
            exact k_fX12_worksAlone_J154 N g x0 x1 x2 u11 u13 u40 d49 hS z_14
          · exact k_fX12_worksAlone_J154 N g x0 x1 x2 u11 u13 u40 d42 hS z_13
        · exact pc_some z_12
      · refine pc_cv (k_fX12_drops N g x0 0 d2 hS z_2) (fun d34 z_15 => ?_)
        refine pc_cv (k_fX12_doesPlainly N g x0 x1 u9 u11 d34 hS z_15) (fun d36 z_16 => ?_)
        exact k_fX12_worksAlone_J190 N g x0 x1 x2 d36 hS z_16
theorem k_fX12_works_J179 (N : Nat) (g : Gs) (x0 : Nat) (y1 : Int32) (y2 : Int32) (d : Ds) (hS : Shp g) (hZ : KL d) : pc (fX12_works_J179 N g x0 y1 y2 d) (fun _ d1 => KL d1) := by
  unfold fX12_works_J179
  refine pc_gd (fun c_1 => ?_)
  refine pc_cb (k_fX12_worksAlone N g x0 y1 y2 d hS hZ) (fun u19 d17 z_2 => ?_)
  refine pc_gd (fun c_3 => ?_)
  exact pc_some z_2
theorem k_fX12_chords (N : Nat) (g : Gs) (x0 : Nat) (x1 : Int32) (x2 : Int32) (x3 : Int32) (d : Ds) (hS : Shp g) (hZ : KL d) : pc (fX12_chords N g x0 x1 x2 x3 d) (fun _ d1 => KL d1) := by
  unfold fX12_chords
  refine pc_gd (fun c_1 => ?_)
  refine pc_ob (fun r2 e_2 => ?_)
  refine pc_gd (fun c_3 => ?_)
  refine pc_gd (fun c_4 => ?_)
  refine pc_bd (fun u5 e_5 => ?_)
  refine pc_gd (fun c_6 => ?_)
  refine pc_bd (fun u7 e_7 => ?_)
  refine pc_if (fun _ => ?_) (fun _ => ?_)
  · refine pc_cv (k_fX12_plays N g x0 u7 d hS hZ) (fun d15 z_8 => ?_)
    exact pc_some z_8
  · refine pc_cv (k_fX12_begin N g x0 x2 u5 u7 d hS hZ) (fun d9 z_9 => ?_)
    refine pc_cv (k_fX12_begin N g x0 x3 u5 u7 d9 hS z_9) (fun d11 z_10 => ?_)
    refine pc_gd (fun c_11 => ?_)
    refine pc_bd (fun d14 e_12 => ?_)
    have z_13 := KL.i z_10 e_12
    exact pc_some z_13
theorem k_fX12_works_J115 (N : Nat) (g : Gs) (x0 : Nat) (y1 : Int32) (y2 : Int32) (y3 : Int32) (y4 : Int32) (y5 : Int32) (d : Ds) (hS : Shp g) (hZ : KL d) : pc (fX12_works_J115 N g x0 y1 y2 y3 y4 y5 d) (fun _ d1 => KL d1) := by
  unfold fX12_works_J115
  refine pc_gd (fun c_1 => ?_)
  refine pc_ob (fun r32 e_2 => ?_)
  refine pc_gd (fun c_3 => ?_)
  refine pc_gd (fun c_4 => ?_)
  refine pc_if (fun _ => ?_) (fun _ => ?_)
  · exact k_fX12_works_J179 N g x0 y1 y2 d hS hZ
  · refine pc_cb (k_fX12_isDownAt N g x0 1 d hS hZ) (fun u38 d36 z_5 => ?_)
    refine pc_if (fun _ => ?_) (fun _ => ?_)
    · exact k_fX12_works_J179 N g x0 y1 y2 d36 hS z_5
    · refine pc_cb (k_fX12_keyAt N g x0 1 d36 hS z_5) (fun u42 d40 z_6 => ?_)
      refine pc_if (fun _ => ?_) (fun _ => ?_)
      · refine pc_cb (k_fX12_timeAt N g x0 1 d40 hS z_6) (fun u46 d44 z_7 => ?_)
        refine pc_if (fun _ => ?_) (fun _ => ?_)
        · exact k_fX12_works_J179 N g x0 y1 y2 d44 hS z_7
        · refine pc_cv (k_fX12_drops N g x0 0 d44 hS z_7) (fun d48 z_8 => ?_)
          refine pc_cv (k_fX12_drops N g x0 0 d48 hS z_8) (fun d50 z_9 => ?_)
          refine pc_cv (k_fX12_chords N g x0 y3 y1 y4 d50 hS z_9) (fun d52 z_10 => ?_)
          refine pc_cv (k_fX12_reports N g x0 d52 hS z_10) (fun d54 z_11 => ?_)
          exact pc_some z_11
      · exact k_fX12_works_J179 N g x0 y1 y2 d40 hS z_6
theorem k_fX12_works (N : Nat) (g : Gs) (x0 : Nat) (d : Ds) (hS : Shp g) (hZ : KL d) : pc (fX12_works N g x0 d) (fun _ d1 => KL d1) := by
  unfold fX12_works
  refine pc_gd (fun c_1 => ?_)
  refine pc_cb (k_fX12_keyAt N g x0 0 d hS hZ) (fun u4 d2 z_2 => ?_)
  refine pc_cb (k_fX12_isDownAt N g x0 0 d2 hS z_2) (fun u7 d5 z_3 => ?_)
  refine pc_if (fun _ => ?_) (fun _ => ?_)
  · refine pc_cv (k_fX12_drops N g x0 0 d5 hS z_3) (fun d58 z_4 => ?_)
    refine pc_cv (k_fX12_ends N g x0 u4 d58 hS z_4) (fun d60 z_5 => ?_)
    refine pc_cv (k_fX12_reports N g x0 d60 hS z_5) (fun d62 z_6 => ?_)
    exact pc_some z_6
  · refine pc_cb (k_fX12_timeAt N g x0 0 d5 hS z_3) (fun u11 d9 z_7 => ?_)
    refine pc_cb (k_fX12_chordOf N g x0 u4 d9 hS z_7) (fun u14 d12 z_8 => ?_)
    refine pc_if (fun _ => ?_) (fun _ => ?_)
    · exact k_fX12_works_J179 N g x0 u4 u11 d12 hS z_8
    · refine pc_ob (fun r21 e_9 => ?_)
      refine pc_gd (fun c_10 => ?_)
      refine pc_gd (fun c_11 => ?_)
      refine pc_gd (fun c_12 => ?_)
      refine pc_bd (fun u25 e_13 => ?_)
      refine pc_bd (fun u26 e_14 => ?_)
      refine pc_gd (fun c_15 => ?_)
      refine pc_bd (fun u28 e_16 => ?_)
      refine pc_gd (fun c_17 => ?_)
      refine pc_if (fun _ => ?_) (fun _ => ?_)
      · refine pc_gd (fun c_18 => ?_)
        refine pc_if (fun _ => ?_) (fun _ => ?_)
        · exact k_fX12_works_J115 N g x0 u4 u11 u14 u26 u28 d12 hS z_8
        · exact pc_some z_8
      · exact k_fX12_works_J115 N g x0 u4 u11 u14 u26 u28 d12 hS z_8
theorem k_fX12_ticks_B139 (N : Nat) (g : Gs) (x0 : Nat) (K139 : Int32 × Int32 × Ds → Option (Unit × Ds)) (y1 : Int32) (y3 : Int32) (d : Ds) (hS : Shp g) (hZ : KL d) (hK139 : ∀ a, KL a.2.2 → pc (K139 a) (fun _ d1 => KL d1)) : pc (fX12_ticks_B139 N g x0 K139 y1 y3 d) (fun _ d1 => KL d1) := by
  unfold fX12_ticks_B139
  refine pc_if (fun _ => ?_) (fun _ => ?_)
  · exact k_fX12_ticks_J162 N g x0 y1 d hS hZ
  · refine pc_gd (fun c_1 => ?_)
    refine pc_ob (fun r41 e_2 => ?_)
    refine pc_gd (fun c_3 => ?_)
    refine pc_gd (fun c_4 => ?_)
    refine pc_if (fun _ => ?_) (fun _ => ?_)
    · exact k_fX12_ticks_J162 N g x0 y1 d hS hZ
    · refine pc_cb (k_fX12_works N g x0 d hS hZ) (fun u47 d45 z_5 => ?_)
      exact hK139 _ z_5
theorem k_fX12_ticks_L139 (N : Nat) (g : Gs) (x0 : Nat) (hS : Shp g) (a0 : Int32) (a1 : Int32) (a2 : Ds) (hZ : KL a2) : pc (fX12_ticks_L139 N g x0 (a0, a1, a2)) (fun _ d1 => KL d1) := by
  unfold fX12_ticks_L139
  refine pc_lp (fun a => KL a.2.2) ?_ N (a0, a1, a2) hZ
  rintro K ⟨a0, a1, a2⟩ hZ hK
  exact k_fX12_ticks_B139 N g x0 K a0 a1 a2 hS hZ hK
theorem k_fX12_changes_J222 (N : Nat) (g : Gs) (x0 : Nat) (x1 : Int32) (d : Ds) (hS : Shp g) (hZ : KL d) : pc (fX12_changes_J222 N g x0 x1 d) (fun _ d1 => KL d1) := by
  unfold fX12_changes_J222
  exact pc_some hZ
theorem k_fX12_changes_J195 (N : Nat) (g : Gs) (x0 : Nat) (x1 : Int32) (y4 : Int32) (d : Ds) (hS : Shp g) (hZ : KL d) : pc (fX12_changes_J195 N g x0 x1 y4 d) (fun _ d1 => KL d1) := by
  unfold fX12_changes_J195
  refine pc_gd (fun c_1 => ?_)
  refine pc_ob (fun r35 e_2 => ?_)
  refine pc_gd (fun c_3 => ?_)
  refine pc_gd (fun c_4 => ?_)
  refine pc_if (fun _ => ?_) (fun _ => ?_)
  · exact k_fX12_changes_J222 N g x0 x1 d hS hZ
  · refine pc_bd (fun d39 e_5 => ?_)
    have z_6 := KL.i hZ e_5
    exact k_fX12_changes_J222 N g x0 x1 d39 hS z_6
theorem k_fX12_changes_J76 (N : Nat) (g : Gs) (x0 : Nat) (x1 : Int32) (y2 : Int32) (y3 : Int32) (z0 : Int32) (z1 : Int32) (z2 : Nat) (d : Ds) (hS : Shp g) (hZ : KL d) : pc (fX12_changes_J76 N g x0 x1 y2 y3 z0 z1 z2 d) (fun _ d1 => KL d1) := by
  unfold fX12_changes_J76
  refine pc_gd (fun c_1 => ?_)
  refine pc_gd (fun c_2 => ?_)
  refine pc_bd (fun d18 e_3 => ?_)
  have z_4 := KL.i hZ e_3
  refine pc_gd (fun c_5 => ?_)
  refine pc_ob (fun r20 e_6 => ?_)
  refine pc_gd (fun c_7 => ?_)
  refine pc_gd (fun c_8 => ?_)
  refine pc_gd (fun c_9 => ?_)
  refine pc_bd (fun d24 e_10 => ?_)
  have z_11 := KL.i z_4 e_10
  refine pc_gd (fun c_12 => ?_)
  refine pc_bd (fun d26 e_13 => ?_)
  have z_14 := KL.i z_11 e_13
  refine pc_gd (fun c_15 => ?_)
  refine pc_bd (fun d28 e_16 => ?_)
  have z_17 := KL.i z_14 e_16
  refine pc_gd (fun c_18 => ?_)
  refine pc_bd (fun d30 e_19 => ?_)
  have z_20 := KL.i z_17 e_19
  refine pc_if (fun _ => ?_) (fun _ => ?_)
  · refine pc_gd (fun c_21 => ?_)
    refine pc_bd (fun u33 e_22 => ?_)
    exact k_fX12_changes_J195 N g x0 x1 u33 d30 hS z_20
  · refine pc_gd (fun c_23 => ?_)
    refine pc_bd (fun d41 e_24 => ?_)
    have z_25 := KL.i z_20 e_24
    refine pc_gd (fun c_26 => ?_)
    refine pc_bd (fun d43 e_27 => ?_)
    have z_28 := KL.i z_25 e_27
    exact k_fX12_changes_J222 N g x0 x1 d43 hS z_28
theorem k_fX12_changes (N : Nat) (g : Gs) (x0 : Nat) (x1 : Int32) (d : Ds) (hS : Shp g) (hZ : KL d) : pc (fX12_changes N g x0 x1 d) (fun _ d1 => KL d1) := by
  unfold fX12_changes
  refine pc_gd (fun c_1 => ?_)
  refine pc_ob (fun r2 e_2 => ?_)
  refine pc_gd (fun c_3 => ?_)
  refine pc_gd (fun c_4 => ?_)
  refine pc_bd (fun d5 e_5 => ?_)
  have z_6 := KL.i hZ e_5
  refine pc_gd (fun c_7 => ?_)
  refine pc_bd (fun d7 e_8 => ?_)
  have z_9 := KL.i z_6 e_8
  refine pc_cb (k_fX12_has N g (dI d7 r2 (353 : Int32).toNatClampNeg) x1 d7 hS z_9) (fun u10 d8 z_10 => ?_)
  refine pc_gd (fun c_11 => ?_)
  refine pc_bd (fun u12 e_12 => ?_)
  refine pc_gd (fun c_13 => ?_)
  refine pc_bd (fun d14 e_14 => ?_)
  have z_15 := KL.i z_10 e_14
  refine pc_if (fun _ => ?_) (fun _ => ?_)
  · exact k_fX12_changes_J76 N g x0 x1 u10 u12 0 (u12 + 1) r2 d14 hS z_15
  · exact k_fX12_changes_J76 N g x0 x1 u10 u12 1 (u12 + 1) r2 d14 hS z_15
theorem k_fX12_ticks_J131 (N : Nat) (g : Gs) (x0 : Nat) (K33 : Int32 × Int32 × Int32 × Ds → Option (Unit × Ds)) (y1 : Int32) (y2 : Int32) (y3 : Int32) (d : Ds) (hS : Shp g) (hZ : KL d) (hK33 : ∀ a, KL a.2.2.2 → pc (K33 a) (fun _ d1 => KL d1)) : pc (fX12_ticks_J131 N g x0 K33 y1 y2 y3 d) (fun _ d1 => KL d1) := by
  unfold fX12_ticks_J131
  refine pc_bd (fun u64 e_1 => ?_)
  exact hK33 _ hZ
theorem k_fX12_ticks_J106 (N : Nat) (g : Gs) (x0 : Nat) (K33 : Int32 × Int32 × Int32 × Ds → Option (Unit × Ds)) (y1 : Int32) (y2 : Int32) (y3 : Int32) (z0 : Int32) (z1 : Int32) (z2 : Nat) (d : Ds) (hS : Shp g) (hZ : KL d) (hK33 : ∀ a, KL a.2.2.2 → pc (K33 a) (fun _ d1 => KL d1)) : pc (fX12_ticks_J106 N g x0 K33 y1 y2 y3 z0 z1 z2 d) (fun _ d1 => KL d1) := by
  unfold fX12_ticks_J106
  refine pc_gd (fun c_1 => ?_)
  refine pc_gd (fun c_2 => ?_)
  refine pc_bd (fun d57 e_3 => ?_)
  have z_4 := KL.i hZ e_3
  refine pc_gd (fun c_5 => ?_)
  refine pc_ob (fun r59 e_6 => ?_)
  refine pc_gd (fun c_7 => ?_)
  refine pc_gd (fun c_8 => ?_)
  refine pc_gd (fun c_9 => ?_)
  refine pc_if (fun _ => ?_) (fun _ => ?_)
  · refine pc_cv (k_fX12_changes N g x0 y3 d57 hS z_4) (fun d65 z_10 => ?_)
    exact k_fX12_ticks_J131 N g x0 K33 y1 y2 y3 d65 hS z_10 hK33
  · exact k_fX12_ticks_J131 N g x0 K33 y1 y2 y3 d57 hS z_4 hK33
theorem k_fX12_ticks_J74 (N : Nat) (g : Gs) (x0 : Nat) (K33 : Int32 × Int32 × Int32 × Ds → Option (Unit × Ds)) (y1 : Int32) (y2 : Int32) (y3 : Int32) (z0 : Int32) (d : Ds) (hS : Shp g) (hZ : KL d) (hK33 : ∀ a, KL a.2.2.2 → pc (K33 a) (fun _ d1 => KL d1)) : pc (fX12_ticks_J74 N g x0 K33 y1 y2 y3 z0 d) (fun _ d1 => KL d1) := by
  unfold fX12_ticks_J74
  refine pc_gd (fun c_1 => ?_)
  refine pc_ob (fun r53 e_2 => ?_)
  refine pc_if (fun _ => ?_) (fun _ => ?_)
  · exact k_fX12_ticks_J106 N g x0 K33 y1 y2 y3 0 ((355 : Int32) + y3) r53 d hS hZ hK33
  · refine pc_gd (fun c_3 => ?_)
    refine pc_gd (fun c_4 => ?_)
    exact k_fX12_ticks_J106 N g x0 K33 y1 y2 y3 ((dI d r53 ((355 : Int32) + y3).toNatClampNeg) + 1) ((355 : Int32) + y3) r53 d hS hZ hK33
theorem k_fX12_ticks_J73 (N : Nat) (g : Gs) (x0 : Nat) (K33 : Int32 × Int32 × Int32 × Ds → Option (Unit × Ds)) (y1 : Int32) (y2 : Int32) (y3 : Int32) (d : Ds) (hS : Shp g) (hZ : KL d) (hK33 : ∀ a, KL a.2.2.2 → pc (K33 a) (fun _ d1 => KL d1)) : pc (fX12_ticks_J73 N g x0 K33 y1 y2 y3 d) (fun _ d1 => KL d1) := by
  unfold fX12_ticks_J73
  exact k_fX12_ticks_J74 N g x0 K33 y1 y2 y3 0 d hS hZ hK33
theorem k_fX12_ticks_B33 (N : Nat) (g : Gs) (x0 : Nat) (K33 : Int32 × Int32 × Int32 × Ds → Option (Unit × Ds)) (y1 : Int32) (y2 : Int32) (y3 : Int32) (d : Ds) (hS : Shp g) (hZ : KL d) (hK33 : ∀ a, KL a.2.2.2 → pc (K33 a) (fun _ d1 => KL d1)) : pc (fX12_ticks_B33 N g x0 K33 y1 y2 y3 d) (fun _ d1 => KL d1) := by
  unfold fX12_ticks_B33
  refine pc_gd (fun c_1 => ?_)
  refine pc_cb (k_fX12_keysMany N g x0 d hS hZ) (fun u16 d14 z_2 => ?_)
  refine pc_if (fun _ => ?_) (fun _ => ?_)
  · exact k_fX12_ticks_L139 N g x0 hS y1 1 d14 z_2
  · refine pc_cb (k_fX12_has N g y2 y3 d14 hS z_2) (fun u50 d48 z_3 => ?_)
    refine pc_if (fun _ => ?_) (fun _ => ?_)
    · refine pc_cb (k_fX12_has N g y1 y3 d48 hS z_3) (fun u71 d69 z_4 => ?_)
      refine pc_ob (fun r72 e_5 => ?_)
      refine pc_gd (fun c_6 => ?_)
      refine pc_gd (fun c_7 => ?_)
      refine pc_cb (k_fX12_has N g (dI d69 r72 (353 : Int32).toNatClampNeg) y3 d69 hS z_4) (fun u77 d75 z_8 => ?_)
      refine pc_if (fun _ => ?_) (fun _ => ?_)
      · exact k_fX12_ticks_J73 N g x0 K33 y1 y2 y3 d75 hS z_8 hK33
      · exact k_fX12_ticks_J74 N g x0 K33 y1 y2 y3 1 d75 hS z_8 hK33
    · exact k_fX12_ticks_J73 N g x0 K33 y1 y2 y3 d48 hS z_3 hK33
theorem k_fX12_ticks_L33 (N : Nat) (g : Gs) (x0 : Nat) (hS : Shp g) (a0 : Int32) (a1 : Int32) (a2 : Int32) (a3 : Ds) (hZ : KL a3) : pc (fX12_ticks_L33 N g x0 (a0, a1, a2, a3)) (fun _ d1 => KL d1) := by
  unfold fX12_ticks_L33
  refine pc_lp (fun a => KL a.2.2.2) ?_ N (a0, a1, a2, a3) hZ
  rintro K ⟨a0, a1, a2, a3⟩ hZ hK
  exact k_fX12_ticks_B33 N g x0 K a0 a1 a2 a3 hS hZ hK
theorem k_fX12_ticks (N : Nat) (g : Gs) (x0 : Nat) (d : Ds) (hS : Shp g) (hZ : KL d) : pc (fX12_ticks N g x0 d) (fun _ d1 => KL d1) := by
  unfold fX12_ticks
  refine pc_gd (fun c_1 => ?_)
  refine pc_ob (fun r2 e_2 => ?_)
  refine pc_gd (fun c_3 => ?_)
  refine pc_gd (fun c_4 => ?_)
  refine pc_bd (fun d5 e_5 => ?_)
  have z_6 := KL.i hZ e_5
  refine pc_gd (fun c_7 => ?_)
  refine pc_cb (k_fX12_seenBy N g x0 (dI d5 r2 (352 : Int32).toNatClampNeg) d5 hS z_6) (fun u9 d7 z_8 => ?_)
  refine pc_cb (k_fX12_barredBy N g x0 u9 d7 hS z_8) (fun u12 d10 z_9 => ?_)
  exact k_fX12_ticks_L33 N g x0 hS u9 u12 0 d10 z_9
theorem k_fX12_tick_B30 (N : Nat) (g : Gs) (x0 : Nat) (x1 : Int32) (K30 : Int32 × Int32 × Ds → Option (Int32 × Ds)) (y2 : Int32) (y3 : Int32) (d : Ds) (hS : Shp g) (hZ : KL d) (hK30 : ∀ a, KL a.2.2 → pc (K30 a) (fun _ d1 => KL d1)) : pc (fX12_tick_B30 N g x0 x1 K30 y2 y3 d) (fun _ d1 => KL d1) := by
  unfold fX12_tick_B30
  refine pc_if (fun _ => ?_) (fun _ => ?_)
  · refine pc_gd (fun c_1 => ?_)
    refine pc_ob (fun r16 e_2 => ?_)
    refine pc_gd (fun c_3 => ?_)
    refine pc_gd (fun c_4 => ?_)
    exact pc_some hZ
  · refine pc_gd (fun c_5 => ?_)
    refine pc_cv (k_fX12_ticks N g x0 d hS hZ) (fun d20 z_6 => ?_)
    refine pc_bd (fun u22 e_7 => ?_)
    exact hK30 _ z_6
theorem k_fX12_tick_L30 (N : Nat) (g : Gs) (x0 : Nat) (x1 : Int32) (hS : Shp g) (a0 : Int32) (a1 : Int32) (a2 : Ds) (hZ : KL a2) : pc (fX12_tick_L30 N g x0 x1 (a0, a1, a2)) (fun _ d1 => KL d1) := by
  unfold fX12_tick_L30
  refine pc_lp (fun a => KL a.2.2) ?_ N (a0, a1, a2) hZ
  rintro K ⟨a0, a1, a2⟩ hZ hK
  exact k_fX12_tick_B30 N g x0 x1 K a0 a1 a2 hS hZ hK
theorem k_fX12_tick (N : Nat) (g : Gs) (x0 : Nat) (x1 : Int32) (d : Ds) (hS : Shp g) (hZ : KL d) : pc (fX12_tick N g x0 x1 d) (fun _ d1 => KL d1) := by
  unfold fX12_tick
  refine pc_cb (k_fX12_in N g x1 1 50 d hS hZ) (fun u3 d1 z_1 => ?_)
  refine pc_if (fun _ => ?_) (fun _ => ?_)
  · exact k_fX12_tick_J17 N g x0 x1 d1 hS z_1
  · refine pc_gd (fun c_2 => ?_)
    refine pc_cb (k_fX12_keysMany N g x0 d1 hS z_1) (fun u8 d6 z_3 => ?_)
    refine pc_if (fun _ => ?_) (fun _ => ?_)
    · exact k_fX12_tick_J17 N g x0 x1 d6 hS z_3
    · refine pc_ob (fun r10 e_4 => ?_)
      refine pc_gd (fun c_5 => ?_)
      refine pc_gd (fun c_6 => ?_)
      refine pc_bd (fun u13 e_7 => ?_)
      exact k_fX12_tick_L30 N g x0 x1 hS u13 0 d6 z_3
theorem k_fX12_bitsOfNumber_J87 (N : Nat) (g : Gs) (x0 : UInt32) (z0 : Int32) (d : Ds) (hS : Shp g) (hZ : KL d) : pc (fX12_bitsOfNumber_J87 N g x0 z0 d) (fun _ d1 => KL d1) := by
  unfold fX12_bitsOfNumber_J87
  exact pc_some hZ
theorem k_fX12_bitsOfNumber_B40 (N : Nat) (g : Gs) (x0 : UInt32) (K40 : UInt64 × Int32 × Int32 × Ds → Option (Int32 × Ds)) (y1 : UInt64) (y3 : Int32) (y4 : Int32) (d : Ds) (hS : Shp g) (hZ : KL d) (hK40 : ∀ a, KL a.2.2.2 → pc (K40 a) (fun _ d1 => KL d1)) : pc (fX12_bitsOfNumber_B40 N g x0 K40 y1 y3 y4 d) (fun _ d1 => KL d1) := by
  unfold fX12_bitsOfNumber_B40
  refine pc_if (fun _ => ?_) (fun _ => ?_)
  · refine pc_bd (fun u6 e_1 => ?_)
    refine pc_if (fun _ => ?_) (fun _ => ?_)
    · exact k_fX12_bitsOfNumber_J87 N g x0 ((y3 <<< (23 &&& 31)) ||| (u6 - 8388608)) d hS hZ
    · exact k_fX12_bitsOfNumber_J87 N g x0 u6 d hS hZ
  · refine pc_gd (fun c_2 => ?_)
    refine pc_bd (fun u9 e_3 => ?_)
    refine pc_bd (fun u10 e_4 => ?_)
    exact hK40 _ hZ
theorem k_fX12_bitsOfNumber_L40 (N : Nat) (g : Gs) (x0 : UInt32) (hS : Shp g) (a0 : UInt64) (a1 : Int32) (a2 : Int32) (a3 : Ds) (hZ : KL a3) : pc (fX12_bitsOfNumber_L40 N g x0 (a0, a1, a2, a3)) (fun _ d1 => KL d1) := by
  unfold fX12_bitsOfNumber_L40
  refine pc_lp (fun a => KL a.2.2.2) ?_ N (a0, a1, a2, a3) hZ
  rintro K ⟨a0, a1, a2, a3⟩ hZ hK
  exact k_fX12_bitsOfNumber_B40 N g x0 K a0 a1 a2 a3 hS hZ hK
theorem k_fX12_bitsOfNumber_J37 (N : Nat) (g : Gs) (x0 : UInt32) (y1 : UInt64) (y3 : Int32) (d : Ds) (hS : Shp g) (hZ : KL d) : pc (fX12_bitsOfNumber_J37 N g x0 y1 y3 d) (fun _ d1 => KL d1) := by
  unfold fX12_bitsOfNumber_J37
  exact k_fX12_bitsOfNumber_L40 N g x0 hS y1 y3 0 d hZ
theorem k_fX12_bitsOfNumber_B14 (N : Nat) (g : Gs) (x0 : UInt32) (K14 : UInt64 × Int32 × Ds → Option (Int32 × Ds)) (y1 : UInt64) (y3 : Int32) (d : Ds) (hS : Shp g) (hZ : KL d) (hK14 : ∀ a, KL a.2.2 → pc (K14 a) (fun _ d1 => KL d1)) : pc (fX12_bitsOfNumber_B14 N g x0 K14 y1 y3 d) (fun _ d1 => KL d1) := by
  unfold fX12_bitsOfNumber_B14
  refine pc_if (fun _ => ?_) (fun _ => ?_)
  · exact k_fX12_bitsOfNumber_J37 N g x0 y1 y3 d hS hZ
  · refine pc_if (fun _ => ?_) (fun _ => ?_)
    · exact k_fX12_bitsOfNumber_J37 N g x0 y1 y3 d hS hZ
    · refine pc_gd (fun c_1 => ?_)
      refine pc_bd (fun u13 e_2 => ?_)
      refine pc_bd (fun u14 e_3 => ?_)
      exact hK14 _ hZ
theorem k_fX12_bitsOfNumber_L14 (N : Nat) (g : Gs) (x0 : UInt32) (hS : Shp g) (a0 : UInt64) (a1 : Int32) (a2 : Ds) (hZ : KL a2) : pc (fX12_bitsOfNumber_L14 N g x0 (a0, a1, a2)) (fun _ d1 => KL d1) := by
  unfold fX12_bitsOfNumber_L14
  refine pc_lp (fun a => KL a.2.2) ?_ N (a0, a1, a2) hZ
  rintro K ⟨a0, a1, a2⟩ hZ hK
  exact k_fX12_bitsOfNumber_B14 N g x0 K a0 a1 a2 hS hZ hK
theorem k_fX12_bitsOfNumber (N : Nat) (g : Gs) (x0 : UInt32) (d : Ds) (hS : Shp g) (hZ : KL d) : pc (fX12_bitsOfNumber N g x0 d) (fun _ d1 => KL d1) := by
  unfold fX12_bitsOfNumber
  refine pc_gd (fun c_1 => ?_)
  refine pc_bd (fun u2 e_2 => ?_)
  refine pc_if (fun _ => ?_) (fun _ => ?_)
  · exact pc_some hZ
  · exact k_fX12_bitsOfNumber_L14 N g x0 hS u2 127 d hZ
theorem k_fX12_key (N : Nat) (g : Gs) (x0 : Nat) (x1 : Int32) (x2 : Int32) (d : Ds) (hS : Shp g) (hZ : KL d) : pc (fX12_key N g x0 x1 x2 d) (fun _ d1 => KL d1) := by
  unfold fX12_key
  refine pc_gd (fun c_1 => ?_)
  refine pc_cb (k_fX12_isKey N g x0 x1 d hS hZ) (fun u4 d2 z_2 => ?_)
  refine pc_if (fun _ => ?_) (fun _ => ?_)
  · exact pc_some z_2
  · refine pc_ob (fun r6 e_3 => ?_)
    refine pc_gd (fun c_4 => ?_)
    refine pc_gd (fun c_5 => ?_)
    refine pc_cb (k_fX12_seenBy N g x0 (dI d2 r6 (352 : Int32).toNatClampNeg) d2 hS z_2) (fun u11 d9 z_6 => ?_)
    refine pc_if (fun _ => ?_) (fun _ => ?_)
    · exact pc_some z_6
    · refine pc_if (fun _ => ?_) (fun _ => ?_)
      · exact pc_some z_6
      · refine pc_if (fun _ => ?_) (fun _ => ?_)
        · exact pc_some z_6
        · refine pc_if (fun _ => ?_) (fun _ => ?_)
          · refine pc_cb (k_fX12_barredBy N g x0 u11 d9 hS z_6) (fun u18 d16 z_7 => ?_)
            exact pc_some z_7
          · refine pc_if (fun _ => ?_) (fun _ => ?_)
            · refine pc_gd (fun c_8 => ?_)
              exact pc_some z_6
            · refine pc_if (fun _ => ?_) (fun _ => ?_)
              · refine pc_gd (fun c_9 => ?_)
                exact pc_some z_6
              · refine pc_if (fun _ => ?_) (fun _ => ?_)
                · refine pc_ob (fun r24 e_10 => ?_)
                  refine pc_gd (fun c_11 => ?_)
                  refine pc_gd (fun c_12 => ?_)
                  refine pc_cb (k_fX12_bitsOfNumber N g (dF d9 r24 x1.toNatClampNeg) d9 hS z_6) (fun u29 d27 z_13 => ?_)
                  exact pc_some z_13
                · exact pc_none
theorem k_fX12_deed_J26 (N : Nat) (g : Gs) (x0 : Nat) (x1 : Int32) (x2 : Int32) (x3 : Int32) (d : Ds) (hS : Shp g) (hZ : KL d) : pc (fX12_deed_J26 N g x0 x1 x2 x3 d) (fun _ d1 => KL d1) := by
  unfold fX12_deed_J26
  exact pc_some hZ
theorem k_fX12_deed_J80 (N : Nat) (g : Gs) (x0 : Nat) (x1 : Int32) (x2 : Int32) (x3 : Int32) (z0 : Int32) (d : Ds) (hS : Shp g) (hZ : KL d) : pc (fX12_deed_J80 N g x0 x1 x2 x3 z0 d) (fun _ d1 => KL d1) := by
  unfold fX12_deed_J80
  exact pc_some hZ
theorem k_fX12_deed_J78 (N : Nat) (g : Gs) (x0 : Nat) (x1 : Int32) (x2 : Int32) (x3 : Int32) (y4 : Int32) (d : Ds) (hS : Shp g) (hZ : KL d) : pc (fX12_deed_J78 N g x0 x1 x2 x3 y4 d) (fun _ d1 => KL d1) := by
  unfold fX12_deed_J78
  exact k_fX12_deed_J80 N g x0 x1 x2 x3 y4 d hS hZ
theorem k_fX12_deed_J50 (N : Nat) (g : Gs) (x0 : Nat) (x1 : Int32) (x2 : Int32) (x3 : Int32) (z0 : Int32) (z1 : Int32) (z2 : Int32) (z3 : Int32) (z4 : Nat) (d : Ds) (hS : Shp g) (hZ : KL d) : pc (fX12_deed_J50 N g x0 x1 x2 x3 z0 z1 z2 z3 z4 d) (fun _ d1 => KL d1) := by
  unfold fX12_deed_J50
  refine pc_gd (fun c_1 => ?_)
  refine pc_gd (fun c_2 => ?_)
  refine pc_bd (fun u18 e_3 => ?_)
  refine pc_if (fun _ => ?_) (fun _ => ?_)
  · exact k_fX12_deed_J78 N g x0 x1 x2 x3 u18 d hS hZ
  · refine pc_if (fun _ => ?_) (fun _ => ?_)
    · refine pc_if (fun _ => ?_) (fun _ => ?_)
      · exact k_fX12_deed_J80 N g x0 x1 x2 x3 4 d hS hZ
      · exact k_fX12_deed_J78 N g x0 x1 x2 x3 u18 d hS hZ
    · exact k_fX12_deed_J78 N g x0 x1 x2 x3 u18 d hS hZ
theorem k_fX12_deed (N : Nat) (g : Gs) (x0 : Nat) (x1 : Int32) (x2 : Int32) (x3 : Int32) (d : Ds) (hS : Shp g) (hZ : KL d) : pc (fX12_deed N g x0 x1 x2 x3 d) (fun _ d1 => KL d1) := by
  unfold fX12_deed
  refine pc_cb (k_fX12_in N g x1 (-1) 3 d hS hZ) (fun u3 d1 z_1 => ?_)
  refine pc_if (fun _ => ?_) (fun _ => ?_)
  · exact k_fX12_deed_J26 N g x0 x1 x2 x3 d1 hS z_1
  · refine pc_gd (fun c_2 => ?_)
    refine pc_cb (k_fX12_isKey N g x0 x2 d1 hS z_1) (fun u8 d6 z_3 => ?_)
    refine pc_if (fun _ => ?_) (fun _ => ?_)
    · exact k_fX12_deed_J26 N g x0 x1 x2 x3 d6 hS z_3
    · refine pc_cb (k_fX12_in N g x3 0 2 d6 hS z_3) (fun u12 d10 z_4 => ?_)
      refine pc_if (fun _ => ?_) (fun _ => ?_)
      · exact k_fX12_deed_J26 N g x0 x1 x2 x3 d10 hS z_4
      · refine pc_ob (fun r14 e_5 => ?_)
        refine pc_if (fun _ => ?_) (fun _ => ?_)
        · exact k_fX12_deed_J50 N g x0 x1 x2 x3 x1 24 3 12 r14 d10 hS z_4
        · refine pc_cb (k_fX12_layerOf N g x0 x2 d10 hS z_4) (fun u24 d22 z_6 => ?_)
          exact k_fX12_deed_J50 N g x0 x1 x2 x3 u24 24 3 12 r14 d22 hS z_6
theorem k_fX12_does_J36 (N : Nat) (g : Gs) (x0 : Nat) (x1 : Int32) (x2 : Int32) (z0 : Int32) (d : Ds) (hS : Shp g) (hZ : KL d) : pc (fX12_does_J36 N g x0 x1 x2 z0 d) (fun _ d1 => KL d1) := by
  unfold fX12_does_J36
  exact pc_some hZ
theorem k_fX12_does_J34 (N : Nat) (g : Gs) (x0 : Nat) (x1 : Int32) (x2 : Int32) (d : Ds) (hS : Shp g) (hZ : KL d) : pc (fX12_does_J34 N g x0 x1 x2 d) (fun _ d1 => KL d1) := by
  unfold fX12_does_J34
  exact k_fX12_does_J36 N g x0 x1 x2 (-2) d hS hZ
theorem k_fX12_does (N : Nat) (g : Gs) (x0 : Nat) (x1 : Int32) (x2 : Int32) (d : Ds) (hS : Shp g) (hZ : KL d) : pc (fX12_does N g x0 x1 x2 d) (fun _ d1 => KL d1) := by
  unfold fX12_does
  refine pc_gd (fun c_1 => ?_)
  refine pc_cb (k_fX12_isKey N g x0 x1 d hS hZ) (fun u4 d2 z_2 => ?_)
  refine pc_if (fun _ => ?_) (fun _ => ?_)
  · exact k_fX12_does_J34 N g x0 x1 x2 d2 hS z_2
  · refine pc_cb (k_fX12_in N g x2 0 1 d2 hS z_2) (fun u8 d6 z_3 => ?_)
    refine pc_if (fun _ => ?_) (fun _ => ?_)
    · exact k_fX12_does_J34 N g x0 x1 x2 d6 hS z_3
    · refine pc_ob (fun r10 e_4 => ?_)
      refine pc_gd (fun c_5 => ?_)
      refine pc_gd (fun c_6 => ?_)
      exact k_fX12_does_J36 N g x0 x1 x2 (dI d6 r10 (((379 : Int32) + ((3 : Int32) * x1)) + x2).toNatClampNeg) d6 hS z_3
theorem k_fX12_event_J59 (N : Nat) (g : Gs) (x0 : Nat) (x1 : Int32) (x2 : Int32) (z0 : Int32) (d : Ds) (hS : Shp g) (hZ : KL d) : pc (fX12_event_J59 N g x0 x1 x2 z0 d) (fun _ d1 => KL d1) := by
  unfold fX12_event_J59
  exact pc_some hZ
theorem k_fX12_event_J58 (N : Nat) (g : Gs) (x0 : Nat) (x1 : Int32) (x2 : Int32) (d : Ds) (hS : Shp g) (hZ : KL d) : pc (fX12_event_J58 N g x0 x1 x2 d) (fun _ d1 => KL d1) := by
  unfold fX12_event_J58
  exact k_fX12_event_J59 N g x0 x1 x2 (-1) d hS hZ
theorem k_fX12_event (N : Nat) (g : Gs) (x0 : Nat) (x1 : Int32) (x2 : Int32) (d : Ds) (hS : Shp g) (hZ : KL d) : pc (fX12_event N g x0 x1 x2 d) (fun _ d1 => KL d1) := by
  unfold fX12_event
  refine pc_if (fun _ => ?_) (fun _ => ?_)
  · refine pc_gd (fun c_1 => ?_)
    refine pc_ob (fun r16 e_2 => ?_)
    refine pc_gd (fun c_3 => ?_)
    refine pc_gd (fun c_4 => ?_)
    exact pc_some hZ
  · refine pc_gd (fun c_5 => ?_)
    refine pc_ob (fun r3 e_6 => ?_)
    refine pc_gd (fun c_7 => ?_)
    refine pc_gd (fun c_8 => ?_)
    refine pc_cb (k_fX12_in N g x1 0 ((dI d r3 (557 : Int32).toNatClampNeg) - 1) d hS hZ) (fun u8 d6 z_9 => ?_)
    refine pc_if (fun _ => ?_) (fun _ => ?_)
    · exact k_fX12_event_J58 N g x0 x1 x2 d6 hS z_9
    · refine pc_cb (k_fX12_in N g x2 0 2 d6 hS z_9) (fun u12 d10 z_10 => ?_)
      refine pc_if (fun _ => ?_) (fun _ => ?_)
      · exact k_fX12_event_J58 N g x0 x1 x2 d10 hS z_10
      · refine pc_gd (fun c_11 => ?_)
        exact k_fX12_event_J59 N g x0 x1 x2 (dI d10 r3 (((1678 : Int32) + ((3 : Int32) * x1)) + x2).toNatClampNeg) d10 hS z_10
theorem k_fX12_reportsKept_J26 (N : Nat) (g : Gs) (x0 : Nat) (z0 : Int32) (d : Ds) (hS : Shp g) (hZ : KL d) : pc (fX12_reportsKept_J26 N g x0 z0 d) (fun _ d1 => KL d1) := by
  unfold fX12_reportsKept_J26
  exact pc_some hZ
theorem k_fX12_reportsKept (N : Nat) (g : Gs) (x0 : Nat) (d : Ds) (hS : Shp g) (hZ : KL d) : pc (fX12_reportsKept N g x0 d) (fun _ d1 => KL d1) := by
  unfold fX12_reportsKept
  refine pc_gd (fun c_1 => ?_)
  refine pc_ob (fun r2 e_2 => ?_)
  refine pc_gd (fun c_3 => ?_)
  refine pc_gd (fun c_4 => ?_)
  refine pc_if (fun _ => ?_) (fun _ => ?_)
  · exact k_fX12_reportsKept_J26 N g x0 40 d hS hZ
  · exact k_fX12_reportsKept_J26 N g x0 (dI d r2 (555 : Int32).toNatClampNeg) d hS hZ
theorem k_fX12_report_J18 (N : Nat) (g : Gs) (x0 : Nat) (x1 : Int32) (x2 : Int32) (d : Ds) (hS : Shp g) (hZ : KL d) : pc (fX12_report_J18 N g x0 x1 x2 d) (fun _ d1 => KL d1) := by
  unfold fX12_report_J18
  exact pc_some hZ
theorem k_fX12_report_J68 (N : Nat) (g : Gs) (x0 : Nat) (x1 : Int32) (x2 : Int32) (z0 : Int32) (d : Ds) (hS : Shp g) (hZ : KL d) : pc (fX12_report_J68 N g x0 x1 x2 z0 d) (fun _ d1 => KL d1) := by
  unfold fX12_report_J68
  exact pc_some hZ
theorem k_fX12_report (N : Nat) (g : Gs) (x0 : Nat) (x1 : Int32) (x2 : Int32) (d : Ds) (hS : Shp g) (hZ : KL d) : pc (fX12_report N g x0 x1 x2 d) (fun _ d1 => KL d1) := by
  unfold fX12_report
  refine pc_gd (fun c_1 => ?_)
  refine pc_cb (k_fX12_reportsKept N g x0 d hS hZ) (fun u4 d2 z_2 => ?_)
  refine pc_cb (k_fX12_in N g x1 0 (u4 - 1) d2 hS z_2) (fun u7 d5 z_3 => ?_)
  refine pc_if (fun _ => ?_) (fun _ => ?_)
  · exact k_fX12_report_J18 N g x0 x1 x2 d5 hS z_3
  · refine pc_if (fun _ => ?_) (fun _ => ?_)
    · refine pc_cb (k_fX12_reportAt N g x0 x1 d5 hS z_3) (fun u12 d10 z_4 => ?_)
      refine pc_if (fun _ => ?_) (fun _ => ?_)
      · refine pc_ob (fun r14 e_5 => ?_)
        refine pc_gd (fun c_6 => ?_)
        refine pc_gd (fun c_7 => ?_)
        refine pc_if (fun _ => ?_) (fun _ => ?_)
        · exact k_fX12_report_J68 N g x0 x1 x2 (-1) d10 hS z_4
        · refine pc_gd (fun c_8 => ?_)
          exact k_fX12_report_J68 N g x0 x1 x2 (dI d10 r14 (u12 + x2).toNatClampNeg) d10 hS z_4
      · refine pc_ob (fun r19 e_9 => ?_)
        refine pc_gd (fun c_10 => ?_)
        refine pc_gd (fun c_11 => ?_)
        exact k_fX12_report_J68 N g x0 x1 x2 (dI d10 r19 (u12 + x2).toNatClampNeg) d10 hS z_4
    · exact k_fX12_report_J18 N g x0 x1 x2 d5 hS z_3
theorem k_fX12_sent_J59 (N : Nat) (g : Gs) (x0 : Nat) (x1 : Int32) (z0 : Int32) (d : Ds) (hS : Shp g) (hZ : KL d) : pc (fX12_sent_J59 N g x0 x1 z0 d) (fun _ d1 => KL d1) := by
  unfold fX12_sent_J59
  exact pc_some hZ
theorem k_fX12_sent_J58 (N : Nat) (g : Gs) (x0 : Nat) (x1 : Int32) (d : Ds) (hS : Shp g) (hZ : KL d) : pc (fX12_sent_J58 N g x0 x1 d) (fun _ d1 => KL d1) := by
  unfold fX12_sent_J58
  exact k_fX12_sent_J59 N g x0 x1 (-1) d hS hZ
theorem k_fX12_sent (N : Nat) (g : Gs) (x0 : Nat) (x1 : Int32) (d : Ds) (hS : Shp g) (hZ : KL d) : pc (fX12_sent N g x0 x1 d) (fun _ d1 => KL d1) := by
  unfold fX12_sent
  refine pc_gd (fun c_1 => ?_)
  refine pc_cv (k_fX12_laysSent N g x0 d hS hZ) (fun d2 z_2 => ?_)
  refine pc_if (fun _ => ?_) (fun _ => ?_)
  · exact k_fX12_sent_J59 N g x0 x1 (dI d2 x0 25) d2 hS z_2
  · refine pc_if (fun _ => ?_) (fun _ => ?_)
    · exact k_fX12_sent_J59 N g x0 x1 (dI d2 x0 26) d2 hS z_2
    · refine pc_cb (k_fX12_in N g (x1 - 2) 0 ((dI d2 x0 26) - 1) d2 hS z_2) (fun u8 d6 z_3 => ?_)
      refine pc_if (fun _ => ?_) (fun _ => ?_)
      · exact k_fX12_sent_J58 N g x0 x1 d6 hS z_3
      · refine pc_if (fun _ => ?_) (fun _ => ?_)
        · exact k_fX12_sent_J58 N g x0 x1 d6 hS z_3
        · refine pc_ob (fun r11 e_4 => ?_)
          refine pc_gd (fun c_5 => ?_)
          refine pc_gd (fun c_6 => ?_)
          exact k_fX12_sent_J59 N g x0 x1 (dI d6 r11 (x1 - 2).toNatClampNeg) d6 hS z_3
theorem k_fX12_host (N : Nat) (g : Gs) (x0 : Nat) (x1 : Int32) (d : Ds) (hS : Shp g) (hZ : KL d) : pc (fX12_host N g x0 x1 d) (fun _ d1 => KL d1) := by
  unfold fX12_host
  refine pc_if (fun _ => ?_) (fun _ => ?_)
  · exact pc_some hZ
  · refine pc_if (fun _ => ?_) (fun _ => ?_)
    · refine pc_gd (fun c_1 => ?_)
      refine pc_ob (fun r4 e_2 => ?_)
      refine pc_gd (fun c_3 => ?_)
      refine pc_gd (fun c_4 => ?_)
      exact pc_some hZ
    · refine pc_if (fun _ => ?_) (fun _ => ?_)
      · refine pc_gd (fun c_5 => ?_)
        refine pc_ob (fun r9 e_6 => ?_)
        refine pc_gd (fun c_7 => ?_)
        refine pc_gd (fun c_8 => ?_)
        exact pc_some hZ
      · refine pc_if (fun _ => ?_) (fun _ => ?_)
        · refine pc_gd (fun c_9 => ?_)
          refine pc_ob (fun r14 e_10 => ?_)
          refine pc_gd (fun c_11 => ?_)
          refine pc_gd (fun c_12 => ?_)
          exact pc_some hZ
        · refine pc_if (fun _ => ?_) (fun _ => ?_)
          · refine pc_gd (fun c_13 => ?_)
            refine pc_ob (fun r19 e_14 => ?_)
            refine pc_gd (fun c_15 => ?_)
            refine pc_gd (fun c_16 => ?_)
            exact pc_some hZ
          · exact pc_none
theorem k_fX12_strokes_J66 (N : Nat) (g : Gs) (x0 : Nat) (x1 : Int32) (x2 : Int32) (z0 : Int32) (d : Ds) (hS : Shp g) (hZ : KL d) : pc (fX12_strokes_J66 N g x0 x1 x2 z0 d) (fun _ d1 => KL d1) := by
  unfold fX12_strokes_J66
  exact pc_some hZ
theorem k_fX12_strokes (N : Nat) (g : Gs) (x0 : Nat) (x1 : Int32) (x2 : Int32) (d : Ds) (hS : Shp g) (hZ : KL d) : pc (fX12_strokes N g x0 x1 x2 d) (fun _ d1 => KL d1) := by
  unfold fX12_strokes
  refine pc_gd (fun c_1 => ?_)
  refine pc_cb (k_fX12_isKey N g x0 x1 d hS hZ) (fun u4 d2 z_2 => ?_)
  refine pc_if (fun _ => ?_) (fun _ => ?_)
  · exact pc_some z_2
  · refine pc_if (fun _ => ?_) (fun _ => ?_)
    · refine pc_ob (fun r15 e_3 => ?_)
      refine pc_gd (fun c_4 => ?_)
      refine pc_gd (fun c_5 => ?_)
      exact k_fX12_strokes_J66 N g x0 x1 x2 (dI d2 r15 ((459 : Int32) + x1).toNatClampNeg) d2 hS z_2
    · refine pc_if (fun _ => ?_) (fun _ => ?_)
      · refine pc_ob (fun r12 e_6 => ?_)
        refine pc_gd (fun c_7 => ?_)
        refine pc_gd (fun c_8 => ?_)
        exact k_fX12_strokes_J66 N g x0 x1 x2 (dI d2 r12 ((483 : Int32) + x1).toNatClampNeg) d2 hS z_2
      · refine pc_if (fun _ => ?_) (fun _ => ?_)
        · refine pc_ob (fun r9 e_9 => ?_)
          refine pc_gd (fun c_10 => ?_)
          refine pc_gd (fun c_11 => ?_)
          exact k_fX12_strokes_J66 N g x0 x1 x2 (dI d2 r9 ((507 : Int32) + x1).toNatClampNeg) d2 hS z_2
        · exact k_fX12_strokes_J66 N g x0 x1 x2 (-2) d2 hS z_2
theorem k_fX12_chord_J39 (N : Nat) (g : Gs) (x0 : Nat) (x1 : Int32) (x2 : Int32) (d : Ds) (hS : Shp g) (hZ : KL d) : pc (fX12_chord_J39 N g x0 x1 x2 d) (fun _ d1 => KL d1) := by
  unfold fX12_chord_J39
  exact pc_some hZ
theorem k_fX12_chord_J75 (N : Nat) (g : Gs) (x0 : Nat) (x1 : Int32) (x2 : Int32) (z0 : Int32) (d : Ds) (hS : Shp g) (hZ : KL d) : pc (fX12_chord_J75 N g x0 x1 x2 z0 d) (fun _ d1 => KL d1) := by
  unfold fX12_chord_J75
  exact pc_some hZ
theorem k_fX12_chord (N : Nat) (g : Gs) (x0 : Nat) (x1 : Int32) (x2 : Int32) (d : Ds) (hS : Shp g) (hZ : KL d) : pc (fX12_chord N g x0 x1 x2 d) (fun _ d1 => KL d1) := by
  unfold fX12_chord
  refine pc_if (fun _ => ?_) (fun _ => ?_)
  · refine pc_gd (fun c_1 => ?_)
    refine pc_ob (fun r18 e_2 => ?_)
    refine pc_gd (fun c_3 => ?_)
    refine pc_gd (fun c_4 => ?_)
    exact pc_some hZ
  · refine pc_gd (fun c_5 => ?_)
    refine pc_ob (fun r3 e_6 => ?_)
    refine pc_gd (fun c_7 => ?_)
    refine pc_gd (fun c_8 => ?_)
    refine pc_cb (k_fX12_in N g x1 0 ((dI d r3 (10 : Int32).toNatClampNeg) - 1) d hS hZ) (fun u8 d6 z_9 => ?_)
    refine pc_if (fun _ => ?_) (fun _ => ?_)
    · exact k_fX12_chord_J39 N g x0 x1 x2 d6 hS z_9
    · refine pc_cb (k_fX12_in N g x2 0 2 d6 hS z_9) (fun u12 d10 z_10 => ?_)
      refine pc_if (fun _ => ?_) (fun _ => ?_)
      · exact k_fX12_chord_J39 N g x0 x1 x2 d10 hS z_10
      · refine pc_if (fun _ => ?_) (fun _ => ?_)
        · refine pc_gd (fun c_11 => ?_)
          exact k_fX12_chord_J75 N g x0 x1 x2 (((dI d10 r3 (453 : Int32).toNatClampNeg) >>> (x1 &&& 31)) &&& 1) d10 hS z_10
        · refine pc_gd (fun c_12 => ?_)
          exact k_fX12_chord_J75 N g x0 x1 x2 (dI d10 r3 (((300 : Int32) + ((4 : Int32) * x1)) + x2).toNatClampNeg) d10 hS z_10
theorem k_fX12_macro_J74 (N : Nat) (g : Gs) (x0 : Nat) (x1 : Int32) (x2 : Int32) (z0 : Int32) (d : Ds) (hS : Shp g) (hZ : KL d) : pc (fX12_macro_J74 N g x0 x1 x2 z0 d) (fun _ d1 => KL d1) := by
  unfold fX12_macro_J74
  exact pc_some hZ
theorem k_fX12_macro (N : Nat) (g : Gs) (x0 : Nat) (x1 : Int32) (x2 : Int32) (d : Ds) (hS : Shp g) (hZ : KL d) : pc (fX12_macro N g x0 x1 x2 d) (fun _ d1 => KL d1) := by
  unfold fX12_macro
  refine pc_gd (fun c_1 => ?_)
  refine pc_ob (fun r2 e_2 => ?_)
  refine pc_gd (fun c_3 => ?_)
  refine pc_gd (fun c_4 => ?_)
  refine pc_cb (k_fX12_in N g x1 0 ((dI d r2 (11 : Int32).toNatClampNeg) - 1) d hS hZ) (fun u7 d5 z_5 => ?_)
  refine pc_if (fun _ => ?_) (fun _ => ?_)
  · exact pc_some z_5
  · refine pc_gd (fun c_6 => ?_)
    refine pc_bd (fun u10 e_7 => ?_)
    refine pc_if (fun _ => ?_) (fun _ => ?_)
    · exact k_fX12_macro_J74 N g x0 x1 x2 u10 d5 hS z_5
    · refine pc_cb (k_fX12_in N g x2 0 (u10 - 1) d5 hS z_5) (fun u14 d12 z_8 => ?_)
      refine pc_if (fun _ => ?_) (fun _ => ?_)
      · exact k_fX12_macro_J74 N g x0 x1 x2 (-1) d12 hS z_8
      · refine pc_gd (fun c_9 => ?_)
        exact k_fX12_macro_J74 N g x0 x1 x2 (dI d12 r2 ((((316 : Int32) + ((9 : Int32) * x1)) + 1) + x2).toNatClampNeg) d12 hS z_8
theorem k_fX12_ghosts_J25 (N : Nat) (g : Gs) (x0 : Nat) (x1 : Int32) (x2 : Int32) (d : Ds) (hS : Shp g) (hZ : KL d) : pc (fX12_ghosts_J25 N g x0 x1 x2 d) (fun _ d1 => KL d1) := by
  unfold fX12_ghosts_J25
  exact pc_some hZ
theorem k_fX12_bitsOf_B4 (N : Nat) (g : Gs) (x0 : Int32) (K4 : Int32 × Int32 × Ds → Option (Int32 × Ds)) (y1 : Int32) (y2 : Int32) (d : Ds) (hS : Shp g) (hZ : KL d) (hK4 : ∀ a, KL a.2.2 → pc (K4 a) (fun _ d1 => KL d1)) : pc (fX12_bitsOf_B4 N g x0 K4 y1 y2 d) (fun _ d1 => KL d1) := by
  unfold fX12_bitsOf_B4
  refine pc_if (fun _ => ?_) (fun _ => ?_)
  · exact pc_some hZ
  · refine pc_bd (fun u2 e_1 => ?_)
    refine pc_bd (fun u3 e_2 => ?_)
    exact hK4 _ hZ
theorem k_fX12_bitsOf_L4 (N : Nat) (g : Gs) (x0 : Int32) (hS : Shp g) (a0 : Int32) (a1 : Int32) (a2 : Ds) (hZ : KL a2) : pc (fX12_bitsOf_L4 N g x0 (a0, a1, a2)) (fun _ d1 => KL d1) := by
  unfold fX12_bitsOf_L4
  refine pc_lp (fun a => KL a.2.2) ?_ N (a0, a1, a2) hZ
  rintro K ⟨a0, a1, a2⟩ hZ hK
  exact k_fX12_bitsOf_B4 N g x0 K a0 a1 a2 hS hZ hK
theorem k_fX12_bitsOf (N : Nat) (g : Gs) (x0 : Int32) (d : Ds) (hS : Shp g) (hZ : KL d) : pc (fX12_bitsOf N g x0 d) (fun _ d1 => KL d1) := by
  unfold fX12_bitsOf
  exact k_fX12_bitsOf_L4 N g x0 hS 0 x0 d hZ
theorem k_fX12_ghosts_J69 (N : Nat) (g : Gs) (x0 : Nat) (x1 : Int32) (x2 : Int32) (z0 : Int32) (d : Ds) (hS : Shp g) (hZ : KL d) : pc (fX12_ghosts_J69 N g x0 x1 x2 z0 d) (fun _ d1 => KL d1) := by
  unfold fX12_ghosts_J69
  exact pc_some hZ
theorem k_fX12_ghosts (N : Nat) (g : Gs) (x0 : Nat) (x1 : Int32) (x2 : Int32) (d : Ds) (hS : Shp g) (hZ : KL d) : pc (fX12_ghosts N g x0 x1 x2 d) (fun _ d1 => KL d1) := by
  unfold fX12_ghosts
  refine pc_gd (fun c_1 => ?_)
  refine pc_cb (k_fX12_keysMany N g x0 d hS hZ) (fun u4 d2 z_2 => ?_)
  refine pc_cb (k_fX12_in N g x1 0 (((1 : Int32) <<< (u4 &&& 31)) - 1) d2 hS z_2) (fun u7 d5 z_3 => ?_)
  refine pc_if (fun _ => ?_) (fun _ => ?_)
  · exact k_fX12_ghosts_J25 N g x0 x1 x2 d5 hS z_3
  · refine pc_cb (k_fX12_in N g x2 0 2 d5 hS z_3) (fun u11 d9 z_4 => ?_)
    refine pc_if (fun _ => ?_) (fun _ => ?_)
    · exact k_fX12_ghosts_J25 N g x0 x1 x2 d9 hS z_4
    · refine pc_cb (k_fX12_seenBy N g x0 x1 d9 hS z_4) (fun u15 d13 z_5 => ?_)
      refine pc_if (fun _ => ?_) (fun _ => ?_)
      · refine pc_cb (k_fX12_bitsOf N g (u15 &&& (x1 ^^^ (-1))) d13 hS z_5) (fun u29 d27 z_6 => ?_)
        exact k_fX12_ghosts_J69 N g x0 x1 x2 u29 d27 hS z_6
      · refine pc_if (fun _ => ?_) (fun _ => ?_)
        · refine pc_cb (k_fX12_barredBy N g x0 u15 d13 hS z_5) (fun u23 d21 z_7 => ?_)
          refine pc_cb (k_fX12_bitsOf N g u23 d21 hS z_7) (fun u26 d24 z_8 => ?_)
          exact k_fX12_ghosts_J69 N g x0 x1 x2 u26 d24 hS z_8
        · refine pc_cb (k_fX12_laysParts N g x0 x1 d13 hS z_5) (fun u20 d18 z_9 => ?_)
          exact k_fX12_ghosts_J69 N g x0 x1 x2 u20 d18 hS z_9
theorem k_fX12_ahead_J26 (N : Nat) (g : Gs) (x0 : Nat) (x1 : Int32) (x2 : Int32) (d : Ds) (hS : Shp g) (hZ : KL d) : pc (fX12_ahead_J26 N g x0 x1 x2 d) (fun _ d1 => KL d1) := by
  unfold fX12_ahead_J26
  exact pc_some hZ
theorem k_fX12_ahead_B205 (N : Nat) (g : Gs) (x0 : Nat) (x1 : Int32) (x2 : Int32) (K205 : Int32 × Int32 × Ds → Option (Int32 × Ds)) (y3 : Int32) (y4 : Int32) (d : Ds) (hS : Shp g) (hZ : KL d) (hK205 : ∀ a, KL a.2.2 → pc (K205 a) (fun _ d1 => KL d1)) : pc (fX12_ahead_B205 N g x0 x1 x2 K205 y3 y4 d) (fun _ d1 => KL d1) := by
  unfold fX12_ahead_B205
  refine pc_if (fun _ => ?_) (fun _ => ?_)
  · exact pc_some hZ
  · refine pc_gd (fun c_1 => ?_)
    refine pc_ob (fun r30 e_2 => ?_)
    refine pc_ob (fun r31 e_3 => ?_)
    refine pc_gd (fun c_4 => ?_)
    refine pc_gd (fun c_5 => ?_)
    refine pc_gd (fun c_6 => ?_)
    refine pc_gd (fun c_7 => ?_)
    refine pc_bd (fun d36 e_8 => ?_)
    have z_9 := KL.f hZ e_8
    refine pc_bd (fun u37 e_10 => ?_)
    exact hK205 _ z_9
theorem k_fX12_ahead_L205 (N : Nat) (g : Gs) (x0 : Nat) (x1 : Int32) (x2 : Int32) (hS : Shp g) (a0 : Int32) (a1 : Int32) (a2 : Ds) (hZ : KL a2) : pc (fX12_ahead_L205 N g x0 x1 x2 (a0, a1, a2)) (fun _ d1 => KL d1) := by
  unfold fX12_ahead_L205
  refine pc_lp (fun a => KL a.2.2) ?_ N (a0, a1, a2) hZ
  rintro K ⟨a0, a1, a2⟩ hZ hK
  exact k_fX12_ahead_B205 N g x0 x1 x2 K a0 a1 a2 hS hZ hK
theorem k_fX12_ahead_B174 (N : Nat) (g : Gs) (x0 : Nat) (x1 : Int32) (x2 : Int32) (K174 : Int32 × Int32 × Ds → Option (Int32 × Ds)) (y3 : Int32) (y4 : Int32) (d : Ds) (hS : Shp g) (hZ : KL d) (hK174 : ∀ a, KL a.2.2 → pc (K174 a) (fun _ d1 => KL d1)) : pc (fX12_ahead_B174 N g x0 x1 x2 K174 y3 y4 d) (fun _ d1 => KL d1) := by
  unfold fX12_ahead_B174
  refine pc_if (fun _ => ?_) (fun _ => ?_)
  · exact k_fX12_ahead_L205 N g x0 x1 x2 hS y3 0 d hZ
  · refine pc_gd (fun c_1 => ?_)
    refine pc_ob (fun r39 e_2 => ?_)
    refine pc_ob (fun r40 e_3 => ?_)
    refine pc_gd (fun c_4 => ?_)
    refine pc_gd (fun c_5 => ?_)
    refine pc_gd (fun c_6 => ?_)
    refine pc_gd (fun c_7 => ?_)
    refine pc_bd (fun d45 e_8 => ?_)
    have z_9 := KL.i hZ e_8
    refine pc_bd (fun u46 e_10 => ?_)
    exact hK174 _ z_9
theorem k_fX12_ahead_L174 (N : Nat) (g : Gs) (x0 : Nat) (x1 : Int32) (x2 : Int32) (hS : Shp g) (a0 : Int32) (a1 : Int32) (a2 : Ds) (hZ : KL a2) : pc (fX12_ahead_L174 N g x0 x1 x2 (a0, a1, a2)) (fun _ d1 => KL d1) := by
  unfold fX12_ahead_L174
  refine pc_lp (fun a => KL a.2.2) ?_ N (a0, a1, a2) hZ
  rintro K ⟨a0, a1, a2⟩ hZ hK
  exact k_fX12_ahead_B174 N g x0 x1 x2 K a0 a1 a2 hS hZ hK
theorem k_fX12_ahead_J170 (N : Nat) (g : Gs) (x0 : Nat) (x1 : Int32) (x2 : Int32) (z0 : Int32) (d : Ds) (hS : Shp g) (hZ : KL d) : pc (fX12_ahead_J170 N g x0 x1 x2 z0 d) (fun _ d1 => KL d1) := by
  unfold fX12_ahead_J170
  exact k_fX12_ahead_L174 N g x0 x1 x2 hS z0 0 d hZ
theorem k_fX12_ahead_B83 (N : Nat) (g : Gs) (x0 : Nat) (x1 : Int32) (x2 : Int32) (K83 : Int32 × Ds → Option (Int32 × Ds)) (y3 : Int32) (d : Ds) (hS : Shp g) (hZ : KL d) (hK83 : ∀ a, KL a.2 → pc (K83 a) (fun _ d1 => KL d1)) : pc (fX12_ahead_B83 N g x0 x1 x2 K83 y3 d) (fun _ d1 => KL d1) := by
  unfold fX12_ahead_B83
  refine pc_if (fun _ => ?_) (fun _ => ?_)
  · refine pc_gd (fun c_1 => ?_)
    refine pc_cv (k_fX12_laysSent N g x0 d hS hZ) (fun d18 z_2 => ?_)
    refine pc_if (fun _ => ?_) (fun _ => ?_)
    · refine pc_ob (fun r50 e_3 => ?_)
      refine pc_gd (fun c_4 => ?_)
      refine pc_gd (fun c_5 => ?_)
      refine pc_ob (fun r53 e_6 => ?_)
      refine pc_gd (fun c_7 => ?_)
      refine pc_gd (fun c_8 => ?_)
      exact k_fX12_ahead_J170 N g x0 x1 x2 ((dI d18 r50 (555 : Int32).toNatClampNeg) - (dI d18 r53 (555 : Int32).toNatClampNeg)) d18 hS z_2
    · refine pc_if (fun _ => ?_) (fun _ => ?_)
      · exact k_fX12_ahead_J170 N g x0 x1 x2 (dI d18 x0 25) d18 hS z_2
      · refine pc_if (fun _ => ?_) (fun _ => ?_)
        · exact k_fX12_ahead_J170 N g x0 x1 x2 (dI d18 x0 26) d18 hS z_2
        · refine pc_if (fun _ => ?_) (fun _ => ?_)
          · refine pc_cb (k_fX12_activeLayers N g x0 d18 hS z_2) (fun u49 d47 z_9 => ?_)
            exact k_fX12_ahead_J170 N g x0 x1 x2 u49 d47 hS z_9
          · refine pc_ob (fun r24 e_10 => ?_)
            refine pc_gd (fun c_11 => ?_)
            refine pc_gd (fun c_12 => ?_)
            exact k_fX12_ahead_J170 N g x0 x1 x2 (dI d18 r24 (557 : Int32).toNatClampNeg) d18 hS z_2
  · refine pc_gd (fun c_13 => ?_)
    refine pc_cv (k_fX12_ticks N g x0 d hS hZ) (fun d57 z_14 => ?_)
    refine pc_bd (fun u59 e_15 => ?_)
    exact hK83 _ z_14
theorem k_fX12_ahead_L83 (N : Nat) (g : Gs) (x0 : Nat) (x1 : Int32) (x2 : Int32) (hS : Shp g) (a0 : Int32) (a1 : Ds) (hZ : KL a1) : pc (fX12_ahead_L83 N g x0 x1 x2 (a0, a1)) (fun _ d1 => KL d1) := by
  unfold fX12_ahead_L83
  refine pc_lp (fun a => KL a.2) ?_ N (a0, a1) hZ
  rintro K ⟨a0, a1⟩ hZ hK
  exact k_fX12_ahead_B83 N g x0 x1 x2 K a0 a1 hS hZ hK
theorem k_fX12_ahead_B57 (N : Nat) (g : Gs) (x0 : Nat) (x1 : Int32) (x2 : Int32) (K57 : Int32 × Ds → Option (Int32 × Ds)) (y3 : Int32) (d : Ds) (hS : Shp g) (hZ : KL d) (hK57 : ∀ a, KL a.2 → pc (K57 a) (fun _ d1 => KL d1)) : pc (fX12_ahead_B57 N g x0 x1 x2 K57 y3 d) (fun _ d1 => KL d1) := by
  unfold fX12_ahead_B57
  refine pc_if (fun _ => ?_) (fun _ => ?_)
  · exact k_fX12_ahead_L83 N g x0 x1 x2 hS 0 d hZ
  · refine pc_gd (fun c_1 => ?_)
    refine pc_ob (fun r61 e_2 => ?_)
    refine pc_ob (fun r62 e_3 => ?_)
    refine pc_gd (fun c_4 => ?_)
    refine pc_gd (fun c_5 => ?_)
    refine pc_gd (fun c_6 => ?_)
    refine pc_gd (fun c_7 => ?_)
    refine pc_bd (fun d67 e_8 => ?_)
    have z_9 := KL.f hZ e_8
    refine pc_bd (fun u68 e_10 => ?_)
    exact hK57 _ z_9
theorem k_fX12_ahead_L57 (N : Nat) (g : Gs) (x0 : Nat) (x1 : Int32) (x2 : Int32) (hS : Shp g) (a0 : Int32) (a1 : Ds) (hZ : KL a1) : pc (fX12_ahead_L57 N g x0 x1 x2 (a0, a1)) (fun _ d1 => KL d1) := by
  unfold fX12_ahead_L57
  refine pc_lp (fun a => KL a.2) ?_ N (a0, a1) hZ
  rintro K ⟨a0, a1⟩ hZ hK
  exact k_fX12_ahead_B57 N g x0 x1 x2 K a0 a1 hS hZ hK
theorem k_fX12_ahead_B30 (N : Nat) (g : Gs) (x0 : Nat) (x1 : Int32) (x2 : Int32) (K30 : Int32 × Ds → Option (Int32 × Ds)) (y3 : Int32) (d : Ds) (hS : Shp g) (hZ : KL d) (hK30 : ∀ a, KL a.2 → pc (K30 a) (fun _ d1 => KL d1)) : pc (fX12_ahead_B30 N g x0 x1 x2 K30 y3 d) (fun _ d1 => KL d1) := by
  unfold fX12_ahead_B30
  refine pc_if (fun _ => ?_) (fun _ => ?_)
  · exact k_fX12_ahead_L57 N g x0 x1 x2 hS 0 d hZ
  · refine pc_gd (fun c_1 => ?_)
    refine pc_ob (fun r70 e_2 => ?_)
    refine pc_ob (fun r71 e_3 => ?_)
    refine pc_gd (fun c_4 => ?_)
    refine pc_gd (fun c_5 => ?_)
    refine pc_gd (fun c_6 => ?_)
    refine pc_gd (fun c_7 => ?_)
    refine pc_bd (fun d76 e_8 => ?_)
    have z_9 := KL.i hZ e_8
    refine pc_bd (fun u77 e_10 => ?_)
    exact hK30 _ z_9
theorem k_fX12_ahead_L30 (N : Nat) (g : Gs) (x0 : Nat) (x1 : Int32) (x2 : Int32) (hS : Shp g) (a0 : Int32) (a1 : Ds) (hZ : KL a1) : pc (fX12_ahead_L30 N g x0 x1 x2 (a0, a1)) (fun _ d1 => KL d1) := by
  unfold fX12_ahead_L30
  refine pc_lp (fun a => KL a.2) ?_ N (a0, a1) hZ
  rintro K ⟨a0, a1⟩ hZ hK
  exact k_fX12_ahead_B30 N g x0 x1 x2 K a0 a1 hS hZ hK
theorem k_fX12_ahead (N : Nat) (g : Gs) (x0 : Nat) (x1 : Int32) (x2 : Int32) (d : Ds) (hS : Shp g) (hZ : KL d) : pc (fX12_ahead N g x0 x1 x2 d) (fun _ d1 => KL d1) := by
  unfold fX12_ahead
  refine pc_cb (k_fX12_in N g x1 1 120 d hS hZ) (fun u3 d1 z_1 => ?_)
  refine pc_if (fun _ => ?_) (fun _ => ?_)
  · exact k_fX12_ahead_J26 N g x0 x1 x2 d1 hS z_1
  · refine pc_cb (k_fX12_in N g x2 0 4 d1 hS z_1) (fun u7 d5 z_2 => ?_)
    refine pc_if (fun _ => ?_) (fun _ => ?_)
    · exact k_fX12_ahead_J26 N g x0 x1 x2 d5 hS z_2
    · refine pc_gd (fun c_3 => ?_)
      refine pc_cb (k_fX12_keysMany N g x0 d5 hS z_2) (fun u12 d10 z_4 => ?_)
      refine pc_if (fun _ => ?_) (fun _ => ?_)
      · exact k_fX12_ahead_J26 N g x0 x1 x2 d10 hS z_4
      · exact k_fX12_ahead_L30 N g x0 x1 x2 hS 0 d10 z_4
theorem k_fX12_hold_B46 (N : Nat) (g : Gs) (x0 : Nat) (x1 : Int32) (K46 : Int32 × Ds → Option (Int32 × Ds)) (y2 : Int32) (d : Ds) (hS : Shp g) (hZ : KL d) (hK46 : ∀ a, KL a.2 → pc (K46 a) (fun _ d1 => KL d1)) : pc (fX12_hold_B46 N g x0 x1 K46 y2 d) (fun _ d1 => KL d1) := by
  unfold fX12_hold_B46
  refine pc_if (fun _ => ?_) (fun _ => ?_)
  · refine pc_gd (fun c_1 => ?_)
    refine pc_ob (fun r8 e_2 => ?_)
    refine pc_gd (fun c_3 => ?_)
    refine pc_gd (fun c_4 => ?_)
    refine pc_bd (fun d11 e_5 => ?_)
    have z_6 := KL.i hZ e_5
    exact pc_some z_6
  · refine pc_gd (fun c_7 => ?_)
    refine pc_ob (fun r13 e_8 => ?_)
    refine pc_ob (fun r14 e_9 => ?_)
    refine pc_gd (fun c_10 => ?_)
    refine pc_gd (fun c_11 => ?_)
    refine pc_gd (fun c_12 => ?_)
    refine pc_gd (fun c_13 => ?_)
    refine pc_bd (fun d19 e_14 => ?_)
    have z_15 := KL.f hZ e_14
    refine pc_bd (fun u20 e_16 => ?_)
    exact hK46 _ z_15
theorem k_fX12_hold_L46 (N : Nat) (g : Gs) (x0 : Nat) (x1 : Int32) (hS : Shp g) (a0 : Int32) (a1 : Ds) (hZ : KL a1) : pc (fX12_hold_L46 N g x0 x1 (a0, a1)) (fun _ d1 => KL d1) := by
  unfold fX12_hold_L46
  refine pc_lp (fun a => KL a.2) ?_ N (a0, a1) hZ
  rintro K ⟨a0, a1⟩ hZ hK
  exact k_fX12_hold_B46 N g x0 x1 K a0 a1 hS hZ hK
theorem k_fX12_hold_B13 (N : Nat) (g : Gs) (x0 : Nat) (x1 : Int32) (K13 : Int32 × Ds → Option (Int32 × Ds)) (y2 : Int32) (d : Ds) (hS : Shp g) (hZ : KL d) (hK13 : ∀ a, KL a.2 → pc (K13 a) (fun _ d1 => KL d1)) : pc (fX12_hold_B13 N g x0 x1 K13 y2 d) (fun _ d1 => KL d1) := by
  unfold fX12_hold_B13
  refine pc_if (fun _ => ?_) (fun _ => ?_)
  · exact k_fX12_hold_L46 N g x0 x1 hS 0 d hZ
  · refine pc_gd (fun c_1 => ?_)
    refine pc_ob (fun r22 e_2 => ?_)
    refine pc_ob (fun r23 e_3 => ?_)
    refine pc_gd (fun c_4 => ?_)
    refine pc_gd (fun c_5 => ?_)
    refine pc_gd (fun c_6 => ?_)
    refine pc_gd (fun c_7 => ?_)
    refine pc_bd (fun d28 e_8 => ?_)
    have z_9 := KL.i hZ e_8
    refine pc_bd (fun u29 e_10 => ?_)
    exact hK13 _ z_9
theorem k_fX12_hold_L13 (N : Nat) (g : Gs) (x0 : Nat) (x1 : Int32) (hS : Shp g) (a0 : Int32) (a1 : Ds) (hZ : KL a1) : pc (fX12_hold_L13 N g x0 x1 (a0, a1)) (fun _ d1 => KL d1) := by
  unfold fX12_hold_L13
  refine pc_lp (fun a => KL a.2) ?_ N (a0, a1) hZ
  rintro K ⟨a0, a1⟩ hZ hK
  exact k_fX12_hold_B13 N g x0 x1 K a0 a1 hS hZ hK
theorem k_fX12_hold (N : Nat) (g : Gs) (x0 : Nat) (x1 : Int32) (d : Ds) (hS : Shp g) (hZ : KL d) : pc (fX12_hold N g x0 x1 d) (fun _ d1 => KL d1) := by
  unfold fX12_hold
  refine pc_cb (k_fX12_in N g x1 0 2 d hS hZ) (fun u3 d1 z_1 => ?_)
  refine pc_if (fun _ => ?_) (fun _ => ?_)
  · exact pc_some z_1
  · exact k_fX12_hold_L13 N g x0 x1 hS 0 d1 z_1
theorem k_fX12_restore_J18 (N : Nat) (g : Gs) (x0 : Nat) (x1 : Int32) (d : Ds) (hS : Shp g) (hZ : KL d) : pc (fX12_restore_J18 N g x0 x1 d) (fun _ d1 => KL d1) := by
  unfold fX12_restore_J18
  exact pc_some hZ
theorem k_fX12_restore_B55 (N : Nat) (g : Gs) (x0 : Nat) (x1 : Int32) (K55 : Int32 × Ds → Option (Int32 × Ds)) (y2 : Int32) (d : Ds) (hS : Shp g) (hZ : KL d) (hK55 : ∀ a, KL a.2 → pc (K55 a) (fun _ d1 => KL d1)) : pc (fX12_restore_B55 N g x0 x1 K55 y2 d) (fun _ d1 => KL d1) := by
  unfold fX12_restore_B55
  refine pc_if (fun _ => ?_) (fun _ => ?_)
  · exact pc_some hZ
  · refine pc_gd (fun c_1 => ?_)
    refine pc_ob (fun r13 e_2 => ?_)
    refine pc_ob (fun r14 e_3 => ?_)
    refine pc_gd (fun c_4 => ?_)
    refine pc_gd (fun c_5 => ?_)
    refine pc_gd (fun c_6 => ?_)
    refine pc_gd (fun c_7 => ?_)
    refine pc_bd (fun d19 e_8 => ?_)
    have z_9 := KL.f hZ e_8
    refine pc_bd (fun u20 e_10 => ?_)
    exact hK55 _ z_9
theorem k_fX12_restore_L55 (N : Nat) (g : Gs) (x0 : Nat) (x1 : Int32) (hS : Shp g) (a0 : Int32) (a1 : Ds) (hZ : KL a1) : pc (fX12_restore_L55 N g x0 x1 (a0, a1)) (fun _ d1 => KL d1) := by
  unfold fX12_restore_L55
  refine pc_lp (fun a => KL a.2) ?_ N (a0, a1) hZ
  rintro K ⟨a0, a1⟩ hZ hK
  exact k_fX12_restore_B55 N g x0 x1 K a0 a1 hS hZ hK
theorem k_fX12_restore_B22 (N : Nat) (g : Gs) (x0 : Nat) (x1 : Int32) (K22 : Int32 × Ds → Option (Int32 × Ds)) (y2 : Int32) (d : Ds) (hS : Shp g) (hZ : KL d) (hK22 : ∀ a, KL a.2 → pc (K22 a) (fun _ d1 => KL d1)) : pc (fX12_restore_B22 N g x0 x1 K22 y2 d) (fun _ d1 => KL d1) := by
  unfold fX12_restore_B22
  refine pc_if (fun _ => ?_) (fun _ => ?_)
  · exact k_fX12_restore_L55 N g x0 x1 hS 0 d hZ
  · refine pc_gd (fun c_1 => ?_)
    refine pc_ob (fun r22 e_2 => ?_)
    refine pc_ob (fun r23 e_3 => ?_)
    refine pc_gd (fun c_4 => ?_)
    refine pc_gd (fun c_5 => ?_)
    refine pc_gd (fun c_6 => ?_)
    refine pc_gd (fun c_7 => ?_)
    refine pc_bd (fun d28 e_8 => ?_)
    have z_9 := KL.i hZ e_8
    refine pc_bd (fun u29 e_10 => ?_)
    exact hK22 _ z_9
theorem k_fX12_restore_L22 (N : Nat) (g : Gs) (x0 : Nat) (x1 : Int32) (hS : Shp g) (a0 : Int32) (a1 : Ds) (hZ : KL a1) : pc (fX12_restore_L22 N g x0 x1 (a0, a1)) (fun _ d1 => KL d1) := by
  unfold fX12_restore_L22
  refine pc_lp (fun a => KL a.2) ?_ N (a0, a1) hZ
  rintro K ⟨a0, a1⟩ hZ hK
  exact k_fX12_restore_B22 N g x0 x1 K a0 a1 hS hZ hK
theorem k_fX12_restore (N : Nat) (g : Gs) (x0 : Nat) (x1 : Int32) (d : Ds) (hS : Shp g) (hZ : KL d) : pc (fX12_restore N g x0 x1 d) (fun _ d1 => KL d1) := by
  unfold fX12_restore
  refine pc_cb (k_fX12_in N g x1 0 2 d hS hZ) (fun u3 d1 z_1 => ?_)
  refine pc_if (fun _ => ?_) (fun _ => ?_)
  · exact k_fX12_restore_J18 N g x0 x1 d1 hS z_1
  · refine pc_gd (fun c_2 => ?_)
    refine pc_ob (fun r6 e_3 => ?_)
    refine pc_gd (fun c_4 => ?_)
    refine pc_gd (fun c_5 => ?_)
    refine pc_if (fun _ => ?_) (fun _ => ?_)
    · exact k_fX12_restore_J18 N g x0 x1 d1 hS z_1
    · exact k_fX12_restore_L22 N g x0 x1 hS 0 d1 z_1
theorem k_fX12_count_J255 (N : Nat) (g : Gs) (x0 : Nat) (x1 : Int32) (z0 : Int32) (z1 : Int32) (d : Ds) (hS : Shp g) (hZ : KL d) : pc (fX12_count_J255 N g x0 x1 z0 z1 d) (fun _ d1 => KL d1) := by
  unfold fX12_count_J255
  exact pc_some hZ
theorem k_fX12_count_J240 (N : Nat) (g : Gs) (x0 : Nat) (x1 : Int32) (z0 : Int32) (z1 : Int32) (d : Ds) (hS : Shp g) (hZ : KL d) : pc (fX12_count_J240 N g x0 x1 z0 z1 d) (fun _ d1 => KL d1) := by
  unfold fX12_count_J240
  refine pc_gd (fun c_1 => ?_)
  refine pc_ob (fun r80 e_2 => ?_)
  refine pc_gd (fun c_3 => ?_)
  refine pc_gd (fun c_4 => ?_)
  refine pc_if (fun _ => ?_) (fun _ => ?_)
  · exact k_fX12_count_J255 N g x0 x1 0 (z1 + z0) d hS hZ
  · exact k_fX12_count_J255 N g x0 x1 1 (z1 + z0) d hS hZ
theorem k_fX12_count_J226 (N : Nat) (g : Gs) (x0 : Nat) (x1 : Int32) (z0 : Int32) (d : Ds) (hS : Shp g) (hZ : KL d) : pc (fX12_count_J226 N g x0 x1 z0 d) (fun _ d1 => KL d1) := by
  unfold fX12_count_J226
  refine pc_gd (fun c_1 => ?_)
  refine pc_ob (fun r75 e_2 => ?_)
  refine pc_gd (fun c_3 => ?_)
  refine pc_gd (fun c_4 => ?_)
  refine pc_if (fun _ => ?_) (fun _ => ?_)
  · exact k_fX12_count_J240 N g x0 x1 0 z0 d hS hZ
  · exact k_fX12_count_J240 N g x0 x1 1 z0 d hS hZ
theorem k_fX12_count_J225 (N : Nat) (g : Gs) (x0 : Nat) (x1 : Int32) (d : Ds) (hS : Shp g) (hZ : KL d) : pc (fX12_count_J225 N g x0 x1 d) (fun _ d1 => KL d1) := by
  unfold fX12_count_J225
  exact k_fX12_count_J226 N g x0 x1 0 d hS hZ
theorem k_fX12_count (N : Nat) (g : Gs) (x0 : Nat) (x1 : Int32) (d : Ds) (hS : Shp g) (hZ : KL d) : pc (fX12_count N g x0 x1 d) (fun _ d1 => KL d1) := by
  unfold fX12_count
  refine pc_if (fun _ => ?_) (fun _ => ?_)
  · exact pc_some hZ
  · refine pc_if (fun _ => ?_) (fun _ => ?_)
    · refine pc_gd (fun c_1 => ?_)
      refine pc_ob (fun r4 e_2 => ?_)
      refine pc_gd (fun c_3 => ?_)
      refine pc_gd (fun c_4 => ?_)
      exact pc_some hZ
    · refine pc_if (fun _ => ?_) (fun _ => ?_)
      · refine pc_gd (fun c_5 => ?_)
        refine pc_ob (fun r9 e_6 => ?_)
        refine pc_gd (fun c_7 => ?_)
        refine pc_gd (fun c_8 => ?_)
        exact pc_some hZ
      · refine pc_if (fun _ => ?_) (fun _ => ?_)
        · refine pc_gd (fun c_9 => ?_)
          refine pc_ob (fun r14 e_10 => ?_)
          refine pc_gd (fun c_11 => ?_)
          refine pc_gd (fun c_12 => ?_)
          exact pc_some hZ
        · refine pc_if (fun _ => ?_) (fun _ => ?_)
          · refine pc_gd (fun c_13 => ?_)
            refine pc_ob (fun r19 e_14 => ?_)
            refine pc_gd (fun c_15 => ?_)
            refine pc_gd (fun c_16 => ?_)
            exact pc_some hZ
          · refine pc_if (fun _ => ?_) (fun _ => ?_)
            · refine pc_gd (fun c_17 => ?_)
              refine pc_cb (k_fX12_activeLayers N g x0 d hS hZ) (fun u26 d24 z_18 => ?_)
              exact pc_some z_18
            · refine pc_if (fun _ => ?_) (fun _ => ?_)
              · refine pc_gd (fun c_19 => ?_)
                refine pc_ob (fun r29 e_20 => ?_)
                refine pc_gd (fun c_21 => ?_)
                refine pc_gd (fun c_22 => ?_)
                exact pc_some hZ
              · refine pc_if (fun _ => ?_) (fun _ => ?_)
                · refine pc_gd (fun c_23 => ?_)
                  refine pc_ob (fun r34 e_24 => ?_)
                  refine pc_gd (fun c_25 => ?_)
                  refine pc_gd (fun c_26 => ?_)
                  exact pc_some hZ
                · refine pc_if (fun _ => ?_) (fun _ => ?_)
                  · refine pc_gd (fun c_27 => ?_)
                    refine pc_ob (fun r39 e_28 => ?_)
                    refine pc_gd (fun c_29 => ?_)
                    refine pc_gd (fun c_30 => ?_)
                    exact pc_some hZ
                  · refine pc_if (fun _ => ?_) (fun _ => ?_)
                    · refine pc_gd (fun c_31 => ?_)
                      refine pc_ob (fun r44 e_32 => ?_)
                      refine pc_gd (fun c_33 => ?_)
                      refine pc_gd (fun c_34 => ?_)
                      refine pc_cb (k_fX12_seenBy N g x0 (dI d r44 (352 : Int32).toNatClampNeg) d hS hZ) (fun u49 d47 z_35 => ?_)
                      exact pc_some z_35
                    · refine pc_if (fun _ => ?_) (fun _ => ?_)
                      · refine pc_gd (fun c_36 => ?_)
                        refine pc_ob (fun r52 e_37 => ?_)
                        refine pc_gd (fun c_38 => ?_)
                        refine pc_gd (fun c_39 => ?_)
                        refine pc_cb (k_fX12_seenBy N g x0 (dI d r52 (352 : Int32).toNatClampNeg) d hS hZ) (fun u57 d55 z_40 => ?_)
                        refine pc_cb (k_fX12_barredBy N g x0 u57 d55 hS z_40) (fun u60 d58 z_41 => ?_)
                        exact pc_some z_41
                      · refine pc_if (fun _ => ?_) (fun _ => ?_)
                        · refine pc_gd (fun c_42 => ?_)
                          refine pc_ob (fun r63 e_43 => ?_)
                          refine pc_gd (fun c_44 => ?_)
                          refine pc_gd (fun c_45 => ?_)
                          exact pc_some hZ
                        · refine pc_if (fun _ => ?_) (fun _ => ?_)
                          · refine pc_gd (fun c_46 => ?_)
                            exact pc_some hZ
                          · refine pc_if (fun _ => ?_) (fun _ => ?_)
                            · refine pc_gd (fun c_47 => ?_)
                              refine pc_ob (fun r70 e_48 => ?_)
                              refine pc_gd (fun c_49 => ?_)
                              refine pc_gd (fun c_50 => ?_)
                              refine pc_if (fun _ => ?_) (fun _ => ?_)
                              · exact k_fX12_count_J225 N g x0 x1 d hS hZ
                              · exact k_fX12_count_J226 N g x0 x1 1 d hS hZ
                            · refine pc_if (fun _ => ?_) (fun _ => ?_)
                              · refine pc_gd (fun c_51 => ?_)
                                refine pc_ob (fun r86 e_52 => ?_)
                                refine pc_gd (fun c_53 => ?_)
                                refine pc_gd (fun c_54 => ?_)
                                exact pc_some hZ
                              · refine pc_if (fun _ => ?_) (fun _ => ?_)
                                · refine pc_gd (fun c_55 => ?_)
                                  refine pc_ob (fun r91 e_56 => ?_)
                                  refine pc_gd (fun c_57 => ?_)
                                  refine pc_gd (fun c_58 => ?_)
                                  exact pc_some hZ
                                · refine pc_if (fun _ => ?_) (fun _ => ?_)
                                  · refine pc_gd (fun c_59 => ?_)
                                    refine pc_ob (fun r96 e_60 => ?_)
                                    refine pc_gd (fun c_61 => ?_)
                                    refine pc_gd (fun c_62 => ?_)
                                    exact pc_some hZ
                                  · refine pc_if (fun _ => ?_) (fun _ => ?_)
                                    · refine pc_gd (fun c_63 => ?_)
                                      refine pc_ob (fun r101 e_64 => ?_)
                                      refine pc_gd (fun c_65 => ?_)
                                      refine pc_gd (fun c_66 => ?_)
                                      exact pc_some hZ
                                    · refine pc_if (fun _ => ?_) (fun _ => ?_)
                                      · refine pc_gd (fun c_67 => ?_)
                                        refine pc_ob (fun r106 e_68 => ?_)
                                        refine pc_gd (fun c_69 => ?_)
                                        refine pc_gd (fun c_70 => ?_)
                                        exact pc_some hZ
                                      · refine pc_if (fun _ => ?_) (fun _ => ?_)
                                        · refine pc_gd (fun c_71 => ?_)
                                          refine pc_ob (fun r111 e_72 => ?_)
                                          refine pc_gd (fun c_73 => ?_)
                                          refine pc_gd (fun c_74 => ?_)
                                          exact pc_some hZ
                                        · refine pc_if (fun _ => ?_) (fun _ => ?_)
                                          · refine pc_gd (fun c_75 => ?_)
                                            refine pc_ob (fun r116 e_76 => ?_)
                                            refine pc_gd (fun c_77 => ?_)
                                            refine pc_gd (fun c_78 => ?_)
                                            exact pc_some hZ
                                          · refine pc_if (fun _ => ?_) (fun _ => ?_)
                                            · refine pc_gd (fun c_79 => ?_)
                                              refine pc_ob (fun r121 e_80 => ?_)
                                              refine pc_gd (fun c_81 => ?_)
                                              refine pc_gd (fun c_82 => ?_)
                                              exact pc_some hZ
                                            · refine pc_if (fun _ => ?_) (fun _ => ?_)
                                              · refine pc_gd (fun c_83 => ?_)
                                                refine pc_ob (fun r126 e_84 => ?_)
                                                refine pc_gd (fun c_85 => ?_)
                                                refine pc_gd (fun c_86 => ?_)
                                                exact pc_some hZ
                                              · exact pc_none
