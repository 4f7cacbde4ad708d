/-! what reading a text leaves alone until it is known to be good: the board and all that ticks, the model's row, what is held, the floats -/
def npb (r : Nat) : Bool := !(r == 0 || r == 117 || (decide (120 ≤ r) && decide (r ≤ 124)) || (decide (225 ≤ r) && decide (r ≤ 327)) || r == 336 || r == 338 || (decide (342 ≤ r) && decide (r ≤ 346)))
def NF (d d' : Ds) : Prop := (∀ r, npb r = false → ∀ j, dI d' r j = dI d r j) ∧ d'.2.1 = d.2.1
theorem NF.rf {d : Ds} : NF d d := ⟨fun _ _ _ => rfl, rfl⟩
theorem NF.tr {d dd d' : Ds} (h : NF d dd) (k : NF dd d') : NF d d' := ⟨fun r q j => (k.1 r q j).trans (h.1 r q j), k.2.trans h.2⟩
theorem NF.i {d0 d d1 : Ds} {r j : Nat} {v : Int32} (h : NF d0 d) (hr : npb r = true) (e : d1 = sI d r j v) : NF d0 d1 := by
  subst e
  refine ⟨fun r' q i => ?_, h.2⟩
  rw [sI_rd, if_neg (fun z => by rw [z.1, hr] at q; exact absurd q (by decide))]
  exact h.1 r' q i
theorem NF.l {d0 d d1 : Ds} {r j : Nat} {v : Int64} (h : NF d0 d) (e : d1 = sL d r j v) : NF d0 d1 := by
  subst e
  exact h
theorem NF.w {d0 d d1 : Ds} {r j : Nat} {v : Option Nat} (h : NF d0 d) (e : d1 = sW d r j v) : NF d0 d1 := by
  subst e
  exact h
theorem np_2 {g : Gs} (hS : Shp g) {r : Nat} (h : chk g r 2) : npb r = true := by
  have hr : r < 347 := by rw [← hS.1]; exact h.1
  have hk : tkd r = 2 := by rw [← (hS.2.1 r hr).1]; exact h.2
  have := List.all_eq_true.mp (show (List.range 347).all (fun r => tkd r != 2 || npb r) = true by decide +kernel) r (List.mem_range.mpr hr)
  rw [hk] at this
  exact this
theorem n_fX8_skipBlanks_J48 {d0 : Ds} (N : Nat) (g : Gs) (x1 : Nat) (x2 : Int32) (y3 : Int32) (d : Ds) (hS : Shp g) (hZ : NF d0 d) : pc (fX8_skipBlanks_J48 N g 3 x1 x2 y3 d) (fun _ d1 => NF d0 d1) := by
  unfold fX8_skipBlanks_J48
  exact pc_some hZ
theorem n_fX8_skipBlanks_J42 {d0 : Ds} (N : Nat) (g : Gs) (x1 : Nat) (x2 : Int32) (K2 : Int32 × Ds → Option (Int32 × Ds)) (y3 : Int32) (d : Ds) (hS : Shp g) (hZ : NF d0 d) (hK2 : ∀ a, NF d0 a.2 → pc (K2 a) (fun _ d1 => NF d0 d1)) : pc (fX8_skipBlanks_J42 N g 3 x1 x2 K2 y3 d) (fun _ d1 => NF d0 d1) := by
  unfold fX8_skipBlanks_J42
  refine pc_bd (fun u6 e_1 => ?_)
  exact hK2 _ hZ
theorem n_fX8_skipBlanks_B2 {d0 : Ds} (N : Nat) (g : Gs) (x1 : Nat) (x2 : Int32) (K2 : Int32 × Ds → Option (Int32 × Ds)) (y3 : Int32) (d : Ds) (hS : Shp g) (hZ : NF d0 d) (hK2 : ∀ a, NF d0 a.2 → pc (K2 a) (fun _ d1 => NF d0 d1)) : pc (fX8_skipBlanks_B2 N g 3 x1 x2 K2 y3 d) (fun _ d1 => NF d0 d1) := by
  unfold fX8_skipBlanks_B2
  refine pc_gd (fun c_1 => ?_)
  refine pc_if (fun _ => ?_) (fun _ => ?_)
  · exact n_fX8_skipBlanks_J48 N g x1 x2 y3 d hS hZ
  · refine pc_gd (fun c_2 => ?_)
    refine pc_gd (fun c_3 => ?_)
    refine pc_if (fun _ => ?_) (fun _ => ?_)
    · exact n_fX8_skipBlanks_J42 N g x1 x2 K2 y3 d hS hZ hK2
    · refine pc_if (fun _ => ?_) (fun _ => ?_)
      · exact n_fX8_skipBlanks_J42 N g x1 x2 K2 y3 d hS hZ hK2
      · refine pc_if (fun _ => ?_) (fun _ => ?_)
        · exact n_fX8_skipBlanks_J42 N g x1 x2 K2 y3 d hS hZ hK2
        · refine pc_if (fun _ => ?_) (fun _ => ?_)
          · exact n_fX8_skipBlanks_J42 N g x1 x2 K2 y3 d hS hZ hK2
          · exact n_fX8_skipBlanks_J48 N g x1 x2 y3 d hS hZ
theorem n_fX8_skipBlanks_L2 {d0 : Ds} (N : Nat) (g : Gs) (x1 : Nat) (x2 : Int32) (hS : Shp g) (a0 : Int32) (a1 : Ds) (hZ : NF d0 a1) : pc (fX8_skipBlanks_L2 N g 3 x1 x2 (a0, a1)) (fun _ d1 => NF d0 d1) := by
  unfold fX8_skipBlanks_L2
  refine pc_lp (fun a => NF d0 a.2) ?_ N (a0, a1) hZ
  rintro K ⟨a0, a1⟩ hZ hK
  exact n_fX8_skipBlanks_B2 N g x1 x2 K a0 a1 hS hZ hK
theorem n_fX8_skipBlanks {d0 : Ds} (N : Nat) (g : Gs) (x1 : Nat) (x2 : Int32) (d : Ds) (hS : Shp g) (hZ : NF d0 d) : pc (fX8_skipBlanks N g 3 x1 x2 d) (fun _ d1 => NF d0 d1) := by
  unfold fX8_skipBlanks
  exact n_fX8_skipBlanks_L2 N g x1 x2 hS x2 d hZ
theorem n_fX8_cut_J164 {d0 : Ds} (N : Nat) (g : Gs) (x1 : Nat) (x2 : Int32) (d : Ds) (hS : Shp g) (hZ : NF d0 d) : pc (fX8_cut_J164 N g 3 x1 x2 d) (fun _ d1 => NF d0 d1) := by
  unfold fX8_cut_J164
  exact pc_some hZ
theorem n_fX8_isLetter_J17 {d0 : Ds} (N : Nat) (g : Gs) (x0 : Int32) (z0 : Int32) (d : Ds) (hS : Shp g) (hZ : NF d0 d) : pc (fX8_isLetter_J17 N g x0 z0 d) (fun _ d1 => NF d0 d1) := by
  unfold fX8_isLetter_J17
  refine pc_gd (fun c_1 => ?_)
  exact pc_some hZ
theorem n_fX8_isLetter_J16 {d0 : Ds} (N : Nat) (g : Gs) (x0 : Int32) (d : Ds) (hS : Shp g) (hZ : NF d0 d) : pc (fX8_isLetter_J16 N g x0 d) (fun _ d1 => NF d0 d1) := by
  unfold fX8_isLetter_J16
  exact n_fX8_isLetter_J17 N g x0 0 d hS hZ
theorem n_fX8_isLetter {d0 : Ds} (N : Nat) (g : Gs) (x0 : Int32) (d : Ds) (hS : Shp g) (hZ : NF d0 d) : pc (fX8_isLetter N g x0 d) (fun _ d1 => NF d0 d1) := by
  unfold fX8_isLetter
  refine pc_if (fun _ => ?_) (fun _ => ?_)
  · exact n_fX8_isLetter_J16 N g x0 d hS hZ
  · refine pc_if (fun _ => ?_) (fun _ => ?_)
    · exact n_fX8_isLetter_J16 N g x0 d hS hZ
    · exact n_fX8_isLetter_J17 N g x0 1 d hS hZ
theorem n_fX8_isDigit_J17 {d0 : Ds} (N : Nat) (g : Gs) (x0 : Int32) (z0 : Int32) (d : Ds) (hS : Shp g) (hZ : NF d0 d) : pc (fX8_isDigit_J17 N g x0 z0 d) (fun _ d1 => NF d0 d1) := by
  unfold fX8_isDigit_J17
  refine pc_gd (fun c_1 => ?_)
  exact pc_some hZ
theorem n_fX8_isDigit_J16 {d0 : Ds} (N : Nat) (g : Gs) (x0 : Int32) (d : Ds) (hS : Shp g) (hZ : NF d0 d) : pc (fX8_isDigit_J16 N g x0 d) (fun _ d1 => NF d0 d1) := by
  unfold fX8_isDigit_J16
  exact n_fX8_isDigit_J17 N g x0 0 d hS hZ
theorem n_fX8_isDigit {d0 : Ds} (N : Nat) (g : Gs) (x0 : Int32) (d : Ds) (hS : Shp g) (hZ : NF d0 d) : pc (fX8_isDigit N g x0 d) (fun _ d1 => NF d0 d1) := by
  unfold fX8_isDigit
  refine pc_if (fun _ => ?_) (fun _ => ?_)
  · exact n_fX8_isDigit_J16 N g x0 d hS hZ
  · refine pc_if (fun _ => ?_) (fun _ => ?_)
    · exact n_fX8_isDigit_J16 N g x0 d hS hZ
    · exact n_fX8_isDigit_J17 N g x0 1 d hS hZ
theorem n_fX8_cut_J143 {d0 : Ds} (N : Nat) (g : Gs) (x1 : Nat) (x2 : Int32) (K28 : Int32 × Ds → Option (Unit × Ds)) (y4 : Int32) (d : Ds) (hS : Shp g) (hZ : NF d0 d) (hK28 : ∀ a, NF d0 a.2 → pc (K28 a) (fun _ d1 => NF d0 d1)) : pc (fX8_cut_J143 N g 3 x1 x2 K28 y4 d) (fun _ d1 => NF d0 d1) := by
  unfold fX8_cut_J143
  refine pc_gd (fun c_1 => ?_)
  refine pc_bd (fun d44 e_2 => ?_)
  have z_3 := NF.i hZ rfl e_2
  refine pc_cb (n_fX8_skipBlanks N g x1 y4 d44 hS z_3) (fun u47 d45 z_4 => ?_)
  exact hK28 _ z_4
theorem n_fX8_cut_J142 {d0 : Ds} (N : Nat) (g : Gs) (x1 : Nat) (x2 : Int32) (K28 : Int32 × Ds → Option (Unit × Ds)) (y4 : Int32) (z0 : Int32) (z1 : Int32) (d : Ds) (hS : Shp g) (hZ : NF d0 d) (hK28 : ∀ a, NF d0 a.2 → pc (K28 a) (fun _ d1 => NF d0 d1)) : pc (fX8_cut_J142 N g 3 x1 x2 K28 y4 z0 z1 4 d) (fun _ d1 => NF d0 d1) := by
  unfold fX8_cut_J142
  refine pc_gd (fun c_1 => ?_)
  refine pc_gd (fun c_2 => ?_)
  refine pc_bd (fun d42 e_3 => ?_)
  have z_4 := NF.i hZ rfl e_3
  exact n_fX8_cut_J143 N g x1 x2 K28 y4 d42 hS z_4 hK28
theorem n_fX8_cutInt_J69 {d0 : Ds} (N : Nat) (g : Gs) (x1 : Nat) (x2 : Int32) (y3 : Int32) (y4 : Int32) (z0 : Int32) (z1 : Int32) (d : Ds) (hS : Shp g) (hZ : NF d0 d) : pc (fX8_cutInt_J69 N g 3 x1 x2 y3 y4 z0 z1 4 d) (fun _ d1 => NF d0 d1) := by
  unfold fX8_cutInt_J69
  refine pc_gd (fun c_1 => ?_)
  refine pc_gd (fun c_2 => ?_)
  refine pc_bd (fun d8 e_3 => ?_)
  have z_4 := NF.i hZ rfl e_3
  refine pc_gd (fun c_5 => ?_)
  refine pc_ob (fun r10 e_6 => ?_)
  have t_7 := gq hS (e := 6) (by decide +kernel) e_6
  subst t_7
  refine pc_gd (fun c_8 => ?_)
  refine pc_gd (fun c_9 => ?_)
  refine pc_bd (fun d13 e_10 => ?_)
  have z_11 := NF.i z_4 rfl e_10
  exact pc_some z_11
theorem n_fX8_cutInt_J49 {d0 : Ds} (N : Nat) (g : Gs) (x1 : Nat) (x2 : Int32) (y3 : Int32) (y4 : Int32) (d : Ds) (hS : Shp g) (hZ : NF d0 d) : pc (fX8_cutInt_J49 N g 3 x1 x2 y3 y4 d) (fun _ d1 => NF d0 d1) := by
  unfold fX8_cutInt_J49
  refine pc_gd (fun c_1 => ?_)
  refine pc_ob (fun r4 e_2 => ?_)
  have t_3 := gq hS (e := 4) (by decide +kernel) e_2
  subst t_3
  refine pc_if (fun _ => ?_) (fun _ => ?_)
  · exact n_fX8_cutInt_J69 N g x1 x2 y3 y4 4 (dI d 3 4) d hS hZ
  · exact n_fX8_cutInt_J69 N g x1 x2 y3 y4 2 (dI d 3 4) d hS hZ
theorem n_fX8_cutInt_J43 {d0 : Ds} (N : Nat) (g : Gs) (x1 : Nat) (x2 : Int32) (K5 : Int32 × Int32 × Ds → Option (Int32 × Ds)) (y3 : Int32) (y4 : Int32) (d : Ds) (hS : Shp g) (hZ : NF d0 d) (hK5 : ∀ a, NF d0 a.2.2 → pc (K5 a) (fun _ d1 => NF d0 d1)) : pc (fX8_cutInt_J43 N g 3 x1 x2 K5 y3 y4 d) (fun _ d1 => NF d0 d1) := by
  unfold fX8_cutInt_J43
  refine pc_bd (fun u21 e_1 => ?_)
  exact hK5 _ hZ
theorem n_fX8_cutInt_B5 {d0 : Ds} (N : Nat) (g : Gs) (x1 : Nat) (x2 : Int32) (K5 : Int32 × Int32 × Ds → Option (Int32 × Ds)) (y3 : Int32) (y4 : Int32) (d : Ds) (hS : Shp g) (hZ : NF d0 d) (hK5 : ∀ a, NF d0 a.2.2 → pc (K5 a) (fun _ d1 => NF d0 d1)) : pc (fX8_cutInt_B5 N g 3 x1 x2 K5 y3 y4 d) (fun _ d1 => NF d0 d1) := by
  unfold fX8_cutInt_B5
  refine pc_gd (fun c_1 => ?_)
  refine pc_if (fun _ => ?_) (fun _ => ?_)
  · exact n_fX8_cutInt_J49 N g x1 x2 y3 y4 d hS hZ
  · refine pc_gd (fun c_2 => ?_)
    refine pc_gd (fun c_3 => ?_)
    refine pc_cb (n_fX8_isDigit N g (dI d x1 y3.toNatClampNeg) d hS hZ) (fun u18 d16 z_4 => ?_)
    refine pc_if (fun _ => ?_) (fun _ => ?_)
    · exact n_fX8_cutInt_J49 N g x1 x2 y3 y4 d16 hS z_4
    · refine pc_if (fun _ => ?_) (fun _ => ?_)
      · exact n_fX8_cutInt_J43 N g x1 x2 K5 y3 y4 d16 hS z_4 hK5
      · refine pc_bd (fun u22 e_5 => ?_)
        exact n_fX8_cutInt_J43 N g x1 x2 K5 y3 u22 d16 hS z_4 hK5
theorem n_fX8_cutInt_L5 {d0 : Ds} (N : Nat) (g : Gs) (x1 : Nat) (x2 : Int32) (hS : Shp g) (a0 : Int32) (a1 : Int32) (a2 : Ds) (hZ : NF d0 a2) : pc (fX8_cutInt_L5 N g 3 x1 x2 (a0, a1, a2)) (fun _ d1 => NF d0 d1) := by
  unfold fX8_cutInt_L5
  refine pc_lp (fun a => NF d0 a.2.2) ?_ N (a0, a1, a2) hZ
  rintro K ⟨a0, a1, a2⟩ hZ hK
  exact n_fX8_cutInt_B5 N g x1 x2 K a0 a1 a2 hS hZ hK
theorem n_fX8_cutInt {d0 : Ds} (N : Nat) (g : Gs) (x1 : Nat) (x2 : Int32) (d : Ds) (hS : Shp g) (hZ : NF d0 d) : pc (fX8_cutInt N g 3 x1 x2 d) (fun _ d1 => NF d0 d1) := by
  unfold fX8_cutInt
  exact n_fX8_cutInt_L5 N g x1 x2 hS x2 0 d hZ
theorem n_fJ0_coder_7d493_J14 {d0 : Ds} (N : Nat) (g : Gs) (x0 : Nat) (z0 : Int32) (d : Ds) (hS : Shp g) (hZ : NF d0 d) : pc (fJ0_coder_7d493_J14 N g x0 z0 d) (fun _ d1 => NF d0 d1) := by
  unfold fJ0_coder_7d493_J14
  refine pc_gd (fun c_1 => ?_)
  exact pc_some hZ
theorem n_fJ0_coder_7d493 {d0 : Ds} (N : Nat) (g : Gs) (x0 : Nat) (d : Ds) (hS : Shp g) (hZ : NF d0 d) : pc (fJ0_coder_7d493 N g x0 d) (fun _ d1 => NF d0 d1) := by
  unfold fJ0_coder_7d493
  refine pc_if (fun _ => ?_) (fun _ => ?_)
  · exact n_fJ0_coder_7d493_J14 N g x0 1 d hS hZ
  · refine pc_gd (fun c_1 => ?_)
    exact n_fJ0_coder_7d493_J14 N g x0 0 d hS hZ
theorem n_fJ0_length_8abf5 {d0 : Ds} (N : Nat) (g : Gs) (x0 : Nat) (d : Ds) (hS : Shp g) (hZ : NF d0 d) : pc (fJ0_length_8abf5 N g x0 d) (fun _ d1 => NF d0 d1) := by
  unfold fJ0_length_8abf5
  refine pc_gd (fun c_1 => ?_)
  refine pc_gd (fun c_2 => ?_)
  refine pc_cb (n_fJ0_coder_7d493 N g x0 d hS hZ) (fun u5 d3 z_3 => ?_)
  exact pc_some z_3
theorem n_fJ0_isLatin1_aae02_J18 {d0 : Ds} (N : Nat) (g : Gs) (x0 : Nat) (z0 : Int32) (d : Ds) (hS : Shp g) (hZ : NF d0 d) : pc (fJ0_isLatin1_aae02_J18 N g x0 z0 d) (fun _ d1 => NF d0 d1) := by
  unfold fJ0_isLatin1_aae02_J18
  refine pc_gd (fun c_1 => ?_)
  exact pc_some hZ
theorem n_fJ0_isLatin1_aae02_J17 {d0 : Ds} (N : Nat) (g : Gs) (x0 : Nat) (d : Ds) (hS : Shp g) (hZ : NF d0 d) : pc (fJ0_isLatin1_aae02_J17 N g x0 d) (fun _ d1 => NF d0 d1) := by
  unfold fJ0_isLatin1_aae02_J17
  exact n_fJ0_isLatin1_aae02_J18 N g x0 0 d hS hZ
theorem n_fJ0_isLatin1_aae02 {d0 : Ds} (N : Nat) (g : Gs) (x0 : Nat) (d : Ds) (hS : Shp g) (hZ : NF d0 d) : pc (fJ0_isLatin1_aae02 N g x0 d) (fun _ d1 => NF d0 d1) := by
  unfold fJ0_isLatin1_aae02
  refine pc_if (fun _ => ?_) (fun _ => ?_)
  · exact n_fJ0_isLatin1_aae02_J17 N g x0 d hS hZ
  · refine pc_gd (fun c_1 => ?_)
    refine pc_if (fun _ => ?_) (fun _ => ?_)
    · exact n_fJ0_isLatin1_aae02_J18 N g x0 1 d hS hZ
    · exact n_fJ0_isLatin1_aae02_J17 N g x0 d hS hZ
theorem n_fJ3_checkIndex_8e157_J9 {d0 : Ds} (N : Nat) (g : Gs) (x0 : Int32) (x1 : Int32) (x2 : Option Nat) (d : Ds) (hS : Shp g) (hZ : NF d0 d) : pc (fJ3_checkIndex_8e157_J9 N g x0 x1 x2 d) (fun _ d1 => NF d0 d1) := by
  unfold fJ3_checkIndex_8e157_J9
  exact pc_none
theorem n_fJ3_checkIndex_8e157 {d0 : Ds} (N : Nat) (g : Gs) (x0 : Int32) (x1 : Int32) (x2 : Option Nat) (d : Ds) (hS : Shp g) (hZ : NF d0 d) : pc (fJ3_checkIndex_8e157 N g x0 x1 x2 d) (fun _ d1 => NF d0 d1) := by
  unfold fJ3_checkIndex_8e157
  refine pc_if (fun _ => ?_) (fun _ => ?_)
  · exact n_fJ3_checkIndex_8e157_J9 N g x0 x1 x2 d hS hZ
  · refine pc_if (fun _ => ?_) (fun _ => ?_)
    · exact pc_some hZ
    · exact n_fJ3_checkIndex_8e157_J9 N g x0 x1 x2 d hS hZ
theorem n_fJ0_checkIndex_df160 {d0 : Ds} (N : Nat) (g : Gs) (x0 : Int32) (x1 : Int32) (d : Ds) (hS : Shp g) (hZ : NF d0 d) : pc (fJ0_checkIndex_df160 N g x0 x1 d) (fun _ d1 => NF d0 d1) := by
  unfold fJ0_checkIndex_df160
  refine pc_cb (n_fJ3_checkIndex_8e157 N g x0 x1 none d hS hZ) (fun u3 d1 z_1 => ?_)
  exact pc_some z_1
theorem n_fJ1_charAt_3b067 {d0 : Ds} (N : Nat) (g : Gs) (x0 : Nat) (x1 : Int32) (d : Ds) (hS : Shp g) (hZ : NF d0 d) : pc (fJ1_charAt_3b067 N g x0 x1 d) (fun _ d1 => NF d0 d1) := by
  unfold fJ1_charAt_3b067
  refine pc_gd (fun c_1 => ?_)
  refine pc_cv (n_fJ0_checkIndex_df160 N g x1 (Int32.ofNat (wsl (x0 - 100041))) d hS hZ) (fun d2 z_2 => ?_)
  refine pc_gd (fun c_3 => ?_)
  refine pc_gd (fun c_4 => ?_)
  exact pc_some z_2
theorem n_fJ0_charAt_5068e {d0 : Ds} (N : Nat) (g : Gs) (x0 : Nat) (x1 : Int32) (d : Ds) (hS : Shp g) (hZ : NF d0 d) : pc (fJ0_charAt_5068e N g x0 x1 d) (fun _ d1 => NF d0 d1) := by
  unfold fJ0_charAt_5068e
  refine pc_gd (fun c_1 => ?_)
  refine pc_cb (n_fJ0_isLatin1_aae02 N g x0 d hS hZ) (fun u4 d2 z_2 => ?_)
  refine pc_if (fun _ => ?_) (fun _ => ?_)
  · exact pc_none
  · refine pc_cb (n_fJ1_charAt_3b067 N g (x0 + 20) x1 d2 hS z_2) (fun u8 d6 z_3 => ?_)
    refine pc_gd (fun c_4 => ?_)
    exact pc_some z_3
theorem n_fX8_isSpelt_B15 {d0 : Ds} (N : Nat) (g : Gs) (x0 : Nat) (x1 : Nat) (x2 : Int32) (x3 : Int32) (K15 : Int32 × Ds → Option (Int32 × Ds)) (y4 : Int32) (d : Ds) (hS : Shp g) (hZ : NF d0 d) (hK15 : ∀ a, NF d0 a.2 → pc (K15 a) (fun _ d1 => NF d0 d1)) : pc (fX8_isSpelt_B15 N g x0 x1 x2 x3 K15 y4 d) (fun _ d1 => NF d0 d1) := by
  unfold fX8_isSpelt_B15
  refine pc_gd (fun c_1 => ?_)
  refine pc_cb (n_fJ0_length_8abf5 N g x0 d hS hZ) (fun u9 d7 z_2 => ?_)
  refine pc_if (fun _ => ?_) (fun _ => ?_)
  · exact pc_some z_2
  · refine pc_cb (n_fJ0_charAt_5068e N g x0 y4 d7 hS z_2) (fun u13 d11 z_3 => ?_)
    refine pc_gd (fun c_4 => ?_)
    refine pc_gd (fun c_5 => ?_)
    refine pc_if (fun _ => ?_) (fun _ => ?_)
    · refine pc_bd (fun u17 e_6 => ?_)
      exact hK15 _ z_3
    · exact pc_some z_3
theorem n_fX8_isSpelt_L15 {d0 : Ds} (N : Nat) (g : Gs) (x0 : Nat) (x1 : Nat) (x2 : Int32) (x3 : Int32) (hS : Shp g) (a0 : Int32) (a1 : Ds) (hZ : NF d0 a1) : pc (fX8_isSpelt_L15 N g x0 x1 x2 x3 (a0, a1)) (fun _ d1 => NF d0 d1) := by
  unfold fX8_isSpelt_L15
  refine pc_lp (fun a => NF d0 a.2) ?_ N (a0, a1) hZ
  rintro K ⟨a0, a1⟩ hZ hK
  exact n_fX8_isSpelt_B15 N g x0 x1 x2 x3 K a0 a1 hS hZ hK
theorem n_fX8_isSpelt {d0 : Ds} (N : Nat) (g : Gs) (x0 : Nat) (x1 : Nat) (x2 : Int32) (x3 : Int32) (d : Ds) (hS : Shp g) (hZ : NF d0 d) : pc (fX8_isSpelt N g x0 x1 x2 x3 d) (fun _ d1 => NF d0 d1) := by
  unfold fX8_isSpelt
  refine pc_gd (fun c_1 => ?_)
  refine pc_cb (n_fJ0_length_8abf5 N g x0 d hS hZ) (fun u4 d2 z_2 => ?_)
  refine pc_if (fun _ => ?_) (fun _ => ?_)
  · exact n_fX8_isSpelt_L15 N g x0 x1 x2 x3 hS 0 d2 z_2
  · exact pc_some z_2
theorem n_fX8_cutWord_J87 {d0 : Ds} (N : Nat) (g : Gs) (x1 : Nat) (x2 : Int32) (K48 : Int32 × Nat × Int32 × Int32 × Ds → Option (Int32 × Ds)) (y3 : Int32) (y4 : Nat) (y5 : Int32) (y6 : Int32) (d : Ds) (hS : Shp g) (hZ : NF d0 d) (hK48 : ∀ a, NF d0 a.2.2.2.2 → pc (K48 a) (fun _ d1 => NF d0 d1)) : pc (fX8_cutWord_J87 N g 3 x1 x2 K48 y3 y4 y5 y6 d) (fun _ d1 => NF d0 d1) := by
  unfold fX8_cutWord_J87
  refine pc_bd (fun u16 e_1 => ?_)
  exact hK48 _ hZ
theorem n_fX8_cutWord_B48 {d0 : Ds} (N : Nat) (g : Gs) (x1 : Nat) (x2 : Int32) (K48 : Int32 × Nat × Int32 × Int32 × Ds → Option (Int32 × Ds)) (y3 : Int32) (y4 : Nat) (y5 : Int32) (y6 : Int32) (d : Ds) (hS : Shp g) (hZ : NF d0 d) (hK48 : ∀ a, NF d0 a.2.2.2.2 → pc (K48 a) (fun _ d1 => NF d0 d1)) : pc (fX8_cutWord_B48 N g 3 x1 x2 K48 y3 y4 y5 y6 d) (fun _ d1 => NF d0 d1) := by
  unfold fX8_cutWord_B48
  refine pc_if (fun _ => ?_) (fun _ => ?_)
  · exact pc_some hZ
  · refine pc_gd (fun c_1 => ?_)
    refine pc_gd (fun c_2 => ?_)
    refine pc_gd (fun c_3 => ?_)
    refine pc_cb (n_fX8_isSpelt N g ((100000 + y6.toNatClampNeg) + 21) x1 x2 y3 d hS hZ) (fun u14 d12 z_4 => ?_)
    refine pc_if (fun _ => ?_) (fun _ => ?_)
    · exact n_fX8_cutWord_J87 N g x1 x2 K48 y3 y4 y5 y6 d12 hS z_4 hK48
    · refine pc_gd (fun c_5 => ?_)
      refine pc_ob (fun r18 e_6 => ?_)
      have t_7 := gq hS (e := 7) (by decide +kernel) e_6
      subst t_7
      refine pc_gd (fun c_8 => ?_)
      refine pc_gd (fun c_9 => ?_)
      refine pc_gd (fun c_10 => ?_)
      refine pc_bd (fun d22 e_11 => ?_)
      have z_12 := NF.w z_4 e_11
      exact n_fX8_cutWord_J87 N g x1 x2 K48 y3 y4 y5 y6 d22 hS z_12 hK48
theorem n_fX8_cutWord_L48 {d0 : Ds} (N : Nat) (g : Gs) (x1 : Nat) (x2 : Int32) (hS : Shp g) (a0 : Int32) (a1 : Nat) (a2 : Int32) (a3 : Int32) (a4 : Ds) (hZ : NF d0 a4) : pc (fX8_cutWord_L48 N g 3 x1 x2 (a0, a1, a2, a3, a4)) (fun _ d1 => NF d0 d1) := by
  unfold fX8_cutWord_L48
  refine pc_lp (fun a => NF d0 a.2.2.2.2) ?_ N (a0, a1, a2, a3, a4) hZ
  rintro K ⟨a0, a1, a2, a3, a4⟩ hZ hK
  exact n_fX8_cutWord_B48 N g x1 x2 K a0 a1 a2 a3 a4 hS hZ hK
theorem n_fX8_cutWord_J25 {d0 : Ds} (N : Nat) (g : Gs) (x1 : Nat) (x2 : Int32) (y3 : Int32) (d : Ds) (hS : Shp g) (hZ : NF d0 d) : pc (fX8_cutWord_J25 N g 3 x1 x2 y3 d) (fun _ d1 => NF d0 d1) := by
  unfold fX8_cutWord_J25
  refine pc_gd (fun c_1 => ?_)
  refine pc_ob (fun r4 e_2 => ?_)
  have t_3 := gq hS (e := 4) (by decide +kernel) e_2
  subst t_3
  refine pc_gd (fun c_4 => ?_)
  refine pc_gd (fun c_5 => ?_)
  refine pc_bd (fun d7 e_6 => ?_)
  have z_7 := NF.i hZ rfl e_6
  exact n_fX8_cutWord_L48 N g x1 x2 hS y3 100020 20 0 d7 z_7
theorem n_fX8_cutWord_B2 {d0 : Ds} (N : Nat) (g : Gs) (x1 : Nat) (x2 : Int32) (K2 : Int32 × Ds → Option (Int32 × Ds)) (y3 : Int32) (d : Ds) (hS : Shp g) (hZ : NF d0 d) (hK2 : ∀ a, NF d0 a.2 → pc (K2 a) (fun _ d1 => NF d0 d1)) : pc (fX8_cutWord_B2 N g 3 x1 x2 K2 y3 d) (fun _ d1 => NF d0 d1) := by
  unfold fX8_cutWord_B2
  refine pc_gd (fun c_1 => ?_)
  refine pc_if (fun _ => ?_) (fun _ => ?_)
  · exact n_fX8_cutWord_J25 N g x1 x2 y3 d hS hZ
  · refine pc_gd (fun c_2 => ?_)
    refine pc_gd (fun c_3 => ?_)
    refine pc_cb (n_fX8_isLetter N g (dI d x1 y3.toNatClampNeg) d hS hZ) (fun u27 d25 z_4 => ?_)
    refine pc_if (fun _ => ?_) (fun _ => ?_)
    · exact n_fX8_cutWord_J25 N g x1 x2 y3 d25 hS z_4
    · refine pc_bd (fun u29 e_5 => ?_)
      exact hK2 _ z_4
theorem n_fX8_cutWord_L2 {d0 : Ds} (N : Nat) (g : Gs) (x1 : Nat) (x2 : Int32) (hS : Shp g) (a0 : Int32) (a1 : Ds) (hZ : NF d0 a1) : pc (fX8_cutWord_L2 N g 3 x1 x2 (a0, a1)) (fun _ d1 => NF d0 d1) := by
  unfold fX8_cutWord_L2
  refine pc_lp (fun a => NF d0 a.2) ?_ N (a0, a1) hZ
  rintro K ⟨a0, a1⟩ hZ hK
  exact n_fX8_cutWord_B2 N g x1 x2 K a0 a1 hS hZ hK
theorem n_fX8_cutWord {d0 : Ds} (N : Nat) (g : Gs) (x1 : Nat) (x2 : Int32) (d : Ds) (hS : Shp g) (hZ : NF d0 d) : pc (fX8_cutWord N g 3 x1 x2 d) (fun _ d1 => NF d0 d1) := by
  unfold fX8_cutWord
  exact n_fX8_cutWord_L2 N g x1 x2 hS x2 d hZ
theorem n_fX8_cut_B28 {d0 : Ds} (N : Nat) (g : Gs) (x1 : Nat) (x2 : Int32) (K28 : Int32 × Ds → Option (Unit × Ds)) (y3 : Int32) (d : Ds) (hS : Shp g) (hZ : NF d0 d) (hK28 : ∀ a, NF d0 a.2 → pc (K28 a) (fun _ d1 => NF d0 d1)) : pc (fX8_cut_B28 N g 3 x1 x2 K28 y3 d) (fun _ d1 => NF d0 d1) := by
  unfold fX8_cut_B28
  refine pc_gd (fun c_1 => ?_)
  refine pc_if (fun _ => ?_) (fun _ => ?_)
  · exact n_fX8_cut_J164 N g x1 x2 d hS hZ
  · refine pc_if (fun _ => ?_) (fun _ => ?_)
    · exact n_fX8_cut_J164 N g x1 x2 d hS hZ
    · refine pc_ob (fun r14 e_2 => ?_)
      have t_3 := gq hS (e := 5) (by decide +kernel) e_2
      subst t_3
      refine pc_gd (fun c_4 => ?_)
      refine pc_gd (fun c_5 => ?_)
      refine pc_bd (fun d17 e_6 => ?_)
      have z_7 := NF.i hZ rfl e_6
      refine pc_ob (fun r18 e_8 => ?_)
      have t_9 := gq hS (e := 7) (by decide +kernel) e_8
      subst t_9
      refine pc_gd (fun c_10 => ?_)
      refine pc_gd (fun c_11 => ?_)
      refine pc_gd (fun c_12 => ?_)
      refine pc_bd (fun d22 e_13 => ?_)
      have z_14 := NF.w z_7 e_13
      refine pc_ob (fun r23 e_15 => ?_)
      have t_16 := gq hS (e := 6) (by decide +kernel) e_15
      subst t_16
      refine pc_gd (fun c_17 => ?_)
      refine pc_gd (fun c_18 => ?_)
      refine pc_bd (fun d26 e_19 => ?_)
      have z_20 := NF.i z_14 rfl e_19
      refine pc_bd (fun u27 e_21 => ?_)
      refine pc_gd (fun c_22 => ?_)
      refine pc_gd (fun c_23 => ?_)
      refine pc_cb (n_fX8_isLetter N g (dI d26 x1 y3.toNatClampNeg) d26 hS z_20) (fun u32 d30 z_24 => ?_)
      refine pc_if (fun _ => ?_) (fun _ => ?_)
      · refine pc_cb (n_fX8_isDigit N g (dI d30 x1 y3.toNatClampNeg) d30 hS z_24) (fun u36 d34 z_25 => ?_)
        refine pc_if (fun _ => ?_) (fun _ => ?_)
        · refine pc_ob (fun r38 e_26 => ?_)
          have t_27 := gq hS (e := 4) (by decide +kernel) e_26
          subst t_27
          refine pc_if (fun _ => ?_) (fun _ => ?_)
          · exact n_fX8_cut_J142 N g x1 x2 K28 u27 3 (dI d34 3 4) d34 hS z_25 hK28
          · exact n_fX8_cut_J142 N g x1 x2 K28 u27 4 (dI d34 3 4) d34 hS z_25 hK28
        · refine pc_cb (n_fX8_cutInt N g x1 y3 d34 hS z_25) (fun u50 d48 z_28 => ?_)
          exact n_fX8_cut_J143 N g x1 x2 K28 u50 d48 hS z_28 hK28
      · refine pc_cb (n_fX8_cutWord N g x1 y3 d30 hS z_24) (fun u53 d51 z_29 => ?_)
        exact n_fX8_cut_J143 N g x1 x2 K28 u53 d51 hS z_29 hK28
theorem n_fX8_cut_L28 {d0 : Ds} (N : Nat) (g : Gs) (x1 : Nat) (x2 : Int32) (hS : Shp g) (a0 : Int32) (a1 : Ds) (hZ : NF d0 a1) : pc (fX8_cut_L28 N g 3 x1 x2 (a0, a1)) (fun _ d1 => NF d0 d1) := by
  unfold fX8_cut_L28
  refine pc_lp (fun a => NF d0 a.2) ?_ N (a0, a1) hZ
  rintro K ⟨a0, a1⟩ hZ hK
  exact n_fX8_cut_B28 N g x1 x2 K a0 a1 hS hZ hK
theorem n_fX8_cut_J18 {d0 : Ds} (N : Nat) (g : Gs) (x1 : Nat) (x2 : Int32) (z0 : Int32) (d : Ds) (hS : Shp g) (hZ : NF d0 d) : pc (fX8_cut_J18 N g 3 x1 x2 z0 3 d) (fun _ d1 => NF d0 d1) := by
  unfold fX8_cut_J18
  refine pc_gd (fun c_1 => ?_)
  refine pc_bd (fun d6 e_2 => ?_)
  have z_3 := NF.i hZ rfl e_2
  refine pc_gd (fun c_4 => ?_)
  refine pc_cb (n_fX8_skipBlanks N g x1 0 d6 hS z_3) (fun u10 d8 z_5 => ?_)
  exact n_fX8_cut_L28 N g x1 x2 hS u10 d8 z_5
theorem n_fX8_cut {d0 : Ds} (N : Nat) (g : Gs) (x1 : Nat) (x2 : Int32) (d : Ds) (hS : Shp g) (hZ : NF d0 d) : pc (fX8_cut N g 3 x1 x2 d) (fun _ d1 => NF d0 d1) := by
  unfold fX8_cut
  refine pc_gd (fun c_1 => ?_)
  refine pc_bd (fun d2 e_2 => ?_)
  have z_3 := NF.i hZ rfl e_2
  refine pc_gd (fun c_4 => ?_)
  refine pc_if (fun _ => ?_) (fun _ => ?_)
  · exact n_fX8_cut_J18 N g x1 x2 (Int32.ofNat (gL g x1)) d2 hS z_3
  · exact n_fX8_cut_J18 N g x1 x2 x2 d2 hS z_3
theorem n_fX2_tell {d0 : Ds} (N : Nat) (g : Gs) (x0 : Nat) (x1 : Int32) (x2 : Int32) (x3 : Int32) (d : Ds) (hS : Shp g) (hZ : NF d0 d) : pc (fX2_tell N g x0 x1 x2 x3 d) (fun _ d1 => NF d0 d1) := by
  unfold fX2_tell
  refine pc_gd (fun c_1 => ?_)
  refine pc_bd (fun d2 e_2 => ?_)
  have z_3 := NF.i hZ (np_2 hS c_1) e_2
  refine pc_bd (fun d3 e_4 => ?_)
  have z_5 := NF.i z_3 (np_2 hS c_1) e_4
  refine pc_bd (fun d4 e_6 => ?_)
  have z_7 := NF.i z_5 (np_2 hS c_1) e_6
  exact pc_some z_7
theorem n_fX0_clear_J81 {d0 : Ds} (N : Nat) (g : Gs) (K55 : Int32 × Ds → Option (Unit × Ds)) (y1 : Int32) (z0 : Int32) (z1 : Nat) (d : Ds) (hS : Shp g) (hZ : NF d0 d) (hK55 : ∀ a, NF d0 a.2 → pc (K55 a) (fun _ d1 => NF d0 d1)) : pc (fX0_clear_J81 N g 9 K55 y1 z0 z1 d) (fun _ d1 => NF d0 d1) := by
  unfold fX0_clear_J81
  refine pc_gd (fun c_1 => ?_)
  refine pc_cv (n_fX2_tell N g z1 z0 (-1) (-1) d hS hZ) (fun d22 z_2 => ?_)
  refine pc_bd (fun u24 e_3 => ?_)
  exact hK55 _ z_2
theorem n_fX0_clear_B55 {d0 : Ds} (N : Nat) (g : Gs) (K55 : Int32 × Ds → Option (Unit × Ds)) (y1 : Int32) (d : Ds) (hS : Shp g) (hZ : NF d0 d) (hK55 : ∀ a, NF d0 a.2 → pc (K55 a) (fun _ d1 => NF d0 d1)) : pc (fX0_clear_B55 N g 9 K55 y1 d) (fun _ d1 => NF d0 d1) := by
  unfold fX0_clear_B55
  refine pc_gd (fun c_1 => ?_)
  refine pc_ob (fun r13 e_2 => ?_)
  have t_3 := gq hS (e := 10) (by decide +kernel) e_2
  subst t_3
  refine pc_gd (fun c_4 => ?_)
  refine pc_if (fun _ => ?_) (fun _ => ?_)
  · refine pc_bd (fun d16 e_5 => ?_)
    have z_6 := NF.i hZ rfl e_5
    refine pc_bd (fun d17 e_7 => ?_)
    have z_8 := NF.i z_6 rfl e_7
    exact pc_some z_8
  · refine pc_gd (fun c_9 => ?_)
    refine pc_ob (fun r19 e_10 => ?_)
    refine pc_if (fun _ => ?_) (fun _ => ?_)
    · exact n_fX0_clear_J81 N g K55 y1 5 r19 d hS hZ hK55
    · exact n_fX0_clear_J81 N g K55 y1 4 r19 d hS hZ hK55
theorem n_fX0_clear_L55 {d0 : Ds} (N : Nat) (g : Gs) (hS : Shp g) (a0 : Int32) (a1 : Ds) (hZ : NF d0 a1) : pc (fX0_clear_L55 N g 9 (a0, a1)) (fun _ d1 => NF d0 d1) := by
  unfold fX0_clear_L55
  refine pc_lp (fun a => NF d0 a.2) ?_ N (a0, a1) hZ
  rintro K ⟨a0, a1⟩ hZ hK
  exact n_fX0_clear_B55 N g K a0 a1 hS hZ hK
theorem n_fX0_clear {d0 : Ds} (N : Nat) (g : Gs) (d : Ds) (hS : Shp g) (hZ : NF d0 d) : pc (fX0_clear N g 9 d) (fun _ d1 => NF d0 d1) := by
  unfold fX0_clear
  refine pc_gd (fun c_1 => ?_)
  refine pc_bd (fun d2 e_2 => ?_)
  have z_3 := NF.i hZ rfl e_2
  refine pc_bd (fun d3 e_4 => ?_)
  have z_5 := NF.i z_3 rfl e_4
  refine pc_bd (fun d4 e_6 => ?_)
  have z_7 := NF.i z_5 rfl e_6
  refine pc_bd (fun d5 e_8 => ?_)
  have z_9 := NF.i z_7 rfl e_8
  refine pc_bd (fun d6 e_10 => ?_)
  have z_11 := NF.i z_9 rfl e_10
  refine pc_bd (fun d7 e_12 => ?_)
  have z_13 := NF.i z_11 rfl e_12
  refine pc_bd (fun d8 e_14 => ?_)
  have z_15 := NF.i z_13 rfl e_14
  refine pc_bd (fun d9 e_16 => ?_)
  have z_17 := NF.i z_15 rfl e_16
  refine pc_bd (fun d10 e_18 => ?_)
  have z_19 := NF.i z_17 rfl e_18
  refine pc_bd (fun d11 e_20 => ?_)
  have z_21 := NF.i z_19 rfl e_20
  exact n_fX0_clear_L55 N g hS 0 d11 z_21
theorem n_fX8_wordAt_J22 {d0 : Ds} (N : Nat) (g : Gs) (x1 : Int32) (z0 : Option Nat) (d : Ds) (hS : Shp g) (hZ : NF d0 d) : pc (fX8_wordAt_J22 N g 3 x1 z0 d) (fun _ d1 => NF d0 d1) := by
  unfold fX8_wordAt_J22
  exact pc_some hZ
theorem n_fX8_wordAt_J21 {d0 : Ds} (N : Nat) (g : Gs) (x1 : Int32) (d : Ds) (hS : Shp g) (hZ : NF d0 d) : pc (fX8_wordAt_J21 N g 3 x1 d) (fun _ d1 => NF d0 d1) := by
  unfold fX8_wordAt_J21
  exact n_fX8_wordAt_J22 N g x1 none d hS hZ
theorem n_fX8_wordAt {d0 : Ds} (N : Nat) (g : Gs) (x1 : Int32) (d : Ds) (hS : Shp g) (hZ : NF d0 d) : pc (fX8_wordAt N g 3 x1 d) (fun _ d1 => NF d0 d1) := by
  unfold fX8_wordAt
  refine pc_if (fun _ => ?_) (fun _ => ?_)
  · exact n_fX8_wordAt_J21 N g x1 d hS hZ
  · refine pc_gd (fun c_1 => ?_)
    refine pc_if (fun _ => ?_) (fun _ => ?_)
    · exact n_fX8_wordAt_J21 N g x1 d hS hZ
    · refine pc_ob (fun r4 e_2 => ?_)
      have t_3 := gq hS (e := 7) (by decide +kernel) e_2
      subst t_3
      refine pc_gd (fun c_4 => ?_)
      refine pc_gd (fun c_5 => ?_)
      refine pc_bd (fun u7 e_6 => ?_)
      exact n_fX8_wordAt_J22 N g x1 u7 d hS hZ
theorem n_fX8_kindAt_J22 {d0 : Ds} (N : Nat) (g : Gs) (x1 : Int32) (z0 : Int32) (d : Ds) (hS : Shp g) (hZ : NF d0 d) : pc (fX8_kindAt_J22 N g 3 x1 z0 d) (fun _ d1 => NF d0 d1) := by
  unfold fX8_kindAt_J22
  exact pc_some hZ
theorem n_fX8_kindAt_J21 {d0 : Ds} (N : Nat) (g : Gs) (x1 : Int32) (d : Ds) (hS : Shp g) (hZ : NF d0 d) : pc (fX8_kindAt_J21 N g 3 x1 d) (fun _ d1 => NF d0 d1) := by
  unfold fX8_kindAt_J21
  exact n_fX8_kindAt_J22 N g x1 0 d hS hZ
theorem n_fX8_kindAt {d0 : Ds} (N : Nat) (g : Gs) (x1 : Int32) (d : Ds) (hS : Shp g) (hZ : NF d0 d) : pc (fX8_kindAt N g 3 x1 d) (fun _ d1 => NF d0 d1) := by
  unfold fX8_kindAt
  refine pc_if (fun _ => ?_) (fun _ => ?_)
  · exact n_fX8_kindAt_J21 N g x1 d hS hZ
  · refine pc_gd (fun c_1 => ?_)
    refine pc_if (fun _ => ?_) (fun _ => ?_)
    · exact n_fX8_kindAt_J21 N g x1 d hS hZ
    · refine pc_ob (fun r4 e_2 => ?_)
      have t_3 := gq hS (e := 4) (by decide +kernel) e_2
      subst t_3
      refine pc_gd (fun c_4 => ?_)
      refine pc_gd (fun c_5 => ?_)
      exact n_fX8_kindAt_J22 N g x1 (dI d 4 x1.toNatClampNeg) d hS hZ
theorem n_fX7_fail {d0 : Ds} (N : Nat) (g : Gs) (x1 : Int32) (d : Ds) (hS : Shp g) (hZ : NF d0 d) : pc (fX7_fail N g 2 x1 d) (fun _ d1 => NF d0 d1) := by
  unfold fX7_fail
  refine pc_gd (fun c_1 => ?_)
  refine pc_bd (fun d2 e_2 => ?_)
  have z_3 := NF.i hZ rfl e_2
  refine pc_bd (fun d3 e_4 => ?_)
  have z_5 := NF.i z_3 rfl e_4
  exact pc_some z_5
theorem n_fX7_takeToken {d0 : Ds} (N : Nat) (g : Gs) (x1 : Int32) (d : Ds) (hS : Shp g) (hZ : NF d0 d) : pc (fX7_takeToken N g 2 x1 d) (fun _ d1 => NF d0 d1) := by
  unfold fX7_takeToken
  refine pc_gd (fun c_1 => ?_)
  refine pc_ob (fun r2 e_2 => ?_)
  have t_3 := gq hS (e := 3) (by decide +kernel) e_2
  subst t_3
  refine pc_gd (fun c_4 => ?_)
  refine pc_cb (n_fX8_kindAt N g (dI d 2 3) d hS hZ) (fun u6 d4 z_5 => ?_)
  refine pc_if (fun _ => ?_) (fun _ => ?_)
  · refine pc_if (fun _ => ?_) (fun _ => ?_)
    · refine pc_bd (fun d9 e_6 => ?_)
      have z_7 := NF.i z_5 rfl e_6
      exact pc_some z_7
    · refine pc_cb (n_fX7_fail N g 2 d4 hS z_5) (fun u12 d10 z_8 => ?_)
      refine pc_gd (fun c_9 => ?_)
      exact pc_some z_8
  · refine pc_cb (n_fX7_fail N g 1 d4 hS z_5) (fun u16 d14 z_10 => ?_)
    refine pc_gd (fun c_11 => ?_)
    exact pc_some z_10
theorem n_fX7_takeBoard_J40 {d0 : Ds} (N : Nat) (g : Gs) (d : Ds) (hS : Shp g) (hZ : NF d0 d) : pc (fX7_takeBoard_J40 N g 2 d) (fun _ d1 => NF d0 d1) := by
  unfold fX7_takeBoard_J40
  exact pc_some hZ
theorem n_fX8_numberAt_J22 {d0 : Ds} (N : Nat) (g : Gs) (x1 : Int32) (z0 : Int32) (d : Ds) (hS : Shp g) (hZ : NF d0 d) : pc (fX8_numberAt_J22 N g 3 x1 z0 d) (fun _ d1 => NF d0 d1) := by
  unfold fX8_numberAt_J22
  exact pc_some hZ
theorem n_fX8_numberAt_J21 {d0 : Ds} (N : Nat) (g : Gs) (x1 : Int32) (d : Ds) (hS : Shp g) (hZ : NF d0 d) : pc (fX8_numberAt_J21 N g 3 x1 d) (fun _ d1 => NF d0 d1) := by
  unfold fX8_numberAt_J21
  exact n_fX8_numberAt_J22 N g x1 0 d hS hZ
theorem n_fX8_numberAt {d0 : Ds} (N : Nat) (g : Gs) (x1 : Int32) (d : Ds) (hS : Shp g) (hZ : NF d0 d) : pc (fX8_numberAt N g 3 x1 d) (fun _ d1 => NF d0 d1) := by
  unfold fX8_numberAt
  refine pc_if (fun _ => ?_) (fun _ => ?_)
  · exact n_fX8_numberAt_J21 N g x1 d hS hZ
  · refine pc_gd (fun c_1 => ?_)
    refine pc_if (fun _ => ?_) (fun _ => ?_)
    · exact n_fX8_numberAt_J21 N g x1 d hS hZ
    · refine pc_ob (fun r4 e_2 => ?_)
      have t_3 := gq hS (e := 6) (by decide +kernel) e_2
      subst t_3
      refine pc_gd (fun c_4 => ?_)
      refine pc_gd (fun c_5 => ?_)
      exact n_fX8_numberAt_J22 N g x1 (dI d 6 x1.toNatClampNeg) d hS hZ
theorem n_fX7_noteLater_J17 {d0 : Ds} (N : Nat) (g : Gs) (x1 : Int32) (x2 : Int32) (d : Ds) (hS : Shp g) (hZ : NF d0 d) : pc (fX7_noteLater_J17 N g 2 x1 x2 d) (fun _ d1 => NF d0 d1) := by
  unfold fX7_noteLater_J17
  exact pc_some hZ
theorem n_fX7_noteLater {d0 : Ds} (N : Nat) (g : Gs) (x1 : Int32) (x2 : Int32) (d : Ds) (hS : Shp g) (hZ : NF d0 d) : pc (fX7_noteLater N g 2 x1 x2 d) (fun _ d1 => NF d0 d1) := by
  unfold fX7_noteLater
  refine pc_gd (fun c_1 => ?_)
  refine pc_if (fun _ => ?_) (fun _ => ?_)
  · refine pc_bd (fun d3 e_2 => ?_)
    have z_3 := NF.i hZ rfl e_2
    refine pc_bd (fun d4 e_4 => ?_)
    have z_5 := NF.i z_3 rfl e_4
    exact n_fX7_noteLater_J17 N g x1 x2 d4 hS z_5
  · exact n_fX7_noteLater_J17 N g x1 x2 d hS hZ
theorem n_fX7_takeNumber_J52 {d0 : Ds} (N : Nat) (g : Gs) (x1 : Int32) (x2 : Int32) (d : Ds) (hS : Shp g) (hZ : NF d0 d) : pc (fX7_takeNumber_J52 N g 2 x1 x2 d) (fun _ d1 => NF d0 d1) := by
  unfold fX7_takeNumber_J52
  exact pc_some hZ
theorem n_fX7_takeNumber_J41 {d0 : Ds} (N : Nat) (g : Gs) (x1 : Int32) (x2 : Int32) (d : Ds) (hS : Shp g) (hZ : NF d0 d) : pc (fX7_takeNumber_J41 N g 2 x1 x2 d) (fun _ d1 => NF d0 d1) := by
  unfold fX7_takeNumber_J41
  refine pc_gd (fun c_1 => ?_)
  refine pc_cv (n_fX7_noteLater N g 5 ((dI d 2 3) - 1) d hS hZ) (fun d14 z_2 => ?_)
  exact n_fX7_takeNumber_J52 N g x1 x2 d14 hS z_2
theorem n_fX7_takeNumber {d0 : Ds} (N : Nat) (g : Gs) (x1 : Int32) (x2 : Int32) (d : Ds) (hS : Shp g) (hZ : NF d0 d) : pc (fX7_takeNumber N g 2 x1 x2 d) (fun _ d1 => NF d0 d1) := by
  unfold fX7_takeNumber
  refine pc_gd (fun c_1 => ?_)
  refine pc_ob (fun r2 e_2 => ?_)
  have t_3 := gq hS (e := 3) (by decide +kernel) e_2
  subst t_3
  refine pc_gd (fun c_4 => ?_)
  refine pc_cb (n_fX8_numberAt N g (dI d 2 3) d hS hZ) (fun u6 d4 z_5 => ?_)
  refine pc_bd (fun d7 e_6 => ?_)
  have z_7 := NF.i z_5 rfl e_6
  refine pc_cb (n_fX7_takeToken N g 2 d7 hS z_7) (fun u10 d8 z_8 => ?_)
  refine pc_if (fun _ => ?_) (fun _ => ?_)
  · exact pc_some z_8
  · refine pc_if (fun _ => ?_) (fun _ => ?_)
    · exact n_fX7_takeNumber_J41 N g x1 x2 d8 hS z_8
    · refine pc_if (fun _ => ?_) (fun _ => ?_)
      · exact n_fX7_takeNumber_J52 N g x1 x2 d8 hS z_8
      · exact n_fX7_takeNumber_J41 N g x1 x2 d8 hS z_8
theorem n_fX7_takeBoard {d0 : Ds} (N : Nat) (g : Gs) (d : Ds) (hS : Shp g) (hZ : NF d0 d) : pc (fX7_takeBoard N g 2 d) (fun _ d1 => NF d0 d1) := by
  unfold fX7_takeBoard
  refine pc_gd (fun c_1 => ?_)
  refine pc_ob (fun r2 e_2 => ?_)
  have t_3 := gq hS (e := 3) (by decide +kernel) e_2
  subst t_3
  refine pc_gd (fun c_4 => ?_)
  refine pc_cb (n_fX8_wordAt N g (dI d 2 3) d hS hZ) (fun u6 d4 z_5 => ?_)
  refine pc_gd (fun c_6 => ?_)
  refine pc_gd (fun c_7 => ?_)
  refine pc_if (fun _ => ?_) (fun _ => ?_)
  · refine pc_cb (n_fX7_takeToken N g 1 d4 hS z_5) (fun u12 d10 z_8 => ?_)
    refine pc_if (fun _ => ?_) (fun _ => ?_)
    · exact n_fX7_takeBoard_J40 N g d10 hS z_8
    · refine pc_cb (n_fX7_takeNumber N g 1 4 d10 hS z_8) (fun u16 d14 z_9 => ?_)
      refine pc_if (fun _ => ?_) (fun _ => ?_)
      · exact n_fX7_takeBoard_J40 N g d14 hS z_9
      · refine pc_ob (fun r18 e_10 => ?_)
        have t_11 := gq hS (e := 9) (by decide +kernel) e_10
        subst t_11
        refine pc_gd (fun c_12 => ?_)
        refine pc_bd (fun d20 e_13 => ?_)
        have z_14 := NF.i z_9 rfl e_13
        refine pc_cb (n_fX7_takeNumber N g 1 6 d20 hS z_14) (fun u23 d21 z_15 => ?_)
        refine pc_if (fun _ => ?_) (fun _ => ?_)
        · exact pc_some z_15
        · refine pc_bd (fun d25 e_16 => ?_)
          have z_17 := NF.i z_15 rfl e_16
          refine pc_cb (n_fX7_takeToken N g 3 d25 hS z_17) (fun u28 d26 z_18 => ?_)
          refine pc_gd (fun c_19 => ?_)
          exact pc_some z_18
  · refine pc_cb (n_fX7_fail N g 1 d4 hS z_5) (fun u32 d30 z_20 => ?_)
    refine pc_gd (fun c_21 => ?_)
    exact pc_some z_20
theorem n_fX7_readTape_J122 {d0 : Ds} (N : Nat) (g : Gs) (x1 : Nat) (x2 : Int32) (z0 : Int32) (d : Ds) (hS : Shp g) (hZ : NF d0 d) : pc (fX7_readTape_J122 N g 2 x1 x2 z0 2 d) (fun _ d1 => NF d0 d1) := by
  unfold fX7_readTape_J122
  refine pc_gd (fun c_1 => ?_)
  refine pc_bd (fun d27 e_2 => ?_)
  have z_3 := NF.i hZ rfl e_2
  refine pc_gd (fun c_4 => ?_)
  exact pc_some z_3
theorem n_fX8_placeAt_J25 {d0 : Ds} (N : Nat) (g : Gs) (x1 : Int32) (z0 : Int32) (d : Ds) (hS : Shp g) (hZ : NF d0 d) : pc (fX8_placeAt_J25 N g 3 x1 z0 d) (fun _ d1 => NF d0 d1) := by
  unfold fX8_placeAt_J25
  exact pc_some hZ
theorem n_fX8_placeAt_J21 {d0 : Ds} (N : Nat) (g : Gs) (x1 : Int32) (d : Ds) (hS : Shp g) (hZ : NF d0 d) : pc (fX8_placeAt_J21 N g 3 x1 d) (fun _ d1 => NF d0 d1) := by
  unfold fX8_placeAt_J21
  refine pc_gd (fun c_1 => ?_)
  exact n_fX8_placeAt_J25 N g x1 (dI d 3 5) d hS hZ
theorem n_fX8_placeAt {d0 : Ds} (N : Nat) (g : Gs) (x1 : Int32) (d : Ds) (hS : Shp g) (hZ : NF d0 d) : pc (fX8_placeAt N g 3 x1 d) (fun _ d1 => NF d0 d1) := by
  unfold fX8_placeAt
  refine pc_if (fun _ => ?_) (fun _ => ?_)
  · exact n_fX8_placeAt_J21 N g x1 d hS hZ
  · refine pc_gd (fun c_1 => ?_)
    refine pc_if (fun _ => ?_) (fun _ => ?_)
    · exact n_fX8_placeAt_J21 N g x1 d hS hZ
    · refine pc_ob (fun r5 e_2 => ?_)
      have t_3 := gq hS (e := 5) (by decide +kernel) e_2
      subst t_3
      refine pc_gd (fun c_4 => ?_)
      refine pc_gd (fun c_5 => ?_)
      exact n_fX8_placeAt_J25 N g x1 (dI d 5 x1.toNatClampNeg) d hS hZ
theorem n_fX7_readTape_J99 {d0 : Ds} (N : Nat) (g : Gs) (x1 : Nat) (x2 : Int32) (d : Ds) (hS : Shp g) (hZ : NF d0 d) : pc (fX7_readTape_J99 N g 2 x1 x2 d) (fun _ d1 => NF d0 d1) := by
  unfold fX7_readTape_J99
  refine pc_gd (fun c_1 => ?_)
  refine pc_if (fun _ => ?_) (fun _ => ?_)
  · exact n_fX7_readTape_J122 N g x1 x2 (-1) d hS hZ
  · refine pc_ob (fun r21 e_2 => ?_)
    have t_3 := gq hS (e := 3) (by decide +kernel) e_2
    subst t_3
    refine pc_gd (fun c_4 => ?_)
    refine pc_cb (n_fX8_placeAt N g (dI d 2 6) d hS hZ) (fun u25 d23 z_5 => ?_)
    exact n_fX7_readTape_J122 N g x1 x2 u25 d23 hS z_5
theorem n_fX7_readTape_J76 {d0 : Ds} (N : Nat) (g : Gs) (x1 : Nat) (x2 : Int32) (d : Ds) (hS : Shp g) (hZ : NF d0 d) : pc (fX7_readTape_J76 N g 2 x1 x2 d) (fun _ d1 => NF d0 d1) := by
  unfold fX7_readTape_J76
  refine pc_gd (fun c_1 => ?_)
  refine pc_if (fun _ => ?_) (fun _ => ?_)
  · refine pc_bd (fun d29 e_2 => ?_)
    have z_3 := NF.i hZ rfl e_2
    refine pc_bd (fun d30 e_4 => ?_)
    have z_5 := NF.i z_3 rfl e_4
    exact n_fX7_readTape_J99 N g x1 x2 d30 hS z_5
  · exact n_fX7_readTape_J99 N g x1 x2 d hS hZ
theorem n_fX7_takeLine_J23 {d0 : Ds} (N : Nat) (g : Gs) (d : Ds) (hS : Shp g) (hZ : NF d0 d) : pc (fX7_takeLine_J23 N g 2 d) (fun _ d1 => NF d0 d1) := by
  unfold fX7_takeLine_J23
  refine pc_gd (fun c_1 => ?_)
  refine pc_cb (n_fX7_fail N g 1 d hS hZ) (fun u11 d9 z_2 => ?_)
  refine pc_gd (fun c_3 => ?_)
  exact pc_some z_2
theorem n_fX7_takeLine_J65 {d0 : Ds} (N : Nat) (g : Gs) (d : Ds) (hS : Shp g) (hZ : NF d0 d) : pc (fX7_takeLine_J65 N g 2 d) (fun _ d1 => NF d0 d1) := by
  unfold fX7_takeLine_J65
  refine pc_gd (fun c_1 => ?_)
  refine pc_cb (n_fX7_fail N g 2 d hS hZ) (fun u70 d68 z_2 => ?_)
  refine pc_gd (fun c_3 => ?_)
  exact pc_some z_2
theorem n_fX7_takeLine_J187 {d0 : Ds} (N : Nat) (g : Gs) (z0 : Int32) (d : Ds) (hS : Shp g) (hZ : NF d0 d) : pc (fX7_takeLine_J187 N g 2 z0 d) (fun _ d1 => NF d0 d1) := by
  unfold fX7_takeLine_J187
  refine pc_gd (fun c_1 => ?_)
  exact pc_some hZ
theorem n_fX7_takeLine_J186 {d0 : Ds} (N : Nat) (g : Gs) (d : Ds) (hS : Shp g) (hZ : NF d0 d) : pc (fX7_takeLine_J186 N g 2 d) (fun _ d1 => NF d0 d1) := by
  unfold fX7_takeLine_J186
  exact n_fX7_takeLine_J187 N g 0 d hS hZ
theorem n_fX7_takeLine_J170 {d0 : Ds} (N : Nat) (g : Gs) (y2 : Int32) (d : Ds) (hS : Shp g) (hZ : NF d0 d) : pc (fX7_takeLine_J170 N g 2 y2 d) (fun _ d1 => NF d0 d1) := by
  unfold fX7_takeLine_J170
  refine pc_if (fun _ => ?_) (fun _ => ?_)
  · exact n_fX7_takeLine_J186 N g d hS hZ
  · refine pc_gd (fun c_1 => ?_)
    refine pc_cb (n_fX7_takeToken N g 3 d hS hZ) (fun u46 d44 z_2 => ?_)
    refine pc_if (fun _ => ?_) (fun _ => ?_)
    · exact n_fX7_takeLine_J186 N g d44 hS z_2
    · exact n_fX7_takeLine_J187 N g 1 d44 hS z_2
theorem n_fX0_keys {d0 : Ds} (N : Nat) (g : Gs) (d : Ds) (hS : Shp g) (hZ : NF d0 d) : pc (fX0_keys N g 9 d) (fun _ d1 => NF d0 d1) := by
  unfold fX0_keys
  refine pc_gd (fun c_1 => ?_)
  exact pc_some hZ
theorem n_fX0_toldDeed_J19 {d0 : Ds} (N : Nat) (g : Gs) (x1 : Int32) (x2 : Int32) (d : Ds) (hS : Shp g) (hZ : NF d0 d) : pc (fX0_toldDeed_J19 N g 9 x1 x2 d) (fun _ d1 => NF d0 d1) := by
  unfold fX0_toldDeed_J19
  exact pc_some hZ
theorem n_fX0_toldDeed {d0 : Ds} (N : Nat) (g : Gs) (x1 : Int32) (x2 : Int32) (d : Ds) (hS : Shp g) (hZ : NF d0 d) : pc (fX0_toldDeed N g 9 x1 x2 d) (fun _ d1 => NF d0 d1) := by
  unfold fX0_toldDeed
  refine pc_if (fun _ => ?_) (fun _ => ?_)
  · exact n_fX0_toldDeed_J19 N g x1 x2 d hS hZ
  · refine pc_if (fun _ => ?_) (fun _ => ?_)
    · exact n_fX0_toldDeed_J19 N g x1 x2 d hS hZ
    · refine pc_if (fun _ => ?_) (fun _ => ?_)
      · exact n_fX0_toldDeed_J19 N g x1 x2 d hS hZ
      · refine pc_if (fun _ => ?_) (fun _ => ?_)
        · refine pc_gd (fun c_1 => ?_)
          refine pc_ob (fun r6 e_2 => ?_)
          have t_3 := gq hS (e := 10) (by decide +kernel) e_2
          subst t_3
          refine pc_gd (fun c_4 => ?_)
          refine pc_gd (fun c_5 => ?_)
          refine pc_ob (fun r9 e_6 => ?_)
          exact pc_some hZ
        · exact n_fX0_toldDeed_J19 N g x1 x2 d hS hZ
theorem n_fX7_takeDeed_J24 {d0 : Ds} (N : Nat) (g : Gs) (d : Ds) (hS : Shp g) (hZ : NF d0 d) : pc (fX7_takeDeed_J24 N g 2 d) (fun _ d1 => NF d0 d1) := by
  unfold fX7_takeDeed_J24
  refine pc_gd (fun c_1 => ?_)
  refine pc_cb (n_fX7_fail N g 1 d hS hZ) (fun u11 d9 z_2 => ?_)
  refine pc_gd (fun c_3 => ?_)
  exact pc_some z_2
theorem n_fX7_takeDeed_J67 {d0 : Ds} (N : Nat) (g : Gs) (d : Ds) (hS : Shp g) (hZ : NF d0 d) : pc (fX7_takeDeed_J67 N g 2 d) (fun _ d1 => NF d0 d1) := by
  unfold fX7_takeDeed_J67
  exact pc_some hZ
theorem n_fX7_takeDeed_J181 {d0 : Ds} (N : Nat) (g : Gs) (y2 : Option Nat) (d : Ds) (hS : Shp g) (hZ : NF d0 d) : pc (fX7_takeDeed_J181 N g 2 y2 d) (fun _ d1 => NF d0 d1) := by
  unfold fX7_takeDeed_J181
  refine pc_ob (fun r38 e_1 => ?_)
  refine pc_gd (fun c_2 => ?_)
  refine pc_gd (fun c_3 => ?_)
  refine pc_cb (n_fX7_takeNumber N g (wfv 0 (r38 - 100000)) (wfv 1 (r38 - 100000)) d hS hZ) (fun u43 d41 z_4 => ?_)
  refine pc_if (fun _ => ?_) (fun _ => ?_)
  · exact pc_some z_4
  · refine pc_ob (fun r45 e_5 => ?_)
    have t_6 := gq hS (e := 8) (by decide +kernel) e_5
    subst t_6
    refine pc_gd (fun c_7 => ?_)
    refine pc_bd (fun d47 e_8 => ?_)
    have z_9 := NF.i z_4 rfl e_8
    exact pc_some z_9
theorem n_fX7_takeDeed_J166 {d0 : Ds} (N : Nat) (g : Gs) (y2 : Option Nat) (z0 : Int32) (d : Ds) (hS : Shp g) (hZ : NF d0 d) : pc (fX7_takeDeed_J166 N g 2 y2 z0 8 d) (fun _ d1 => NF d0 d1) := by
  unfold fX7_takeDeed_J166
  refine pc_gd (fun c_1 => ?_)
  refine pc_bd (fun d64 e_2 => ?_)
  have z_3 := NF.i hZ rfl e_2
  exact n_fX7_takeDeed_J181 N g y2 d64 hS z_3
theorem n_fX7_takeDeed_J138 {d0 : Ds} (N : Nat) (g : Gs) (y2 : Option Nat) (d : Ds) (hS : Shp g) (hZ : NF d0 d) : pc (fX7_takeDeed_J138 N g 2 y2 d) (fun _ d1 => NF d0 d1) := by
  unfold fX7_takeDeed_J138
  refine pc_gd (fun c_1 => ?_)
  refine pc_cb (n_fX7_takeToken N g 1 d hS hZ) (fun u57 d55 z_2 => ?_)
  refine pc_if (fun _ => ?_) (fun _ => ?_)
  · exact pc_some z_2
  · refine pc_ob (fun r59 e_3 => ?_)
    have t_4 := gq hS (e := 8) (by decide +kernel) e_3
    subst t_4
    refine pc_gd (fun c_5 => ?_)
    refine pc_gd (fun c_6 => ?_)
    refine pc_if (fun _ => ?_) (fun _ => ?_)
    · exact n_fX7_takeDeed_J166 N g y2 6 d55 hS z_2
    · exact n_fX7_takeDeed_J166 N g y2 7 d55 hS z_2
theorem n_fX7_takeDeed {d0 : Ds} (N : Nat) (g : Gs) (d : Ds) (hS : Shp g) (hZ : NF d0 d) : pc (fX7_takeDeed N g 2 d) (fun _ d1 => NF d0 d1) := by
  unfold fX7_takeDeed
  refine pc_gd (fun c_1 => ?_)
  refine pc_ob (fun r2 e_2 => ?_)
  have t_3 := gq hS (e := 3) (by decide +kernel) e_2
  subst t_3
  refine pc_gd (fun c_4 => ?_)
  refine pc_cb (n_fX8_wordAt N g (dI d 2 3) d hS hZ) (fun u6 d4 z_5 => ?_)
  refine pc_if (fun _ => ?_) (fun _ => ?_)
  · exact n_fX7_takeDeed_J24 N g d4 hS z_5
  · refine pc_ob (fun r13 e_6 => ?_)
    refine pc_gd (fun c_7 => ?_)
    refine pc_if (fun _ => ?_) (fun _ => ?_)
    · exact n_fX7_takeDeed_J24 N g d4 hS z_5
    · refine pc_cb (n_fX7_takeToken N g 1 d4 hS z_5) (fun u18 d16 z_8 => ?_)
      refine pc_if (fun _ => ?_) (fun _ => ?_)
      · exact pc_some z_8
      · refine pc_ob (fun r20 e_9 => ?_)
        have t_10 := gq hS (e := 8) (by decide +kernel) e_9
        subst t_10
        refine pc_gd (fun c_11 => ?_)
        refine pc_cv (n_fX2_tell N g 8 (wfv 2 (r13 - 100000)) (-1) (-1) d16 hS z_8) (fun d22 z_12 => ?_)
        refine pc_gd (fun c_13 => ?_)
        refine pc_gd (fun c_14 => ?_)
        refine pc_if (fun _ => ?_) (fun _ => ?_)
        · exact n_fX7_takeDeed_J67 N g d22 hS z_12
        · refine pc_gd (fun c_15 => ?_)
          refine pc_if (fun _ => ?_) (fun _ => ?_)
          · exact n_fX7_takeDeed_J67 N g d22 hS z_12
          · refine pc_cb (n_fX7_takeNumber N g (wfv 0 (r13 - 100000)) (wfv 1 (r13 - 100000)) d22 hS z_12) (fun u31 d29 z_16 => ?_)
            refine pc_if (fun _ => ?_) (fun _ => ?_)
            · exact pc_some z_16
            · refine pc_bd (fun d33 e_17 => ?_)
              have z_18 := NF.i z_16 rfl e_17
              refine pc_gd (fun c_19 => ?_)
              refine pc_if (fun _ => ?_) (fun _ => ?_)
              · refine pc_cb (n_fX8_wordAt N g (dI d33 2 3) d33 hS z_18) (fun u50 d48 z_20 => ?_)
                refine pc_gd (fun c_21 => ?_)
                refine pc_gd (fun c_22 => ?_)
                refine pc_if (fun _ => ?_) (fun _ => ?_)
                · exact n_fX7_takeDeed_J138 N g u50 d48 hS z_20
                · refine pc_gd (fun c_23 => ?_)
                  refine pc_if (fun _ => ?_) (fun _ => ?_)
                  · exact n_fX7_takeDeed_J138 N g u50 d48 hS z_20
                  · refine pc_cb (n_fX7_fail N g 1 d48 hS z_20) (fun u69 d67 z_24 => ?_)
                    refine pc_gd (fun c_25 => ?_)
                    exact pc_some z_24
              · refine pc_gd (fun c_26 => ?_)
                refine pc_if (fun _ => ?_) (fun _ => ?_)
                · exact n_fX7_takeDeed_J181 N g u6 d33 hS z_18
                · exact pc_some z_18
theorem n_fX7_takeKey_J79 {d0 : Ds} (N : Nat) (g : Gs) (d : Ds) (hS : Shp g) (hZ : NF d0 d) : pc (fX7_takeKey_J79 N g 2 d) (fun _ d1 => NF d0 d1) := by
  unfold fX7_takeKey_J79
  exact pc_some hZ
theorem n_fX2_copyFrom {d0 : Ds} (N : Nat) (g : Gs) (x0 : Nat) (x1 : Nat) (d : Ds) (hS : Shp g) (hZ : NF d0 d) : pc (fX2_copyFrom N g x0 x1 d) (fun _ d1 => NF d0 d1) := by
  unfold fX2_copyFrom
  refine pc_gd (fun c_1 => ?_)
  refine pc_gd (fun c_2 => ?_)
  refine pc_cv (n_fX2_tell N g x0 (dI d x1 0) (dI d x1 1) (dI d x1 2) d hS hZ) (fun d3 z_3 => ?_)
  exact pc_some z_3
theorem n_fX7_takeKey {d0 : Ds} (N : Nat) (g : Gs) (d : Ds) (hS : Shp g) (hZ : NF d0 d) : pc (fX7_takeKey N g 2 d) (fun _ d1 => NF d0 d1) := by
  unfold fX7_takeKey
  refine pc_gd (fun c_1 => ?_)
  refine pc_gd (fun c_2 => ?_)
  refine pc_cb (n_fX7_takeNumber N g (wfv 0 (100008 - 100000)) (wfv 1 (100008 - 100000)) d hS hZ) (fun u5 d3 z_3 => ?_)
  refine pc_if (fun _ => ?_) (fun _ => ?_)
  · exact pc_some z_3
  · refine pc_bd (fun u7 e_4 => ?_)
    refine pc_ob (fun r8 e_5 => ?_)
    have t_6 := gq hS (e := 9) (by decide +kernel) e_5
    subst t_6
    refine pc_gd (fun c_7 => ?_)
    refine pc_cb (n_fX0_keys N g d3 hS z_3) (fun u12 d10 z_8 => ?_)
    refine pc_cb (n_fX7_takeNumber N g 0 (u12 - 1) d10 hS z_8) (fun u15 d13 z_9 => ?_)
    refine pc_if (fun _ => ?_) (fun _ => ?_)
    · exact pc_some z_9
    · refine pc_cb (n_fX0_toldDeed N g u7 (dI d13 2 4) d13 hS z_9) (fun u19 d17 z_10 => ?_)
      refine pc_cb (n_fX7_takeDeed N g d17 hS z_10) (fun u22 d20 z_11 => ?_)
      refine pc_if (fun _ => ?_) (fun _ => ?_)
      · exact pc_some z_11
      · refine pc_if (fun _ => ?_) (fun _ => ?_)
        · exact n_fX7_takeKey_J79 N g d20 hS z_11
        · refine pc_ob (fun r25 e_12 => ?_)
          have t_13 := gq hS (e := 8) (by decide +kernel) e_12
          subst t_13
          refine pc_ob (fun r26 e_14 => ?_)
          refine pc_gd (fun c_15 => ?_)
          refine pc_cv (n_fX2_copyFrom N g r26 8 d20 hS z_11) (fun d28 z_16 => ?_)
          exact n_fX7_takeKey_J79 N g d28 hS z_16
theorem n_fX7_takeChordKey_J38 {d0 : Ds} (N : Nat) (g : Gs) (x1 : Int32) (d : Ds) (hS : Shp g) (hZ : NF d0 d) : pc (fX7_takeChordKey_J38 N g 2 x1 d) (fun _ d1 => NF d0 d1) := by
  unfold fX7_takeChordKey_J38
  refine pc_gd (fun c_1 => ?_)
  refine pc_ob (fun r12 e_2 => ?_)
  have t_3 := gq hS (e := 9) (by decide +kernel) e_2
  subst t_3
  refine pc_gd (fun c_4 => ?_)
  refine pc_cb (n_fX0_keys N g d hS hZ) (fun u16 d14 z_5 => ?_)
  refine pc_cb (n_fX7_takeNumber N g 0 (u16 - 1) d14 hS z_5) (fun u19 d17 z_6 => ?_)
  refine pc_gd (fun c_7 => ?_)
  exact pc_some z_6
theorem n_fX7_takeChordKey_J29 {d0 : Ds} (N : Nat) (g : Gs) (x1 : Int32) (d : Ds) (hS : Shp g) (hZ : NF d0 d) : pc (fX7_takeChordKey_J29 N g 2 x1 d) (fun _ d1 => NF d0 d1) := by
  unfold fX7_takeChordKey_J29
  refine pc_gd (fun c_1 => ?_)
  refine pc_cv (n_fX7_noteLater N g 3 (dI d 2 3) d hS hZ) (fun d9 z_2 => ?_)
  exact n_fX7_takeChordKey_J38 N g x1 d9 hS z_2
theorem n_fX0_chordOf_J30 {d0 : Ds} (N : Nat) (g : Gs) (x1 : Int32) (y2 : Int32) (d : Ds) (hS : Shp g) (hZ : NF d0 d) : pc (fX0_chordOf_J30 N g 9 x1 y2 d) (fun _ d1 => NF d0 d1) := by
  unfold fX0_chordOf_J30
  exact pc_some hZ
theorem n_fX0_chordOf_B2 {d0 : Ds} (N : Nat) (g : Gs) (x1 : Int32) (K2 : Int32 × Ds → Option (Int32 × Ds)) (y2 : Int32) (d : Ds) (hS : Shp g) (hZ : NF d0 d) (hK2 : ∀ a, NF d0 a.2 → pc (K2 a) (fun _ d1 => NF d0 d1)) : pc (fX0_chordOf_B2 N g 9 x1 K2 y2 d) (fun _ d1 => NF d0 d1) := by
  unfold fX0_chordOf_B2
  refine pc_gd (fun c_1 => ?_)
  refine pc_if (fun _ => ?_) (fun _ => ?_)
  · exact pc_some hZ
  · refine pc_ob (fun r3 e_2 => ?_)
    have t_3 := gq hS (e := 12) (by decide +kernel) e_2
    subst t_3
    refine pc_gd (fun c_4 => ?_)
    refine pc_gd (fun c_5 => ?_)
    refine pc_if (fun _ => ?_) (fun _ => ?_)
    · exact n_fX0_chordOf_J30 N g x1 y2 d hS hZ
    · refine pc_ob (fun r7 e_6 => ?_)
      have t_7 := gq hS (e := 13) (by decide +kernel) e_6
      subst t_7
      refine pc_gd (fun c_8 => ?_)
      refine pc_gd (fun c_9 => ?_)
      refine pc_if (fun _ => ?_) (fun _ => ?_)
      · exact n_fX0_chordOf_J30 N g x1 y2 d hS hZ
      · refine pc_bd (fun u11 e_10 => ?_)
        exact hK2 _ hZ
theorem n_fX0_chordOf_L2 {d0 : Ds} (N : Nat) (g : Gs) (x1 : Int32) (hS : Shp g) (a0 : Int32) (a1 : Ds) (hZ : NF d0 a1) : pc (fX0_chordOf_L2 N g 9 x1 (a0, a1)) (fun _ d1 => NF d0 d1) := by
  unfold fX0_chordOf_L2
  refine pc_lp (fun a => NF d0 a.2) ?_ N (a0, a1) hZ
  rintro K ⟨a0, a1⟩ hZ hK
  exact n_fX0_chordOf_B2 N g x1 K a0 a1 hS hZ hK
theorem n_fX0_chordOf {d0 : Ds} (N : Nat) (g : Gs) (x1 : Int32) (d : Ds) (hS : Shp g) (hZ : NF d0 d) : pc (fX0_chordOf N g 9 x1 d) (fun _ d1 => NF d0 d1) := by
  unfold fX0_chordOf
  exact n_fX0_chordOf_L2 N g x1 hS 0 d hZ
theorem n_fX7_takeChordKey {d0 : Ds} (N : Nat) (g : Gs) (x1 : Int32) (d : Ds) (hS : Shp g) (hZ : NF d0 d) : pc (fX7_takeChordKey N g 2 x1 d) (fun _ d1 => NF d0 d1) := by
  unfold fX7_takeChordKey
  refine pc_gd (fun c_1 => ?_)
  refine pc_ob (fun r2 e_2 => ?_)
  have t_3 := gq hS (e := 3) (by decide +kernel) e_2
  subst t_3
  refine pc_gd (fun c_4 => ?_)
  refine pc_cb (n_fX8_numberAt N g (dI d 2 3) d hS hZ) (fun u6 d4 z_5 => ?_)
  refine pc_if (fun _ => ?_) (fun _ => ?_)
  · exact n_fX7_takeChordKey_J29 N g x1 d4 hS z_5
  · refine pc_ob (fun r21 e_6 => ?_)
    have t_7 := gq hS (e := 9) (by decide +kernel) e_6
    subst t_7
    refine pc_gd (fun c_8 => ?_)
    refine pc_cb (n_fX0_chordOf N g u6 d4 hS z_5) (fun u25 d23 z_9 => ?_)
    refine pc_if (fun _ => ?_) (fun _ => ?_)
    · exact n_fX7_takeChordKey_J38 N g x1 d23 hS z_9
    · exact n_fX7_takeChordKey_J29 N g x1 d23 hS z_9
theorem n_fX0_addChord_J51 {d0 : Ds} (N : Nat) (g : Gs) (x1 : Int32) (x2 : Int32) (x3 : Nat) (d : Ds) (hS : Shp g) (hZ : NF d0 d) : pc (fX0_addChord_J51 N g 9 x1 x2 x3 d) (fun _ d1 => NF d0 d1) := by
  unfold fX0_addChord_J51
  exact pc_some hZ
theorem n_fX0_addChord {d0 : Ds} (N : Nat) (g : Gs) (x1 : Int32) (x2 : Int32) (x3 : Nat) (d : Ds) (hS : Shp g) (hZ : NF d0 d) : pc (fX0_addChord N g 9 x1 x2 x3 d) (fun _ d1 => NF d0 d1) := by
  unfold fX0_addChord
  refine pc_gd (fun c_1 => ?_)
  refine pc_if (fun _ => ?_) (fun _ => ?_)
  · exact n_fX0_addChord_J51 N g x1 x2 x3 d hS hZ
  · refine pc_ob (fun r3 e_2 => ?_)
    have t_3 := gq hS (e := 12) (by decide +kernel) e_2
    subst t_3
    refine pc_gd (fun c_4 => ?_)
    refine pc_gd (fun c_5 => ?_)
    refine pc_bd (fun d6 e_6 => ?_)
    have z_7 := NF.i hZ rfl e_6
    refine pc_ob (fun r7 e_8 => ?_)
    have t_9 := gq hS (e := 13) (by decide +kernel) e_8
    subst t_9
    refine pc_gd (fun c_10 => ?_)
    refine pc_gd (fun c_11 => ?_)
    refine pc_bd (fun d10 e_12 => ?_)
    have z_13 := NF.i z_7 rfl e_12
    refine pc_ob (fun r11 e_14 => ?_)
    have t_15 := gq hS (e := 14) (by decide +kernel) e_14
    subst t_15
    refine pc_gd (fun c_16 => ?_)
    refine pc_gd (fun c_17 => ?_)
    refine pc_ob (fun r14 e_18 => ?_)
    refine pc_gd (fun c_19 => ?_)
    refine pc_cv (n_fX2_copyFrom N g r14 x3 d10 hS z_13) (fun d16 z_20 => ?_)
    refine pc_bd (fun d18 e_21 => ?_)
    have z_22 := NF.i z_20 rfl e_21
    exact n_fX0_addChord_J51 N g x1 x2 x3 d18 hS z_22
theorem n_fX7_takeChord_J72 {d0 : Ds} (N : Nat) (g : Gs) (y1 : Int32) (y2 : Int32) (d : Ds) (hS : Shp g) (hZ : NF d0 d) : pc (fX7_takeChord_J72 N g 2 y1 y2 d) (fun _ d1 => NF d0 d1) := by
  unfold fX7_takeChord_J72
  refine pc_gd (fun c_1 => ?_)
  refine pc_cb (n_fX7_takeDeed N g d hS hZ) (fun u23 d21 z_2 => ?_)
  refine pc_if (fun _ => ?_) (fun _ => ?_)
  · exact pc_some z_2
  · refine pc_ob (fun r25 e_3 => ?_)
    have t_4 := gq hS (e := 9) (by decide +kernel) e_3
    subst t_4
    refine pc_ob (fun r26 e_5 => ?_)
    have t_6 := gq hS (e := 8) (by decide +kernel) e_5
    subst t_6
    refine pc_gd (fun c_7 => ?_)
    refine pc_cv (n_fX0_addChord N g y1 y2 8 d21 hS z_2) (fun d28 z_8 => ?_)
    exact pc_some z_8
theorem n_fX7_takeChord {d0 : Ds} (N : Nat) (g : Gs) (d : Ds) (hS : Shp g) (hZ : NF d0 d) : pc (fX7_takeChord N g 2 d) (fun _ d1 => NF d0 d1) := by
  unfold fX7_takeChord
  refine pc_gd (fun c_1 => ?_)
  refine pc_cb (n_fX7_takeChordKey N g (-1) d hS hZ) (fun u4 d2 z_2 => ?_)
  refine pc_if (fun _ => ?_) (fun _ => ?_)
  · exact pc_some z_2
  · refine pc_bd (fun u6 e_3 => ?_)
    refine pc_cb (n_fX7_takeChordKey N g u6 d2 hS z_2) (fun u9 d7 z_4 => ?_)
    refine pc_if (fun _ => ?_) (fun _ => ?_)
    · exact pc_some z_4
    · refine pc_bd (fun u11 e_5 => ?_)
      refine pc_ob (fun r12 e_6 => ?_)
      have t_7 := gq hS (e := 3) (by decide +kernel) e_6
      subst t_7
      refine pc_gd (fun c_8 => ?_)
      refine pc_cb (n_fX8_wordAt N g (dI d7 2 3) d7 hS z_4) (fun u16 d14 z_9 => ?_)
      refine pc_gd (fun c_10 => ?_)
      refine pc_gd (fun c_11 => ?_)
      refine pc_if (fun _ => ?_) (fun _ => ?_)
      · exact n_fX7_takeChord_J72 N g u6 u11 d14 hS z_9
      · refine pc_gd (fun c_12 => ?_)
        refine pc_if (fun _ => ?_) (fun _ => ?_)
        · exact n_fX7_takeChord_J72 N g u6 u11 d14 hS z_9
        · refine pc_gd (fun c_13 => ?_)
          refine pc_if (fun _ => ?_) (fun _ => ?_)
          · exact n_fX7_takeChord_J72 N g u6 u11 d14 hS z_9
          · refine pc_cv (n_fX7_noteLater N g 5 (dI d14 2 3) d14 hS z_9) (fun d34 z_14 => ?_)
            exact n_fX7_takeChord_J72 N g u6 u11 d34 hS z_14
theorem n_fX0_addMacro_J33 {d0 : Ds} (N : Nat) (g : Gs) (x1 : Int32) (d : Ds) (hS : Shp g) (hZ : NF d0 d) : pc (fX0_addMacro_J33 N g 9 x1 d) (fun _ d1 => NF d0 d1) := by
  unfold fX0_addMacro_J33
  exact pc_some hZ
theorem n_fX0_addMacroCode_J49 {d0 : Ds} (N : Nat) (g : Gs) (x1 : Int32) (d : Ds) (hS : Shp g) (hZ : NF d0 d) : pc (fX0_addMacroCode_J49 N g 9 x1 d) (fun _ d1 => NF d0 d1) := by
  unfold fX0_addMacroCode_J49
  exact pc_some hZ
theorem n_fX0_addMacroCode {d0 : Ds} (N : Nat) (g : Gs) (x1 : Int32) (d : Ds) (hS : Shp g) (hZ : NF d0 d) : pc (fX0_addMacroCode N g 9 x1 d) (fun _ d1 => NF d0 d1) := by
  unfold fX0_addMacroCode
  refine pc_gd (fun c_1 => ?_)
  refine pc_bd (fun u2 e_2 => ?_)
  refine pc_if (fun _ => ?_) (fun _ => ?_)
  · exact n_fX0_addMacroCode_J49 N g x1 d hS hZ
  · refine pc_ob (fun r4 e_3 => ?_)
    have t_4 := gq hS (e := 15) (by decide +kernel) e_3
    subst t_4
    refine pc_gd (fun c_5 => ?_)
    refine pc_gd (fun c_6 => ?_)
    refine pc_if (fun _ => ?_) (fun _ => ?_)
    · exact n_fX0_addMacroCode_J49 N g x1 d hS hZ
    · refine pc_ob (fun r8 e_7 => ?_)
      have t_8 := gq hS (e := 16) (by decide +kernel) e_7
      subst t_8
      refine pc_gd (fun c_9 => ?_)
      refine pc_gd (fun c_10 => ?_)
      refine pc_bd (fun d11 e_11 => ?_)
      have z_12 := NF.i hZ rfl e_11
      refine pc_bd (fun d12 e_13 => ?_)
      have z_14 := NF.i z_12 rfl e_13
      exact n_fX0_addMacroCode_J49 N g x1 d12 hS z_14
theorem n_fX0_addMacro {d0 : Ds} (N : Nat) (g : Gs) (x1 : Int32) (d : Ds) (hS : Shp g) (hZ : NF d0 d) : pc (fX0_addMacro N g 9 x1 d) (fun _ d1 => NF d0 d1) := by
  unfold fX0_addMacro
  refine pc_gd (fun c_1 => ?_)
  refine pc_if (fun _ => ?_) (fun _ => ?_)
  · exact n_fX0_addMacro_J33 N g x1 d hS hZ
  · refine pc_ob (fun r3 e_2 => ?_)
    have t_3 := gq hS (e := 15) (by decide +kernel) e_2
    subst t_3
    refine pc_gd (fun c_4 => ?_)
    refine pc_gd (fun c_5 => ?_)
    refine pc_bd (fun d6 e_6 => ?_)
    have z_7 := NF.i hZ rfl e_6
    refine pc_bd (fun d7 e_8 => ?_)
    have z_9 := NF.i z_7 rfl e_8
    refine pc_cv (n_fX0_addMacroCode N g x1 d7 hS z_9) (fun d8 z_10 => ?_)
    exact n_fX0_addMacro_J33 N g x1 d8 hS z_10
theorem n_fX7_takeMacro_J105 {d0 : Ds} (N : Nat) (g : Gs) (d : Ds) (hS : Shp g) (hZ : NF d0 d) : pc (fX7_takeMacro_J105 N g 2 d) (fun _ d1 => NF d0 d1) := by
  unfold fX7_takeMacro_J105
  exact pc_some hZ
theorem n_fX7_takeMacro_B34 {d0 : Ds} (N : Nat) (g : Gs) (K34 : Int32 × Ds → Option (Int32 × Ds)) (y1 : Int32) (d : Ds) (hS : Shp g) (hZ : NF d0 d) (hK34 : ∀ a, NF d0 a.2 → pc (K34 a) (fun _ d1 => NF d0 d1)) : pc (fX7_takeMacro_B34 N g 2 K34 y1 d) (fun _ d1 => NF d0 d1) := by
  unfold fX7_takeMacro_B34
  refine pc_if (fun _ => ?_) (fun _ => ?_)
  · exact n_fX7_takeMacro_J105 N g d hS hZ
  · refine pc_gd (fun c_1 => ?_)
    refine pc_ob (fun r13 e_2 => ?_)
    have t_3 := gq hS (e := 3) (by decide +kernel) e_2
    subst t_3
    refine pc_gd (fun c_4 => ?_)
    refine pc_cb (n_fX8_kindAt N g (dI d 2 3) d hS hZ) (fun u17 d15 z_5 => ?_)
    refine pc_if (fun _ => ?_) (fun _ => ?_)
    · refine pc_if (fun _ => ?_) (fun _ => ?_)
      · refine pc_cb (n_fX7_fail N g 2 d15 hS z_5) (fun u32 d30 z_6 => ?_)
        refine pc_gd (fun c_7 => ?_)
        exact pc_some z_6
      · refine pc_gd (fun c_8 => ?_)
        refine pc_cb (n_fX7_takeNumber N g (wfv 0 (100010 - 100000)) (wfv 1 (100010 - 100000)) d15 hS z_5) (fun u23 d21 z_9 => ?_)
        refine pc_if (fun _ => ?_) (fun _ => ?_)
        · exact pc_some z_9
        · refine pc_ob (fun r25 e_10 => ?_)
          have t_11 := gq hS (e := 9) (by decide +kernel) e_10
          subst t_11
          refine pc_gd (fun c_12 => ?_)
          refine pc_cv (n_fX0_addMacroCode N g (dI d21 2 4) d21 hS z_9) (fun d27 z_13 => ?_)
          refine pc_bd (fun u29 e_14 => ?_)
          exact hK34 _ z_13
    · exact n_fX7_takeMacro_J105 N g d15 hS z_5
theorem n_fX7_takeMacro_L34 {d0 : Ds} (N : Nat) (g : Gs) (hS : Shp g) (a0 : Int32) (a1 : Ds) (hZ : NF d0 a1) : pc (fX7_takeMacro_L34 N g 2 (a0, a1)) (fun _ d1 => NF d0 d1) := by
  unfold fX7_takeMacro_L34
  refine pc_lp (fun a => NF d0 a.2) ?_ N (a0, a1) hZ
  rintro K ⟨a0, a1⟩ hZ hK
  exact n_fX7_takeMacro_B34 N g K a0 a1 hS hZ hK
theorem n_fX7_takeMacro {d0 : Ds} (N : Nat) (g : Gs) (d : Ds) (hS : Shp g) (hZ : NF d0 d) : pc (fX7_takeMacro N g 2 d) (fun _ d1 => NF d0 d1) := by
  unfold fX7_takeMacro
  refine pc_gd (fun c_1 => ?_)
  refine pc_gd (fun c_2 => ?_)
  refine pc_cb (n_fX7_takeNumber N g (wfv 0 (100010 - 100000)) (wfv 1 (100010 - 100000)) d hS hZ) (fun u5 d3 z_3 => ?_)
  refine pc_if (fun _ => ?_) (fun _ => ?_)
  · exact pc_some z_3
  · refine pc_ob (fun r7 e_4 => ?_)
    have t_5 := gq hS (e := 9) (by decide +kernel) e_4
    subst t_5
    refine pc_gd (fun c_6 => ?_)
    refine pc_cv (n_fX0_addMacro N g (dI d3 2 4) d3 hS z_3) (fun d9 z_7 => ?_)
    exact n_fX7_takeMacro_L34 N g hS 1 d9 z_7
theorem n_fX7_takeSetting_J142 {d0 : Ds} (N : Nat) (g : Gs) (x1 : Option Nat) (d : Ds) (hS : Shp g) (hZ : NF d0 d) : pc (fX7_takeSetting_J142 N g 2 x1 d) (fun _ d1 => NF d0 d1) := by
  unfold fX7_takeSetting_J142
  exact pc_some hZ
theorem n_fX7_takeSetting {d0 : Ds} (N : Nat) (g : Gs) (x1 : Option Nat) (d : Ds) (hS : Shp g) (hZ : NF d0 d) : pc (fX7_takeSetting N g 2 x1 d) (fun _ d1 => NF d0 d1) := by
  unfold fX7_takeSetting
  refine pc_ob (fun r1 e_1 => ?_)
  refine pc_gd (fun c_2 => ?_)
  refine pc_gd (fun c_3 => ?_)
  refine pc_cb (n_fX7_takeNumber N g (wfv 0 (r1 - 100000)) (wfv 1 (r1 - 100000)) d hS hZ) (fun u6 d4 z_4 => ?_)
  refine pc_if (fun _ => ?_) (fun _ => ?_)
  · exact pc_some z_4
  · refine pc_gd (fun c_5 => ?_)
    refine pc_gd (fun c_6 => ?_)
    refine pc_if (fun _ => ?_) (fun _ => ?_)
    · refine pc_ob (fun r36 e_7 => ?_)
      have t_8 := gq hS (e := 9) (by decide +kernel) e_7
      subst t_8
      refine pc_gd (fun c_9 => ?_)
      refine pc_bd (fun d38 e_10 => ?_)
      have z_11 := NF.i z_4 rfl e_10
      exact n_fX7_takeSetting_J142 N g x1 d38 hS z_11
    · refine pc_gd (fun c_12 => ?_)
      refine pc_if (fun _ => ?_) (fun _ => ?_)
      · refine pc_ob (fun r33 e_13 => ?_)
        have t_14 := gq hS (e := 9) (by decide +kernel) e_13
        subst t_14
        refine pc_gd (fun c_15 => ?_)
        refine pc_bd (fun d35 e_16 => ?_)
        have z_17 := NF.i z_4 rfl e_16
        exact n_fX7_takeSetting_J142 N g x1 d35 hS z_17
      · refine pc_gd (fun c_18 => ?_)
        refine pc_if (fun _ => ?_) (fun _ => ?_)
        · refine pc_ob (fun r30 e_19 => ?_)
          have t_20 := gq hS (e := 9) (by decide +kernel) e_19
          subst t_20
          refine pc_gd (fun c_21 => ?_)
          refine pc_bd (fun d32 e_22 => ?_)
          have z_23 := NF.i z_4 rfl e_22
          exact n_fX7_takeSetting_J142 N g x1 d32 hS z_23
        · refine pc_gd (fun c_24 => ?_)
          refine pc_if (fun _ => ?_) (fun _ => ?_)
          · refine pc_ob (fun r27 e_25 => ?_)
            have t_26 := gq hS (e := 9) (by decide +kernel) e_25
            subst t_26
            refine pc_gd (fun c_27 => ?_)
            refine pc_bd (fun d29 e_28 => ?_)
            have z_29 := NF.i z_4 rfl e_28
            exact n_fX7_takeSetting_J142 N g x1 d29 hS z_29
          · refine pc_gd (fun c_30 => ?_)
            refine pc_if (fun _ => ?_) (fun _ => ?_)
            · refine pc_ob (fun r19 e_31 => ?_)
              have t_32 := gq hS (e := 9) (by decide +kernel) e_31
              subst t_32
              refine pc_gd (fun c_33 => ?_)
              refine pc_bd (fun d21 e_34 => ?_)
              have z_35 := NF.i z_4 rfl e_34
              refine pc_cb (n_fX7_takeNumber N g 1 20 d21 hS z_35) (fun u24 d22 z_36 => ?_)
              refine pc_if (fun _ => ?_) (fun _ => ?_)
              · exact pc_some z_36
              · refine pc_bd (fun d26 e_37 => ?_)
                have z_38 := NF.i z_36 rfl e_37
                exact n_fX7_takeSetting_J142 N g x1 d26 hS z_38
            · exact n_fX7_takeSetting_J142 N g x1 d4 hS z_4
theorem n_fX7_takeLine_J71 {d0 : Ds} (N : Nat) (g : Gs) (y1 : Option Nat) (d : Ds) (hS : Shp g) (hZ : NF d0 d) : pc (fX7_takeLine_J71 N g 2 y1 d) (fun _ d1 => NF d0 d1) := by
  unfold fX7_takeLine_J71
  refine pc_gd (fun c_1 => ?_)
  refine pc_cb (n_fX7_takeToken N g 1 d hS hZ) (fun u25 d23 z_2 => ?_)
  refine pc_if (fun _ => ?_) (fun _ => ?_)
  · exact pc_some z_2
  · refine pc_gd (fun c_3 => ?_)
    refine pc_gd (fun c_4 => ?_)
    refine pc_if (fun _ => ?_) (fun _ => ?_)
    · refine pc_ob (fun r60 e_5 => ?_)
      have t_6 := gq hS (e := 9) (by decide +kernel) e_5
      subst t_6
      refine pc_gd (fun c_7 => ?_)
      refine pc_bd (fun d62 e_8 => ?_)
      have z_9 := NF.i z_2 rfl e_8
      exact n_fX7_takeLine_J170 N g 1 d62 hS z_9
    · refine pc_gd (fun c_10 => ?_)
      refine pc_if (fun _ => ?_) (fun _ => ?_)
      · refine pc_ob (fun r57 e_11 => ?_)
        have t_12 := gq hS (e := 9) (by decide +kernel) e_11
        subst t_12
        refine pc_gd (fun c_13 => ?_)
        refine pc_bd (fun d59 e_14 => ?_)
        have z_15 := NF.i z_2 rfl e_14
        exact n_fX7_takeLine_J170 N g 1 d59 hS z_15
      · refine pc_gd (fun c_16 => ?_)
        refine pc_if (fun _ => ?_) (fun _ => ?_)
        · refine pc_cb (n_fX7_takeKey N g d23 hS z_2) (fun u56 d54 z_17 => ?_)
          exact n_fX7_takeLine_J170 N g u56 d54 hS z_17
        · refine pc_gd (fun c_18 => ?_)
          refine pc_if (fun _ => ?_) (fun _ => ?_)
          · refine pc_cb (n_fX7_takeChord N g d23 hS z_2) (fun u53 d51 z_19 => ?_)
            exact n_fX7_takeLine_J170 N g u53 d51 hS z_19
          · refine pc_gd (fun c_20 => ?_)
            refine pc_if (fun _ => ?_) (fun _ => ?_)
            · refine pc_cb (n_fX7_takeMacro N g d23 hS z_2) (fun u50 d48 z_21 => ?_)
              exact n_fX7_takeLine_J170 N g u50 d48 hS z_21
            · refine pc_cb (n_fX7_takeSetting N g y1 d23 hS z_2) (fun u40 d38 z_22 => ?_)
              exact n_fX7_takeLine_J170 N g u40 d38 hS z_22
theorem n_fX7_takeLine_J47 {d0 : Ds} (N : Nat) (g : Gs) (y1 : Option Nat) (d : Ds) (hS : Shp g) (hZ : NF d0 d) : pc (fX7_takeLine_J47 N g 2 y1 d) (fun _ d1 => NF d0 d1) := by
  unfold fX7_takeLine_J47
  refine pc_gd (fun c_1 => ?_)
  refine pc_gd (fun c_2 => ?_)
  refine pc_if (fun _ => ?_) (fun _ => ?_)
  · refine pc_gd (fun c_3 => ?_)
    refine pc_ob (fun r64 e_4 => ?_)
    have t_5 := gq hS (e := 9) (by decide +kernel) e_4
    subst t_5
    refine pc_gd (fun c_6 => ?_)
    refine pc_if (fun _ => ?_) (fun _ => ?_)
    · exact n_fX7_takeLine_J65 N g d hS hZ
    · exact n_fX7_takeLine_J71 N g y1 d hS hZ
  · exact n_fX7_takeLine_J71 N g y1 d hS hZ
theorem n_fX7_takeLine {d0 : Ds} (N : Nat) (g : Gs) (d : Ds) (hS : Shp g) (hZ : NF d0 d) : pc (fX7_takeLine N g 2 d) (fun _ d1 => NF d0 d1) := by
  unfold fX7_takeLine
  refine pc_gd (fun c_1 => ?_)
  refine pc_ob (fun r2 e_2 => ?_)
  have t_3 := gq hS (e := 3) (by decide +kernel) e_2
  subst t_3
  refine pc_gd (fun c_4 => ?_)
  refine pc_cb (n_fX8_wordAt N g (dI d 2 3) d hS hZ) (fun u6 d4 z_5 => ?_)
  refine pc_if (fun _ => ?_) (fun _ => ?_)
  · exact n_fX7_takeLine_J23 N g d4 hS z_5
  · refine pc_ob (fun r13 e_6 => ?_)
    refine pc_gd (fun c_7 => ?_)
    refine pc_if (fun _ => ?_) (fun _ => ?_)
    · exact n_fX7_takeLine_J23 N g d4 hS z_5
    · refine pc_gd (fun c_8 => ?_)
      refine pc_gd (fun c_9 => ?_)
      refine pc_if (fun _ => ?_) (fun _ => ?_)
      · refine pc_ob (fun r72 e_10 => ?_)
        have t_11 := gq hS (e := 9) (by decide +kernel) e_10
        subst t_11
        refine pc_gd (fun c_12 => ?_)
        refine pc_if (fun _ => ?_) (fun _ => ?_)
        · exact n_fX7_takeLine_J65 N g d4 hS z_5
        · exact n_fX7_takeLine_J47 N g u6 d4 hS z_5
      · exact n_fX7_takeLine_J47 N g u6 d4 hS z_5
theorem n_fX7_readTape_B39 {d0 : Ds} (N : Nat) (g : Gs) (x1 : Nat) (x2 : Int32) (K39 : Int32 × Int32 × Ds → Option (Int32 × Ds)) (y3 : Int32) (y4 : Int32) (d : Ds) (hS : Shp g) (hZ : NF d0 d) (hK39 : ∀ a, NF d0 a.2.2 → pc (K39 a) (fun _ d1 => NF d0 d1)) : pc (fX7_readTape_B39 N g 2 x1 x2 K39 y3 y4 d) (fun _ d1 => NF d0 d1) := by
  unfold fX7_readTape_B39
  refine pc_if (fun _ => ?_) (fun _ => ?_)
  · exact n_fX7_readTape_J76 N g x1 x2 d hS hZ
  · refine pc_if (fun _ => ?_) (fun _ => ?_)
    · exact n_fX7_readTape_J76 N g x1 x2 d hS hZ
    · refine pc_gd (fun c_1 => ?_)
      refine pc_ob (fun r33 e_2 => ?_)
      have t_3 := gq hS (e := 3) (by decide +kernel) e_2
      subst t_3
      refine pc_gd (fun c_4 => ?_)
      refine pc_cb (n_fX8_kindAt N g (dI d 2 3) d hS hZ) (fun u37 d35 z_5 => ?_)
      refine pc_if (fun _ => ?_) (fun _ => ?_)
      · exact n_fX7_readTape_J76 N g x1 x2 d35 hS z_5
      · refine pc_cb (n_fX7_takeLine N g d35 hS z_5) (fun u41 d39 z_6 => ?_)
        refine pc_bd (fun u42 e_7 => ?_)
        exact hK39 _ z_6
theorem n_fX7_readTape_L39 {d0 : Ds} (N : Nat) (g : Gs) (x1 : Nat) (x2 : Int32) (hS : Shp g) (a0 : Int32) (a1 : Int32) (a2 : Ds) (hZ : NF d0 a2) : pc (fX7_readTape_L39 N g 2 x1 x2 (a0, a1, a2)) (fun _ d1 => NF d0 d1) := by
  unfold fX7_readTape_L39
  refine pc_lp (fun a => NF d0 a.2.2) ?_ N (a0, a1, a2) hZ
  rintro K ⟨a0, a1, a2⟩ hZ hK
  exact n_fX7_readTape_B39 N g x1 x2 K a0 a1 a2 hS hZ hK
theorem n_fX7_readTape {d0 : Ds} (N : Nat) (g : Gs) (x1 : Nat) (x2 : Int32) (d : Ds) (hS : Shp g) (hZ : NF d0 d) : pc (fX7_readTape N g 2 x1 x2 d) (fun _ d1 => NF d0 d1) := by
  unfold fX7_readTape
  refine pc_gd (fun c_1 => ?_)
  refine pc_ob (fun r2 e_2 => ?_)
  have t_3 := gq hS (e := 3) (by decide +kernel) e_2
  subst t_3
  refine pc_gd (fun c_4 => ?_)
  refine pc_cv (n_fX8_cut N g x1 x2 d hS hZ) (fun d4 z_5 => ?_)
  refine pc_ob (fun r6 e_6 => ?_)
  have t_7 := gq hS (e := 9) (by decide +kernel) e_6
  subst t_7
  refine pc_gd (fun c_8 => ?_)
  refine pc_cv (n_fX0_clear N g d4 hS z_5) (fun d8 z_9 => ?_)
  refine pc_bd (fun d10 e_10 => ?_)
  have z_11 := NF.i z_9 rfl e_10
  refine pc_bd (fun d11 e_12 => ?_)
  have z_13 := NF.i z_11 rfl e_12
  refine pc_bd (fun d12 e_14 => ?_)
  have z_15 := NF.i z_13 rfl e_14
  refine pc_cb (n_fX7_takeBoard N g d12 hS z_15) (fun u15 d13 z_16 => ?_)
  exact n_fX7_readTape_L39 N g x1 x2 hS u15 0 d13 z_16
theorem n_fX12_byteAt_J22 {d0 : Ds} (N : Nat) (g : Gs) (x1 : Int32) (z0 : Int32) (d : Ds) (hS : Shp g) (hZ : NF d0 d) : pc (fX12_byteAt_J22 N g 328 x1 z0 d) (fun _ d1 => NF d0 d1) := by
  unfold fX12_byteAt_J22
  exact pc_some hZ
theorem n_fX12_byteAt {d0 : Ds} (N : Nat) (g : Gs) (x1 : Int32) (d : Ds) (hS : Shp g) (hZ : NF d0 d) : pc (fX12_byteAt N g 328 x1 d) (fun _ d1 => NF d0 d1) := by
  unfold fX12_byteAt
  refine pc_gd (fun c_1 => ?_)
  refine pc_if (fun _ => ?_) (fun _ => ?_)
  · exact n_fX12_byteAt_J22 N g x1 0 d hS hZ
  · refine pc_ob (fun r3 e_2 => ?_)
    have t_3 := gq hS (e := 330) (by decide +kernel) e_2
    subst t_3
    refine pc_gd (fun c_4 => ?_)
    refine pc_gd (fun c_5 => ?_)
    exact n_fX12_byteAt_J22 N g x1 ((dI d 330 x1.toNatClampNeg) &&& 255) d hS hZ
theorem n_fX12_cutsText_J284 {d0 : Ds} (N : Nat) (g : Gs) (K7 : Int32 × Ds → Option (Unit × Ds)) (y1 : Int32) (d : Ds) (hS : Shp g) (hZ : NF d0 d) (hK7 : ∀ a, NF d0 a.2 → pc (K7 a) (fun _ d1 => NF d0 d1)) : pc (fX12_cutsText_J284 N g 328 K7 y1 d) (fun _ d1 => NF d0 d1) := by
  unfold fX12_cutsText_J284
  exact hK7 _ hZ
theorem n_fX12_cutsText_J67 {d0 : Ds} (N : Nat) (g : Gs) (K7 : Int32 × Ds → Option (Unit × Ds)) (y1 : Int32) (d : Ds) (hS : Shp g) (hZ : NF d0 d) (hK7 : ∀ a, NF d0 a.2 → pc (K7 a) (fun _ d1 => NF d0 d1)) : pc (fX12_cutsText_J67 N g 328 K7 y1 d) (fun _ d1 => NF d0 d1) := by
  unfold fX12_cutsText_J67
  refine pc_bd (fun u10 e_1 => ?_)
  exact n_fX12_cutsText_J284 N g K7 u10 d hS hZ hK7
theorem n_fX12_isLetter_J17 {d0 : Ds} (N : Nat) (g : Gs) (x0 : Int32) (z0 : Int32) (d : Ds) (hS : Shp g) (hZ : NF d0 d) : pc (fX12_isLetter_J17 N g x0 z0 d) (fun _ d1 => NF d0 d1) := by
  unfold fX12_isLetter_J17
  refine pc_gd (fun c_1 => ?_)
  exact pc_some hZ
theorem n_fX12_isLetter_J16 {d0 : Ds} (N : Nat) (g : Gs) (x0 : Int32) (d : Ds) (hS : Shp g) (hZ : NF d0 d) : pc (fX12_isLetter_J16 N g x0 d) (fun _ d1 => NF d0 d1) := by
  unfold fX12_isLetter_J16
  exact n_fX12_isLetter_J17 N g x0 0 d hS hZ
theorem n_fX12_isLetter {d0 : Ds} (N : Nat) (g : Gs) (x0 : Int32) (d : Ds) (hS : Shp g) (hZ : NF d0 d) : pc (fX12_isLetter N g x0 d) (fun _ d1 => NF d0 d1) := by
  unfold fX12_isLetter
  refine pc_if (fun _ => ?_) (fun _ => ?_)
  · exact n_fX12_isLetter_J16 N g x0 d hS hZ
  · refine pc_if (fun _ => ?_) (fun _ => ?_)
    · exact n_fX12_isLetter_J16 N g x0 d hS hZ
    · exact n_fX12_isLetter_J17 N g x0 1 d hS hZ
theorem n_fX12_isDigit_J17 {d0 : Ds} (N : Nat) (g : Gs) (x0 : Int32) (z0 : Int32) (d : Ds) (hS : Shp g) (hZ : NF d0 d) : pc (fX12_isDigit_J17 N g x0 z0 d) (fun _ d1 => NF d0 d1) := by
  unfold fX12_isDigit_J17
  refine pc_gd (fun c_1 => ?_)
  exact pc_some hZ
theorem n_fX12_isDigit_J16 {d0 : Ds} (N : Nat) (g : Gs) (x0 : Int32) (d : Ds) (hS : Shp g) (hZ : NF d0 d) : pc (fX12_isDigit_J16 N g x0 d) (fun _ d1 => NF d0 d1) := by
  unfold fX12_isDigit_J16
  exact n_fX12_isDigit_J17 N g x0 0 d hS hZ
theorem n_fX12_isDigit {d0 : Ds} (N : Nat) (g : Gs) (x0 : Int32) (d : Ds) (hS : Shp g) (hZ : NF d0 d) : pc (fX12_isDigit N g x0 d) (fun _ d1 => NF d0 d1) := by
  unfold fX12_isDigit
  refine pc_if (fun _ => ?_) (fun _ => ?_)
  · exact n_fX12_isDigit_J16 N g x0 d hS hZ
  · refine pc_if (fun _ => ?_) (fun _ => ?_)
    · exact n_fX12_isDigit_J16 N g x0 d hS hZ
    · exact n_fX12_isDigit_J17 N g x0 1 d hS hZ
theorem n_fX12_token {d0 : Ds} (N : Nat) (g : Gs) (x1 : Int32) (x2 : Int32) (x3 : Int32) (x4 : Int64) (d : Ds) (hS : Shp g) (hZ : NF d0 d) : pc (fX12_token N g 328 x1 x2 x3 x4 d) (fun _ d1 => NF d0 d1) := by
  unfold fX12_token
  refine pc_gd (fun c_1 => ?_)
  refine pc_ob (fun r2 e_2 => ?_)
  have t_3 := gq hS (e := 331) (by decide +kernel) e_2
  subst t_3
  refine pc_gd (fun c_4 => ?_)
  refine pc_gd (fun c_5 => ?_)
  refine pc_bd (fun d5 e_6 => ?_)
  have z_7 := NF.i hZ rfl e_6
  refine pc_ob (fun r6 e_8 => ?_)
  have t_9 := gq hS (e := 332) (by decide +kernel) e_8
  subst t_9
  refine pc_gd (fun c_10 => ?_)
  refine pc_gd (fun c_11 => ?_)
  refine pc_bd (fun d9 e_12 => ?_)
  have z_13 := NF.i z_7 rfl e_12
  refine pc_ob (fun r10 e_14 => ?_)
  have t_15 := gq hS (e := 333) (by decide +kernel) e_14
  subst t_15
  refine pc_gd (fun c_16 => ?_)
  refine pc_gd (fun c_17 => ?_)
  refine pc_bd (fun d13 e_18 => ?_)
  have z_19 := NF.i z_13 rfl e_18
  refine pc_ob (fun r14 e_20 => ?_)
  have t_21 := gq hS (e := 334) (by decide +kernel) e_20
  subst t_21
  refine pc_gd (fun c_22 => ?_)
  refine pc_gd (fun c_23 => ?_)
  refine pc_bd (fun d17 e_24 => ?_)
  have z_25 := NF.l z_19 e_24
  refine pc_bd (fun d18 e_26 => ?_)
  have z_27 := NF.i z_25 rfl e_26
  exact pc_some z_27
theorem n_fX12_sign_J12 {d0 : Ds} (N : Nat) (g : Gs) (x1 : Int32) (x2 : Int32) (z0 : Int32) (d : Ds) (hS : Shp g) (hZ : NF d0 d) : pc (fX12_sign_J12 N g 328 x1 x2 z0 328 d) (fun _ d1 => NF d0 d1) := by
  unfold fX12_sign_J12
  refine pc_gd (fun c_1 => ?_)
  refine pc_cv (n_fX12_token N g z0 x1 0 0 d hS hZ) (fun d3 z_2 => ?_)
  exact pc_some z_2
theorem n_fX12_sign {d0 : Ds} (N : Nat) (g : Gs) (x1 : Int32) (x2 : Int32) (d : Ds) (hS : Shp g) (hZ : NF d0 d) : pc (fX12_sign N g 328 x1 x2 d) (fun _ d1 => NF d0 d1) := by
  unfold fX12_sign
  refine pc_if (fun _ => ?_) (fun _ => ?_)
  · exact n_fX12_sign_J12 N g x1 x2 4 d hS hZ
  · exact n_fX12_sign_J12 N g x1 x2 3 d hS hZ
theorem n_fX12_cutsText_J261 {d0 : Ds} (N : Nat) (g : Gs) (K7 : Int32 × Ds → Option (Unit × Ds)) (y1 : Int32) (y3 : Int32) (y4 : Int32) (z0 : Int32) (d : Ds) (hS : Shp g) (hZ : NF d0 d) (hK7 : ∀ a, NF d0 a.2 → pc (K7 a) (fun _ d1 => NF d0 d1)) : pc (fX12_cutsText_J261 N g 328 K7 y1 y3 y4 z0 328 d) (fun _ d1 => NF d0 d1) := by
  unfold fX12_cutsText_J261
  refine pc_gd (fun c_1 => ?_)
  refine pc_cv (n_fX12_token N g z0 y1 y4 0 d hS hZ) (fun d36 z_2 => ?_)
  refine pc_bd (fun u38 e_3 => ?_)
  exact n_fX12_cutsText_J284 N g K7 u38 d36 hS z_2 hK7
theorem n_fX12_cutsText_J244 {d0 : Ds} (N : Nat) (g : Gs) (K7 : Int32 × Ds → Option (Unit × Ds)) (K208 : Int32 × Int32 × Int32 × Ds → Option (Unit × Ds)) (y1 : Int32) (y3 : Int32) (y4 : Int32) (d : Ds) (hS : Shp g) (hZ : NF d0 d) (hK7 : ∀ a, NF d0 a.2 → pc (K7 a) (fun _ d1 => NF d0 d1)) (hK208 : ∀ a, NF d0 a.2.2.2 → pc (K208 a) (fun _ d1 => NF d0 d1)) : pc (fX12_cutsText_J244 N g 328 K7 K208 y1 y3 y4 d) (fun _ d1 => NF d0 d1) := by
  unfold fX12_cutsText_J244
  refine pc_bd (fun u40 e_1 => ?_)
  exact hK208 _ hZ
theorem n_fX12_cutsText_B208 {d0 : Ds} (N : Nat) (g : Gs) (K7 : Int32 × Ds → Option (Unit × Ds)) (K208 : Int32 × Int32 × Int32 × Ds → Option (Unit × Ds)) (y1 : Int32) (y3 : Int32) (y4 : Int32) (d : Ds) (hS : Shp g) (hZ : NF d0 d) (hK7 : ∀ a, NF d0 a.2 → pc (K7 a) (fun _ d1 => NF d0 d1)) (hK208 : ∀ a, NF d0 a.2.2.2 → pc (K208 a) (fun _ d1 => NF d0 d1)) : pc (fX12_cutsText_B208 N g 328 K7 K208 y1 y3 y4 d) (fun _ d1 => NF d0 d1) := by
  unfold fX12_cutsText_B208
  refine pc_gd (fun c_1 => ?_)
  refine pc_cb (n_fX12_byteAt N g (y1 + y3) d hS hZ) (fun u29 d27 z_2 => ?_)
  refine pc_cb (n_fX12_isDigit N g u29 d27 hS z_2) (fun u32 d30 z_3 => ?_)
  refine pc_if (fun _ => ?_) (fun _ => ?_)
  · refine pc_if (fun _ => ?_) (fun _ => ?_)
    · exact n_fX12_cutsText_J261 N g K7 y1 y3 y4 2 d30 hS z_3 hK7
    · exact n_fX12_cutsText_J261 N g K7 y1 y3 y4 3 d30 hS z_3 hK7
  · refine pc_if (fun _ => ?_) (fun _ => ?_)
    · exact n_fX12_cutsText_J244 N g K7 K208 y1 y3 y4 d30 hS z_3 hK7 hK208
    · refine pc_cb (n_fX12_byteAt N g (y1 + y3) d30 hS z_3) (fun u43 d41 z_4 => ?_)
      refine pc_bd (fun u44 e_5 => ?_)
      exact n_fX12_cutsText_J244 N g K7 K208 y1 y3 u44 d41 hS z_4 hK7 hK208
theorem n_fX12_cutsText_L208 {d0 : Ds} (N : Nat) (g : Gs) (K7 : Int32 × Ds → Option (Unit × Ds)) (hS : Shp g) (a0 : Int32) (a1 : Int32) (a2 : Int32) (a3 : Ds) (hZ : NF d0 a3) (hK7 : ∀ a, NF d0 a.2 → pc (K7 a) (fun _ d1 => NF d0 d1)) : pc (fX12_cutsText_L208 N g 328 K7 (a0, a1, a2, a3)) (fun _ d1 => NF d0 d1) := by
  unfold fX12_cutsText_L208
  refine pc_lp (fun a => NF d0 a.2.2.2) ?_ N (a0, a1, a2, a3) hZ
  rintro K ⟨a0, a1, a2, a3⟩ hZ hK
  exact n_fX12_cutsText_B208 N g K7 K a0 a1 a2 a3 hS hZ hK7 hK
theorem n_fX12_cutsText_J179 {d0 : Ds} (N : Nat) (g : Gs) (K7 : Int32 × Ds → Option (Unit × Ds)) (y1 : Int32) (y3 : Int32) (y4 : Int64) (y6 : Int32) (d : Ds) (hS : Shp g) (hZ : NF d0 d) (hK7 : ∀ a, NF d0 a.2 → pc (K7 a) (fun _ d1 => NF d0 d1)) : pc (fX12_cutsText_J179 N g 328 K7 y1 y3 y4 y6 d) (fun _ d1 => NF d0 d1) := by
  unfold fX12_cutsText_J179
  refine pc_gd (fun c_1 => ?_)
  refine pc_cv (n_fX12_token N g y6 y1 0 y4 d hS hZ) (fun d56 z_2 => ?_)
  refine pc_bd (fun u58 e_3 => ?_)
  exact n_fX12_cutsText_J284 N g K7 u58 d56 hS z_2 hK7
theorem n_fX12_cutsText_J173 {d0 : Ds} (N : Nat) (g : Gs) (K7 : Int32 × Ds → Option (Unit × Ds)) (K146 : Int32 × Int32 × Int64 × Int32 × Int32 × Ds → Option (Unit × Ds)) (y1 : Int32) (y3 : Int32) (y4 : Int64) (y6 : Int32) (y7 : Int32) (d : Ds) (hS : Shp g) (hZ : NF d0 d) (hK7 : ∀ a, NF d0 a.2 → pc (K7 a) (fun _ d1 => NF d0 d1)) (hK146 : ∀ a, NF d0 a.2.2.2.2.2 → pc (K146 a) (fun _ d1 => NF d0 d1)) : pc (fX12_cutsText_J173 N g 328 K7 K146 y1 y3 y4 y6 y7 d) (fun _ d1 => NF d0 d1) := by
  unfold fX12_cutsText_J173
  refine pc_bd (fun u65 e_1 => ?_)
  exact hK146 _ hZ
theorem n_fX12_cutsText_B146 {d0 : Ds} (N : Nat) (g : Gs) (K7 : Int32 × Ds → Option (Unit × Ds)) (K146 : Int32 × Int32 × Int64 × Int32 × Int32 × Ds → Option (Unit × Ds)) (y1 : Int32) (y3 : Int32) (y4 : Int64) (y6 : Int32) (y7 : Int32) (d : Ds) (hS : Shp g) (hZ : NF d0 d) (hK7 : ∀ a, NF d0 a.2 → pc (K7 a) (fun _ d1 => NF d0 d1)) (hK146 : ∀ a, NF d0 a.2.2.2.2.2 → pc (K146 a) (fun _ d1 => NF d0 d1)) : pc (fX12_cutsText_B146 N g 328 K7 K146 y1 y3 y4 y6 y7 d) (fun _ d1 => NF d0 d1) := by
  unfold fX12_cutsText_B146
  refine pc_if (fun _ => ?_) (fun _ => ?_)
  · exact n_fX12_cutsText_J179 N g K7 y1 y3 y4 y6 d hS hZ hK7
  · refine pc_gd (fun c_1 => ?_)
    refine pc_ob (fun r61 e_2 => ?_)
    have t_3 := gq hS (e := 335) (by decide +kernel) e_2
    subst t_3
    refine pc_gd (fun c_4 => ?_)
    refine pc_gd (fun c_5 => ?_)
    refine pc_if (fun _ => ?_) (fun _ => ?_)
    · refine pc_bd (fun u66 e_6 => ?_)
      exact n_fX12_cutsText_J173 N g K7 K146 y1 y3 y4 u66 y7 d hS hZ hK7 hK146
    · exact n_fX12_cutsText_J173 N g K7 K146 y1 y3 y4 y6 y7 d hS hZ hK7 hK146
theorem n_fX12_cutsText_L146 {d0 : Ds} (N : Nat) (g : Gs) (K7 : Int32 × Ds → Option (Unit × Ds)) (hS : Shp g) (a0 : Int32) (a1 : Int32) (a2 : Int64) (a3 : Int32) (a4 : Int32) (a5 : Ds) (hZ : NF d0 a5) (hK7 : ∀ a, NF d0 a.2 → pc (K7 a) (fun _ d1 => NF d0 d1)) : pc (fX12_cutsText_L146 N g 328 K7 (a0, a1, a2, a3, a4, a5)) (fun _ d1 => NF d0 d1) := by
  unfold fX12_cutsText_L146
  refine pc_lp (fun a => NF d0 a.2.2.2.2.2) ?_ N (a0, a1, a2, a3, a4, a5) hZ
  rintro K ⟨a0, a1, a2, a3, a4, a5⟩ hZ hK
  exact n_fX12_cutsText_B146 N g K7 K a0 a1 a2 a3 a4 a5 hS hZ hK7 hK
theorem n_fX12_cutsText_J135 {d0 : Ds} (N : Nat) (g : Gs) (K7 : Int32 × Ds → Option (Unit × Ds)) (y1 : Int32) (y3 : Int32) (y4 : Int64) (z0 : Int32) (d : Ds) (hS : Shp g) (hZ : NF d0 d) (hK7 : ∀ a, NF d0 a.2 → pc (K7 a) (fun _ d1 => NF d0 d1)) : pc (fX12_cutsText_J135 N g 328 K7 y1 y3 y4 z0 d) (fun _ d1 => NF d0 d1) := by
  unfold fX12_cutsText_J135
  refine pc_if (fun _ => ?_) (fun _ => ?_)
  · exact n_fX12_cutsText_J179 N g K7 y1 y3 y4 z0 d hS hZ hK7
  · exact n_fX12_cutsText_L146 N g K7 hS y1 y3 y4 z0 0 d hZ hK7
theorem n_fX12_cutsText_J118 {d0 : Ds} (N : Nat) (g : Gs) (K7 : Int32 × Ds → Option (Unit × Ds)) (K85 : Int32 × Int32 × Int64 × Ds → Option (Unit × Ds)) (y1 : Int32) (y3 : Int32) (y4 : Int64) (d : Ds) (hS : Shp g) (hZ : NF d0 d) (hK7 : ∀ a, NF d0 a.2 → pc (K7 a) (fun _ d1 => NF d0 d1)) (hK85 : ∀ a, NF d0 a.2.2.2 → pc (K85 a) (fun _ d1 => NF d0 d1)) : pc (fX12_cutsText_J118 N g 328 K7 K85 y1 y3 y4 d) (fun _ d1 => NF d0 d1) := by
  unfold fX12_cutsText_J118
  refine pc_bd (fun u68 e_1 => ?_)
  exact hK85 _ hZ
theorem n_fX12_appends_J21 {d0 : Ds} (N : Nat) (g : Gs) (x0 : Int64) (x2 : Int32) (z0 : Int64) (d : Ds) (hS : Shp g) (hZ : NF d0 d) : pc (fX12_appends_J21 N g x0 x2 z0 d) (fun _ d1 => NF d0 d1) := by
  unfold fX12_appends_J21
  exact pc_some hZ
theorem n_fX12_appends {d0 : Ds} (N : Nat) (g : Gs) (x0 : Int64) (x2 : Int32) (d : Ds) (hS : Shp g) (hZ : NF d0 d) : pc (fX12_appends N g x0 x2 d) (fun _ d1 => NF d0 d1) := by
  unfold fX12_appends
  refine pc_if (fun _ => ?_) (fun _ => ?_)
  · exact n_fX12_appends_J21 N g x0 x2 x0 d hS hZ
  · exact n_fX12_appends_J21 N g x0 x2 ((27 * x0) + ((x2 - 97) + 1).toInt64) d hS hZ
theorem n_fX12_cutsText_B85 {d0 : Ds} (N : Nat) (g : Gs) (K7 : Int32 × Ds → Option (Unit × Ds)) (K85 : Int32 × Int32 × Int64 × Ds → Option (Unit × Ds)) (y1 : Int32) (y3 : Int32) (y4 : Int64) (d : Ds) (hS : Shp g) (hZ : NF d0 d) (hK7 : ∀ a, NF d0 a.2 → pc (K7 a) (fun _ d1 => NF d0 d1)) (hK85 : ∀ a, NF d0 a.2.2.2 → pc (K85 a) (fun _ d1 => NF d0 d1)) : pc (fX12_cutsText_B85 N g 328 K7 K85 y1 y3 y4 d) (fun _ d1 => NF d0 d1) := by
  unfold fX12_cutsText_B85
  refine pc_gd (fun c_1 => ?_)
  refine pc_cb (n_fX12_byteAt N g (y1 + y3) d hS hZ) (fun u48 d46 z_2 => ?_)
  refine pc_cb (n_fX12_isLetter N g u48 d46 hS z_2) (fun u51 d49 z_3 => ?_)
  refine pc_if (fun _ => ?_) (fun _ => ?_)
  · refine pc_if (fun _ => ?_) (fun _ => ?_)
    · exact n_fX12_cutsText_J135 N g K7 y1 y3 y4 1 d49 hS z_3 hK7
    · exact n_fX12_cutsText_J135 N g K7 y1 y3 y4 3 d49 hS z_3 hK7
  · refine pc_if (fun _ => ?_) (fun _ => ?_)
    · exact n_fX12_cutsText_J118 N g K7 K85 y1 y3 y4 d49 hS z_3 hK7 hK85
    · refine pc_cb (n_fX12_byteAt N g (y1 + y3) d49 hS z_3) (fun u71 d69 z_4 => ?_)
      refine pc_cb (n_fX12_appends N g y4 u71 d69 hS z_4) (fun u74 d72 z_5 => ?_)
      exact n_fX12_cutsText_J118 N g K7 K85 y1 y3 u74 d72 hS z_5 hK7 hK85
theorem n_fX12_cutsText_L85 {d0 : Ds} (N : Nat) (g : Gs) (K7 : Int32 × Ds → Option (Unit × Ds)) (hS : Shp g) (a0 : Int32) (a1 : Int32) (a2 : Int64) (a3 : Ds) (hZ : NF d0 a3) (hK7 : ∀ a, NF d0 a.2 → pc (K7 a) (fun _ d1 => NF d0 d1)) : pc (fX12_cutsText_L85 N g 328 K7 (a0, a1, a2, a3)) (fun _ d1 => NF d0 d1) := by
  unfold fX12_cutsText_L85
  refine pc_lp (fun a => NF d0 a.2.2.2) ?_ N (a0, a1, a2, a3) hZ
  rintro K ⟨a0, a1, a2, a3⟩ hZ hK
  exact n_fX12_cutsText_B85 N g K7 K a0 a1 a2 a3 hS hZ hK7 hK
theorem n_fX12_cutsText_B7 {d0 : Ds} (N : Nat) (g : Gs) (K7 : Int32 × Ds → Option (Unit × Ds)) (y1 : Int32) (d : Ds) (hS : Shp g) (hZ : NF d0 d) (hK7 : ∀ a, NF d0 a.2 → pc (K7 a) (fun _ d1 => NF d0 d1)) : pc (fX12_cutsText_B7 N g 328 K7 y1 d) (fun _ d1 => NF d0 d1) := by
  unfold fX12_cutsText_B7
  refine pc_gd (fun c_1 => ?_)
  refine pc_if (fun _ => ?_) (fun _ => ?_)
  · exact pc_some hZ
  · refine pc_cb (n_fX12_byteAt N g y1 d hS hZ) (fun u7 d5 z_2 => ?_)
    refine pc_if (fun _ => ?_) (fun _ => ?_)
    · refine pc_if (fun _ => ?_) (fun _ => ?_)
      · exact n_fX12_cutsText_J67 N g K7 y1 d5 hS z_2 hK7
      · refine pc_if (fun _ => ?_) (fun _ => ?_)
        · exact n_fX12_cutsText_J67 N g K7 y1 d5 hS z_2 hK7
        · refine pc_if (fun _ => ?_) (fun _ => ?_)
          · exact n_fX12_cutsText_J67 N g K7 y1 d5 hS z_2 hK7
          · refine pc_if (fun _ => ?_) (fun _ => ?_)
            · exact n_fX12_cutsText_J67 N g K7 y1 d5 hS z_2 hK7
            · refine pc_cb (n_fX12_isLetter N g u7 d5 hS z_2) (fun u16 d14 z_3 => ?_)
              refine pc_if (fun _ => ?_) (fun _ => ?_)
              · refine pc_cb (n_fX12_isDigit N g u7 d14 hS z_3) (fun u20 d18 z_4 => ?_)
                refine pc_if (fun _ => ?_) (fun _ => ?_)
                · refine pc_cb (n_fX12_sign N g y1 u7 d18 hS z_4) (fun u24 d22 z_5 => ?_)
                  refine pc_bd (fun u25 e_6 => ?_)
                  exact n_fX12_cutsText_J284 N g K7 u25 d22 hS z_5 hK7
                · exact n_fX12_cutsText_L208 N g K7 hS y1 0 0 d18 z_4 hK7
              · exact n_fX12_cutsText_L85 N g K7 hS y1 0 0 d14 z_3 hK7
    · refine pc_cv (n_fX12_token N g 0 (dI d5 328 4) 0 0 d5 hS z_2) (fun d75 z_7 => ?_)
      exact pc_some z_7
theorem n_fX12_cutsText_L7 {d0 : Ds} (N : Nat) (g : Gs) (hS : Shp g) (a0 : Int32) (a1 : Ds) (hZ : NF d0 a1) : pc (fX12_cutsText_L7 N g 328 (a0, a1)) (fun _ d1 => NF d0 d1) := by
  unfold fX12_cutsText_L7
  refine pc_lp (fun a => NF d0 a.2) ?_ N (a0, a1) hZ
  rintro K ⟨a0, a1⟩ hZ hK
  exact n_fX12_cutsText_B7 N g K a0 a1 hS hZ hK
theorem n_fX12_cutsText {d0 : Ds} (N : Nat) (g : Gs) (d : Ds) (hS : Shp g) (hZ : NF d0 d) : pc (fX12_cutsText N g 328 d) (fun _ d1 => NF d0 d1) := by
  unfold fX12_cutsText
  refine pc_gd (fun c_1 => ?_)
  refine pc_bd (fun d2 e_2 => ?_)
  have z_3 := NF.i hZ rfl e_2
  exact n_fX12_cutsText_L7 N g hS 0 d2 z_3
theorem n_fX12_is_J25 {d0 : Ds} (N : Nat) (g : Gs) (x1 : Int32) (z0 : Int32) (d : Ds) (hS : Shp g) (hZ : NF d0 d) : pc (fX12_is_J25 N g 328 x1 z0 d) (fun _ d1 => NF d0 d1) := by
  unfold fX12_is_J25
  refine pc_gd (fun c_1 => ?_)
  exact pc_some hZ
theorem n_fX12_is_J24 {d0 : Ds} (N : Nat) (g : Gs) (x1 : Int32) (d : Ds) (hS : Shp g) (hZ : NF d0 d) : pc (fX12_is_J24 N g 328 x1 d) (fun _ d1 => NF d0 d1) := by
  unfold fX12_is_J24
  exact n_fX12_is_J25 N g x1 0 d hS hZ
theorem n_fX12_is {d0 : Ds} (N : Nat) (g : Gs) (x1 : Int32) (d : Ds) (hS : Shp g) (hZ : NF d0 d) : pc (fX12_is N g 328 x1 d) (fun _ d1 => NF d0 d1) := by
  unfold fX12_is
  refine pc_gd (fun c_1 => ?_)
  refine pc_if (fun _ => ?_) (fun _ => ?_)
  · refine pc_ob (fun r4 e_2 => ?_)
    have t_3 := gq hS (e := 331) (by decide +kernel) e_2
    subst t_3
    refine pc_gd (fun c_4 => ?_)
    refine pc_gd (fun c_5 => ?_)
    refine pc_if (fun _ => ?_) (fun _ => ?_)
    · exact n_fX12_is_J25 N g x1 1 d hS hZ
    · exact n_fX12_is_J24 N g x1 d hS hZ
  · exact n_fX12_is_J24 N g x1 d hS hZ
theorem n_fX12_fail {d0 : Ds} (N : Nat) (g : Gs) (x1 : Int32) (d : Ds) (hS : Shp g) (hZ : NF d0 d) : pc (fX12_fail N g 328 x1 d) (fun _ d1 => NF d0 d1) := by
  unfold fX12_fail
  refine pc_gd (fun c_1 => ?_)
  refine pc_if (fun _ => ?_) (fun _ => ?_)
  · refine pc_bd (fun d3 e_2 => ?_)
    have z_3 := NF.i hZ rfl e_2
    refine pc_ob (fun r4 e_4 => ?_)
    have t_5 := gq hS (e := 332) (by decide +kernel) e_4
    subst t_5
    refine pc_gd (fun c_6 => ?_)
    refine pc_gd (fun c_7 => ?_)
    refine pc_bd (fun d7 e_8 => ?_)
    have z_9 := NF.i z_3 rfl e_8
    exact pc_some z_9
  · exact pc_some hZ
theorem n_fX12_must_J20 {d0 : Ds} (N : Nat) (g : Gs) (x1 : Int32) (d : Ds) (hS : Shp g) (hZ : NF d0 d) : pc (fX12_must_J20 N g 328 x1 d) (fun _ d1 => NF d0 d1) := by
  unfold fX12_must_J20
  exact pc_some hZ
theorem n_fX12_passes_J28 {d0 : Ds} (N : Nat) (g : Gs) (d : Ds) (hS : Shp g) (hZ : NF d0 d) : pc (fX12_passes_J28 N g 328 d) (fun _ d1 => NF d0 d1) := by
  unfold fX12_passes_J28
  exact pc_some hZ
theorem n_fX12_passes {d0 : Ds} (N : Nat) (g : Gs) (d : Ds) (hS : Shp g) (hZ : NF d0 d) : pc (fX12_passes N g 328 d) (fun _ d1 => NF d0 d1) := by
  unfold fX12_passes
  refine pc_gd (fun c_1 => ?_)
  refine pc_if (fun _ => ?_) (fun _ => ?_)
  · refine pc_cv (n_fX12_fail N g 2 d hS hZ) (fun d4 z_2 => ?_)
    exact n_fX12_passes_J28 N g d4 hS z_2
  · refine pc_bd (fun d3 e_3 => ?_)
    have z_4 := NF.i hZ rfl e_3
    exact n_fX12_passes_J28 N g d3 hS z_4
theorem n_fX12_must {d0 : Ds} (N : Nat) (g : Gs) (x1 : Int32) (d : Ds) (hS : Shp g) (hZ : NF d0 d) : pc (fX12_must N g 328 x1 d) (fun _ d1 => NF d0 d1) := by
  unfold fX12_must
  refine pc_gd (fun c_1 => ?_)
  refine pc_cb (n_fX12_is N g x1 d hS hZ) (fun u4 d2 z_2 => ?_)
  refine pc_if (fun _ => ?_) (fun _ => ?_)
  · refine pc_cv (n_fX12_fail N g 1 d2 hS z_2) (fun d6 z_3 => ?_)
    exact n_fX12_must_J20 N g x1 d6 hS z_3
  · refine pc_cv (n_fX12_passes N g d2 hS z_2) (fun d8 z_4 => ?_)
    exact n_fX12_must_J20 N g x1 d8 hS z_4
theorem n_fX12_tell_J22 {d0 : Ds} (N : Nat) (g : Gs) (d : Ds) (hS : Shp g) (hZ : NF d0 d) : pc (fX12_tell_J22 N g 328 d) (fun _ d1 => NF d0 d1) := by
  unfold fX12_tell_J22
  refine pc_gd (fun c_1 => ?_)
  refine pc_cv (n_fX12_fail N g 1 d hS hZ) (fun d8 z_2 => ?_)
  exact pc_some z_2
theorem n_fX12_tell_J56 {d0 : Ds} (N : Nat) (g : Gs) (d : Ds) (hS : Shp g) (hZ : NF d0 d) : pc (fX12_tell_J56 N g 328 d) (fun _ d1 => NF d0 d1) := by
  unfold fX12_tell_J56
  refine pc_gd (fun c_1 => ?_)
  refine pc_cv (n_fX12_fail N g 2 d hS hZ) (fun d54 z_2 => ?_)
  exact pc_some z_2
theorem n_fX12_deedRead_J33 {d0 : Ds} (N : Nat) (g : Gs) (d : Ds) (hS : Shp g) (hZ : NF d0 d) : pc (fX12_deedRead_J33 N g 328 d) (fun _ d1 => NF d0 d1) := by
  unfold fX12_deedRead_J33
  refine pc_gd (fun c_1 => ?_)
  refine pc_cv (n_fX12_fail N g 1 d hS hZ) (fun d5 z_2 => ?_)
  exact pc_some z_2
theorem n_fX12_deedRead_J55 {d0 : Ds} (N : Nat) (g : Gs) (d : Ds) (hS : Shp g) (hZ : NF d0 d) : pc (fX12_deedRead_J55 N g 328 d) (fun _ d1 => NF d0 d1) := by
  unfold fX12_deedRead_J55
  exact pc_some hZ
theorem n_fX12_deedRead_J109 {d0 : Ds} (N : Nat) (g : Gs) (d : Ds) (hS : Shp g) (hZ : NF d0 d) : pc (fX12_deedRead_J109 N g 328 d) (fun _ d1 => NF d0 d1) := by
  unfold fX12_deedRead_J109
  refine pc_gd (fun c_1 => ?_)
  refine pc_cv (n_fX12_must N g 2 d hS hZ) (fun d26 z_2 => ?_)
  exact pc_some z_2
theorem n_fX12_deedRead_J97 {d0 : Ds} (N : Nat) (g : Gs) (d : Ds) (hS : Shp g) (hZ : NF d0 d) : pc (fX12_deedRead_J97 N g 328 d) (fun _ d1 => NF d0 d1) := by
  unfold fX12_deedRead_J97
  refine pc_gd (fun c_1 => ?_)
  refine pc_cv (n_fX12_passes N g d hS hZ) (fun d23 z_2 => ?_)
  exact n_fX12_deedRead_J109 N g d23 hS z_2
theorem n_fX12_deedRead_J72 {d0 : Ds} (N : Nat) (g : Gs) (y1 : Int32) (d : Ds) (hS : Shp g) (hZ : NF d0 d) : pc (fX12_deedRead_J72 N g 328 y1 d) (fun _ d1 => NF d0 d1) := by
  unfold fX12_deedRead_J72
  refine pc_if (fun _ => ?_) (fun _ => ?_)
  · refine pc_gd (fun c_1 => ?_)
    refine pc_cb (n_fX12_is N g 33 d hS hZ) (fun u20 d18 z_2 => ?_)
    refine pc_if (fun _ => ?_) (fun _ => ?_)
    · refine pc_cb (n_fX12_is N g 32 d18 hS z_2) (fun u30 d28 z_3 => ?_)
      refine pc_if (fun _ => ?_) (fun _ => ?_)
      · refine pc_cv (n_fX12_fail N g 1 d28 hS z_3) (fun d32 z_4 => ?_)
        exact n_fX12_deedRead_J109 N g d32 hS z_4
      · exact n_fX12_deedRead_J97 N g d28 hS z_3
    · exact n_fX12_deedRead_J97 N g d18 hS z_2
  · exact pc_some hZ
theorem n_fX12_deedRead_J20 {d0 : Ds} (N : Nat) (g : Gs) (z0 : Int32) (d : Ds) (hS : Shp g) (hZ : NF d0 d) : pc (fX12_deedRead_J20 N g 328 z0 d) (fun _ d1 => NF d0 d1) := by
  unfold fX12_deedRead_J20
  refine pc_if (fun _ => ?_) (fun _ => ?_)
  · exact n_fX12_deedRead_J33 N g d hS hZ
  · refine pc_if (fun _ => ?_) (fun _ => ?_)
    · refine pc_gd (fun c_1 => ?_)
      refine pc_cv (n_fX12_passes N g d hS hZ) (fun d9 z_2 => ?_)
      refine pc_if (fun _ => ?_) (fun _ => ?_)
      · exact n_fX12_deedRead_J55 N g d9 hS z_2
      · refine pc_if (fun _ => ?_) (fun _ => ?_)
        · exact n_fX12_deedRead_J55 N g d9 hS z_2
        · refine pc_cv (n_fX12_must N g 2 d9 hS z_2) (fun d13 z_3 => ?_)
          refine pc_if (fun _ => ?_) (fun _ => ?_)
          · refine pc_cv (n_fX12_must N g 2 d13 hS z_3) (fun d34 z_4 => ?_)
            exact n_fX12_deedRead_J72 N g z0 d34 hS z_4
          · exact n_fX12_deedRead_J72 N g z0 d13 hS z_3
    · exact n_fX12_deedRead_J33 N g d hS hZ
theorem n_fX12_deedRead {d0 : Ds} (N : Nat) (g : Gs) (d : Ds) (hS : Shp g) (hZ : NF d0 d) : pc (fX12_deedRead N g 328 d) (fun _ d1 => NF d0 d1) := by
  unfold fX12_deedRead
  refine pc_gd (fun c_1 => ?_)
  refine pc_if (fun _ => ?_) (fun _ => ?_)
  · refine pc_ob (fun r36 e_2 => ?_)
    have t_3 := gq hS (e := 331) (by decide +kernel) e_2
    subst t_3
    refine pc_gd (fun c_4 => ?_)
    refine pc_gd (fun c_5 => ?_)
    exact n_fX12_deedRead_J20 N g (dI d 331 (dI d 328 11).toNatClampNeg) d hS hZ
  · exact n_fX12_deedRead_J20 N g 0 d hS hZ
theorem n_fX12_tell_J188 {d0 : Ds} (N : Nat) (g : Gs) (d : Ds) (hS : Shp g) (hZ : NF d0 d) : pc (fX12_tell_J188 N g 328 d) (fun _ d1 => NF d0 d1) := by
  unfold fX12_tell_J188
  refine pc_gd (fun c_1 => ?_)
  refine pc_cv (n_fX12_must N g 4 d hS hZ) (fun d29 z_2 => ?_)
  exact pc_some z_2
theorem n_fX12_tell_J182 {d0 : Ds} (N : Nat) (g : Gs) (K156 : Int32 × Ds → Option (Unit × Ds)) (y2 : Int32) (d : Ds) (hS : Shp g) (hZ : NF d0 d) (hK156 : ∀ a, NF d0 a.2 → pc (K156 a) (fun _ d1 => NF d0 d1)) : pc (fX12_tell_J182 N g 328 K156 y2 d) (fun _ d1 => NF d0 d1) := by
  unfold fX12_tell_J182
  refine pc_bd (fun u39 e_1 => ?_)
  exact hK156 _ hZ
theorem n_fX12_tell_B156 {d0 : Ds} (N : Nat) (g : Gs) (K156 : Int32 × Ds → Option (Unit × Ds)) (y2 : Int32) (d : Ds) (hS : Shp g) (hZ : NF d0 d) (hK156 : ∀ a, NF d0 a.2 → pc (K156 a) (fun _ d1 => NF d0 d1)) : pc (fX12_tell_B156 N g 328 K156 y2 d) (fun _ d1 => NF d0 d1) := by
  unfold fX12_tell_B156
  refine pc_gd (fun c_1 => ?_)
  refine pc_cb (n_fX12_is N g 2 d hS hZ) (fun u34 d32 z_2 => ?_)
  refine pc_if (fun _ => ?_) (fun _ => ?_)
  · exact n_fX12_tell_J188 N g d32 hS z_2
  · refine pc_if (fun _ => ?_) (fun _ => ?_)
    · refine pc_cv (n_fX12_fail N g 2 d32 hS z_2) (fun d40 z_3 => ?_)
      exact n_fX12_tell_J182 N g K156 y2 d40 hS z_3 hK156
    · refine pc_cv (n_fX12_passes N g d32 hS z_2) (fun d37 z_4 => ?_)
      exact n_fX12_tell_J182 N g K156 y2 d37 hS z_4 hK156
theorem n_fX12_tell_L156 {d0 : Ds} (N : Nat) (g : Gs) (hS : Shp g) (a0 : Int32) (a1 : Ds) (hZ : NF d0 a1) : pc (fX12_tell_L156 N g 328 (a0, a1)) (fun _ d1 => NF d0 d1) := by
  unfold fX12_tell_L156
  refine pc_lp (fun a => NF d0 a.2) ?_ N (a0, a1) hZ
  rintro K ⟨a0, a1⟩ hZ hK
  exact n_fX12_tell_B156 N g K a0 a1 hS hZ hK
theorem n_fX12_tell_J148 {d0 : Ds} (N : Nat) (g : Gs) (y1 : Int32) (d : Ds) (hS : Shp g) (hZ : NF d0 d) : pc (fX12_tell_J148 N g 328 y1 d) (fun _ d1 => NF d0 d1) := by
  unfold fX12_tell_J148
  refine pc_if (fun _ => ?_) (fun _ => ?_)
  · exact n_fX12_tell_L156 N g hS 1 d hZ
  · exact n_fX12_tell_J188 N g d hS hZ
theorem n_fX12_tell_J144 {d0 : Ds} (N : Nat) (g : Gs) (y1 : Int32) (d : Ds) (hS : Shp g) (hZ : NF d0 d) : pc (fX12_tell_J144 N g 328 y1 d) (fun _ d1 => NF d0 d1) := by
  unfold fX12_tell_J144
  refine pc_gd (fun c_1 => ?_)
  refine pc_cv (n_fX12_deedRead N g d hS hZ) (fun d25 z_2 => ?_)
  exact n_fX12_tell_J148 N g y1 d25 hS z_2
theorem n_fX12_tell_J132 {d0 : Ds} (N : Nat) (g : Gs) (y1 : Int32) (d : Ds) (hS : Shp g) (hZ : NF d0 d) : pc (fX12_tell_J132 N g 328 y1 d) (fun _ d1 => NF d0 d1) := by
  unfold fX12_tell_J132
  refine pc_if (fun _ => ?_) (fun _ => ?_)
  · exact n_fX12_tell_J144 N g y1 d hS hZ
  · refine pc_if (fun _ => ?_) (fun _ => ?_)
    · exact n_fX12_tell_J144 N g y1 d hS hZ
    · exact n_fX12_tell_J148 N g y1 d hS hZ
theorem n_fX12_tell_J127 {d0 : Ds} (N : Nat) (g : Gs) (y1 : Int32) (d : Ds) (hS : Shp g) (hZ : NF d0 d) : pc (fX12_tell_J127 N g 328 y1 d) (fun _ d1 => NF d0 d1) := by
  unfold fX12_tell_J127
  refine pc_gd (fun c_1 => ?_)
  refine pc_cv (n_fX12_must N g 2 d hS hZ) (fun d21 z_2 => ?_)
  exact n_fX12_tell_J132 N g y1 d21 hS z_2
theorem n_fX12_tell_J109 {d0 : Ds} (N : Nat) (g : Gs) (y1 : Int32) (d : Ds) (hS : Shp g) (hZ : NF d0 d) : pc (fX12_tell_J109 N g 328 y1 d) (fun _ d1 => NF d0 d1) := by
  unfold fX12_tell_J109
  refine pc_if (fun _ => ?_) (fun _ => ?_)
  · exact n_fX12_tell_J127 N g y1 d hS hZ
  · refine pc_if (fun _ => ?_) (fun _ => ?_)
    · exact n_fX12_tell_J127 N g y1 d hS hZ
    · refine pc_if (fun _ => ?_) (fun _ => ?_)
      · exact n_fX12_tell_J127 N g y1 d hS hZ
      · exact n_fX12_tell_J132 N g y1 d hS hZ
theorem n_fX12_tell_J98 {d0 : Ds} (N : Nat) (g : Gs) (y1 : Int32) (d : Ds) (hS : Shp g) (hZ : NF d0 d) : pc (fX12_tell_J98 N g 328 y1 d) (fun _ d1 => NF d0 d1) := by
  unfold fX12_tell_J98
  refine pc_if (fun _ => ?_) (fun _ => ?_)
  · exact n_fX12_tell_J109 N g y1 d hS hZ
  · refine pc_gd (fun c_1 => ?_)
    refine pc_cv (n_fX12_must N g 2 d hS hZ) (fun d46 z_2 => ?_)
    exact n_fX12_tell_J109 N g y1 d46 hS z_2
theorem n_fX12_tell_J82 {d0 : Ds} (N : Nat) (g : Gs) (y1 : Int32) (d : Ds) (hS : Shp g) (hZ : NF d0 d) : pc (fX12_tell_J82 N g 328 y1 d) (fun _ d1 => NF d0 d1) := by
  unfold fX12_tell_J82
  refine pc_if (fun _ => ?_) (fun _ => ?_)
  · refine pc_gd (fun c_1 => ?_)
    refine pc_bd (fun d49 e_2 => ?_)
    have z_3 := NF.i hZ rfl e_2
    exact n_fX12_tell_J98 N g y1 d49 hS z_3
  · exact n_fX12_tell_J98 N g y1 d hS hZ
theorem n_fX12_tell_J62 {d0 : Ds} (N : Nat) (g : Gs) (y1 : Int32) (d : Ds) (hS : Shp g) (hZ : NF d0 d) : pc (fX12_tell_J62 N g 328 y1 d) (fun _ d1 => NF d0 d1) := by
  unfold fX12_tell_J62
  refine pc_gd (fun c_1 => ?_)
  refine pc_cv (n_fX12_passes N g d hS hZ) (fun d14 z_2 => ?_)
  refine pc_if (fun _ => ?_) (fun _ => ?_)
  · refine pc_bd (fun d50 e_3 => ?_)
    have z_4 := NF.i z_2 rfl e_3
    exact n_fX12_tell_J82 N g y1 d50 hS z_4
  · exact n_fX12_tell_J82 N g y1 d14 hS z_2
theorem n_fX12_tell_J42 {d0 : Ds} (N : Nat) (g : Gs) (y1 : Int32) (d : Ds) (hS : Shp g) (hZ : NF d0 d) : pc (fX12_tell_J42 N g 328 y1 d) (fun _ d1 => NF d0 d1) := by
  unfold fX12_tell_J42
  refine pc_if (fun _ => ?_) (fun _ => ?_)
  · refine pc_gd (fun c_1 => ?_)
    refine pc_if (fun _ => ?_) (fun _ => ?_)
    · exact n_fX12_tell_J56 N g d hS hZ
    · exact n_fX12_tell_J62 N g y1 d hS hZ
  · exact n_fX12_tell_J62 N g y1 d hS hZ
theorem n_fX12_tell {d0 : Ds} (N : Nat) (g : Gs) (d : Ds) (hS : Shp g) (hZ : NF d0 d) : pc (fX12_tell N g 328 d) (fun _ d1 => NF d0 d1) := by
  unfold fX12_tell
  refine pc_gd (fun c_1 => ?_)
  refine pc_ob (fun r2 e_2 => ?_)
  have t_3 := gq hS (e := 331) (by decide +kernel) e_2
  subst t_3
  refine pc_gd (fun c_4 => ?_)
  refine pc_gd (fun c_5 => ?_)
  refine pc_bd (fun u5 e_6 => ?_)
  refine pc_if (fun _ => ?_) (fun _ => ?_)
  · exact n_fX12_tell_J22 N g d hS hZ
  · refine pc_if (fun _ => ?_) (fun _ => ?_)
    · refine pc_if (fun _ => ?_) (fun _ => ?_)
      · refine pc_if (fun _ => ?_) (fun _ => ?_)
        · exact n_fX12_tell_J56 N g d hS hZ
        · exact n_fX12_tell_J42 N g u5 d hS hZ
      · exact n_fX12_tell_J42 N g u5 d hS hZ
    · exact n_fX12_tell_J22 N g d hS hZ
theorem n_fX12_begins_J76 {d0 : Ds} (N : Nat) (g : Gs) (K52 : Int32 × Ds → Option (Unit × Ds)) (y1 : Int32) (z0 : Int32) (z1 : Int32) (d : Ds) (hS : Shp g) (hZ : NF d0 d) (hK52 : ∀ a, NF d0 a.2 → pc (K52 a) (fun _ d1 => NF d0 d1)) : pc (fX12_begins_J76 N g 337 K52 y1 z0 z1 337 d) (fun _ d1 => NF d0 d1) := by
  unfold fX12_begins_J76
  refine pc_gd (fun c_1 => ?_)
  refine pc_gd (fun c_2 => ?_)
  refine pc_bd (fun d19 e_3 => ?_)
  have z_4 := NF.i hZ rfl e_3
  refine pc_gd (fun c_5 => ?_)
  refine pc_gd (fun c_6 => ?_)
  refine pc_bd (fun d22 e_7 => ?_)
  have z_8 := NF.i z_4 rfl e_7
  refine pc_gd (fun c_9 => ?_)
  refine pc_bd (fun d24 e_10 => ?_)
  have z_11 := NF.i z_8 rfl e_10
  refine pc_bd (fun u25 e_12 => ?_)
  exact hK52 _ z_11
theorem n_fX12_begins_B52 {d0 : Ds} (N : Nat) (g : Gs) (K52 : Int32 × Ds → Option (Unit × Ds)) (y1 : Int32) (d : Ds) (hS : Shp g) (hZ : NF d0 d) (hK52 : ∀ a, NF d0 a.2 → pc (K52 a) (fun _ d1 => NF d0 d1)) : pc (fX12_begins_B52 N g 337 K52 y1 d) (fun _ d1 => NF d0 d1) := by
  unfold fX12_begins_B52
  refine pc_if (fun _ => ?_) (fun _ => ?_)
  · exact pc_some hZ
  · refine pc_if (fun _ => ?_) (fun _ => ?_)
    · exact n_fX12_begins_J76 N g K52 y1 5 ((12 : Int32) + ((3 : Int32) * y1)) d hS hZ hK52
    · exact n_fX12_begins_J76 N g K52 y1 4 ((12 : Int32) + ((3 : Int32) * y1)) d hS hZ hK52
theorem n_fX12_begins_L52 {d0 : Ds} (N : Nat) (g : Gs) (hS : Shp g) (a0 : Int32) (a1 : Ds) (hZ : NF d0 a1) : pc (fX12_begins_L52 N g 337 (a0, a1)) (fun _ d1 => NF d0 d1) := by
  unfold fX12_begins_L52
  refine pc_lp (fun a => NF d0 a.2) ?_ N (a0, a1) hZ
  rintro K ⟨a0, a1⟩ hZ hK
  exact n_fX12_begins_B52 N g K a0 a1 hS hZ hK
theorem n_fX12_begins_B2 {d0 : Ds} (N : Nat) (g : Gs) (K2 : Int32 × Ds → Option (Unit × Ds)) (y1 : Int32) (d : Ds) (hS : Shp g) (hZ : NF d0 d) (hK2 : ∀ a, NF d0 a.2 → pc (K2 a) (fun _ d1 => NF d0 d1)) : pc (fX12_begins_B2 N g 337 K2 y1 d) (fun _ d1 => NF d0 d1) := by
  unfold fX12_begins_B2
  refine pc_if (fun _ => ?_) (fun _ => ?_)
  · refine pc_gd (fun c_1 => ?_)
    refine pc_gd (fun c_2 => ?_)
    refine pc_bd (fun d4 e_3 => ?_)
    have z_4 := NF.i hZ rfl e_3
    refine pc_gd (fun c_5 => ?_)
    refine pc_bd (fun d6 e_6 => ?_)
    have z_7 := NF.i z_4 rfl e_6
    refine pc_gd (fun c_8 => ?_)
    refine pc_bd (fun d8 e_9 => ?_)
    have z_10 := NF.i z_7 rfl e_9
    refine pc_gd (fun c_11 => ?_)
    refine pc_bd (fun d10 e_12 => ?_)
    have z_13 := NF.i z_10 rfl e_12
    refine pc_gd (fun c_14 => ?_)
    refine pc_bd (fun d12 e_15 => ?_)
    have z_16 := NF.i z_13 rfl e_15
    refine pc_gd (fun c_17 => ?_)
    refine pc_bd (fun d14 e_18 => ?_)
    have z_19 := NF.i z_16 rfl e_18
    exact n_fX12_begins_L52 N g hS 0 d14 z_19
  · refine pc_gd (fun c_20 => ?_)
    refine pc_gd (fun c_21 => ?_)
    refine pc_bd (fun d28 e_22 => ?_)
    have z_23 := NF.i hZ rfl e_22
    refine pc_bd (fun u29 e_24 => ?_)
    exact hK2 _ z_23
theorem n_fX12_begins_L2 {d0 : Ds} (N : Nat) (g : Gs) (hS : Shp g) (a0 : Int32) (a1 : Ds) (hZ : NF d0 a1) : pc (fX12_begins_L2 N g 337 (a0, a1)) (fun _ d1 => NF d0 d1) := by
  unfold fX12_begins_L2
  refine pc_lp (fun a => NF d0 a.2) ?_ N (a0, a1) hZ
  rintro K ⟨a0, a1⟩ hZ hK
  exact n_fX12_begins_B2 N g K a0 a1 hS hZ hK
theorem n_fX12_begins {d0 : Ds} (N : Nat) (g : Gs) (d : Ds) (hS : Shp g) (hZ : NF d0 d) : pc (fX12_begins N g 337 d) (fun _ d1 => NF d0 d1) := by
  unfold fX12_begins
  exact n_fX12_begins_L2 N g hS 0 d hZ
theorem n_fX12_in_J15 {d0 : Ds} (N : Nat) (g : Gs) (x0 : Int32) (x1 : Int32) (x2 : Int32) (z0 : Int32) (d : Ds) (hS : Shp g) (hZ : NF d0 d) : pc (fX12_in_J15 N g x0 x1 x2 z0 d) (fun _ d1 => NF d0 d1) := by
  unfold fX12_in_J15
  refine pc_gd (fun c_1 => ?_)
  exact pc_some hZ
theorem n_fX12_in_J14 {d0 : Ds} (N : Nat) (g : Gs) (x0 : Int32) (x1 : Int32) (x2 : Int32) (d : Ds) (hS : Shp g) (hZ : NF d0 d) : pc (fX12_in_J14 N g x0 x1 x2 d) (fun _ d1 => NF d0 d1) := by
  unfold fX12_in_J14
  exact n_fX12_in_J15 N g x0 x1 x2 0 d hS hZ
theorem n_fX12_in {d0 : Ds} (N : Nat) (g : Gs) (x0 : Int32) (x1 : Int32) (x2 : Int32) (d : Ds) (hS : Shp g) (hZ : NF d0 d) : pc (fX12_in N g x0 x1 x2 d) (fun _ d1 => NF d0 d1) := by
  unfold fX12_in
  refine pc_if (fun _ => ?_) (fun _ => ?_)
  · exact n_fX12_in_J14 N g x0 x1 x2 d hS hZ
  · refine pc_if (fun _ => ?_) (fun _ => ?_)
    · exact n_fX12_in_J14 N g x0 x1 x2 d hS hZ
    · exact n_fX12_in_J15 N g x0 x1 x2 1 d hS hZ
theorem n_fX12_wrong_J45 {d0 : Ds} (N : Nat) (g : Gs) (x1 : Int32) (x2 : Int32) (d : Ds) (hS : Shp g) (hZ : NF d0 d) : pc (fX12_wrong_J45 N g 328 x1 x2 d) (fun _ d1 => NF d0 d1) := by
  unfold fX12_wrong_J45
  exact pc_some hZ
theorem n_fX12_wrong_J46 {d0 : Ds} (N : Nat) (g : Gs) (x1 : Int32) (x2 : Int32) (y3 : Int32) (d : Ds) (hS : Shp g) (hZ : NF d0 d) : pc (fX12_wrong_J46 N g 328 x1 x2 y3 d) (fun _ d1 => NF d0 d1) := by
  unfold fX12_wrong_J46
  refine pc_gd (fun c_1 => ?_)
  refine pc_bd (fun d9 e_2 => ?_)
  have z_3 := NF.i hZ rfl e_2
  refine pc_bd (fun d10 e_4 => ?_)
  have z_5 := NF.i z_3 rfl e_4
  exact pc_some z_5
theorem n_fX12_wrong {d0 : Ds} (N : Nat) (g : Gs) (x1 : Int32) (x2 : Int32) (d : Ds) (hS : Shp g) (hZ : NF d0 d) : pc (fX12_wrong N g 328 x1 x2 d) (fun _ d1 => NF d0 d1) := by
  unfold fX12_wrong
  refine pc_gd (fun c_1 => ?_)
  refine pc_ob (fun r2 e_2 => ?_)
  have t_3 := gq hS (e := 332) (by decide +kernel) e_2
  subst t_3
  refine pc_gd (fun c_4 => ?_)
  refine pc_gd (fun c_5 => ?_)
  refine pc_bd (fun u5 e_6 => ?_)
  refine pc_if (fun _ => ?_) (fun _ => ?_)
  · exact n_fX12_wrong_J45 N g x1 x2 d hS hZ
  · refine pc_if (fun _ => ?_) (fun _ => ?_)
    · exact n_fX12_wrong_J46 N g x1 x2 u5 d hS hZ
    · refine pc_if (fun _ => ?_) (fun _ => ?_)
      · exact n_fX12_wrong_J45 N g x1 x2 d hS hZ
      · refine pc_if (fun _ => ?_) (fun _ => ?_)
        · refine pc_if (fun _ => ?_) (fun _ => ?_)
          · exact n_fX12_wrong_J46 N g x1 x2 u5 d hS hZ
          · exact n_fX12_wrong_J45 N g x1 x2 d hS hZ
        · exact n_fX12_wrong_J46 N g x1 x2 u5 d hS hZ
theorem n_fX12_within_J20 {d0 : Ds} (N : Nat) (g : Gs) (x1 : Int32) (x2 : Int32) (x3 : Int32) (d : Ds) (hS : Shp g) (hZ : NF d0 d) : pc (fX12_within_J20 N g 328 x1 x2 x3 d) (fun _ d1 => NF d0 d1) := by
  unfold fX12_within_J20
  refine pc_gd (fun c_1 => ?_)
  refine pc_ob (fun r10 e_2 => ?_)
  have t_3 := gq hS (e := 333) (by decide +kernel) e_2
  subst t_3
  refine pc_gd (fun c_4 => ?_)
  refine pc_gd (fun c_5 => ?_)
  exact pc_some hZ
theorem n_fX12_within {d0 : Ds} (N : Nat) (g : Gs) (x1 : Int32) (x2 : Int32) (x3 : Int32) (d : Ds) (hS : Shp g) (hZ : NF d0 d) : pc (fX12_within N g 328 x1 x2 x3 d) (fun _ d1 => NF d0 d1) := by
  unfold fX12_within
  refine pc_gd (fun c_1 => ?_)
  refine pc_ob (fun r2 e_2 => ?_)
  have t_3 := gq hS (e := 333) (by decide +kernel) e_2
  subst t_3
  refine pc_gd (fun c_4 => ?_)
  refine pc_gd (fun c_5 => ?_)
  refine pc_cb (n_fX12_in N g (dI d 333 x1.toNatClampNeg) x2 x3 d hS hZ) (fun u7 d5 z_6 => ?_)
  refine pc_if (fun _ => ?_) (fun _ => ?_)
  · refine pc_cv (n_fX12_wrong N g 5 x1 d5 hS z_6) (fun d13 z_7 => ?_)
    exact n_fX12_within_J20 N g x1 x2 x3 d13 hS z_7
  · exact n_fX12_within_J20 N g x1 x2 x3 d5 hS z_6
theorem n_fX12_meansLine_J219 {d0 : Ds} (N : Nat) (g : Gs) (x1 : Int32) (d : Ds) (hS : Shp g) (hZ : NF d0 d) : pc (fX12_meansLine_J219 N g 328 x1 d) (fun _ d1 => NF d0 d1) := by
  unfold fX12_meansLine_J219
  exact pc_some hZ
theorem n_fX12_meansLine_J175 {d0 : Ds} (N : Nat) (g : Gs) (x1 : Int32) (d : Ds) (hS : Shp g) (hZ : NF d0 d) : pc (fX12_meansLine_J175 N g 328 x1 d) (fun _ d1 => NF d0 d1) := by
  unfold fX12_meansLine_J175
  refine pc_gd (fun c_1 => ?_)
  refine pc_ob (fun r57 e_2 => ?_)
  have t_3 := gq hS (e := 337) (by decide +kernel) e_2
  subst t_3
  refine pc_cb (n_fX12_within N g (x1 + 2) 1 20 d hS hZ) (fun u60 d58 z_4 => ?_)
  refine pc_gd (fun c_5 => ?_)
  refine pc_gd (fun c_6 => ?_)
  refine pc_bd (fun d63 e_7 => ?_)
  have z_8 := NF.i z_4 rfl e_7
  exact n_fX12_meansLine_J219 N g x1 d63 hS z_8
theorem n_fX12_keyTold_J32 {d0 : Ds} (N : Nat) (g : Gs) (x1 : Int32) (z0 : Int32) (d : Ds) (hS : Shp g) (hZ : NF d0 d) : pc (fX12_keyTold_J32 N g 328 x1 z0 d) (fun _ d1 => NF d0 d1) := by
  unfold fX12_keyTold_J32
  exact pc_some hZ
theorem n_fX12_keyTold {d0 : Ds} (N : Nat) (g : Gs) (x1 : Int32) (d : Ds) (hS : Shp g) (hZ : NF d0 d) : pc (fX12_keyTold N g 328 x1 d) (fun _ d1 => NF d0 d1) := by
  unfold fX12_keyTold
  refine pc_gd (fun c_1 => ?_)
  refine pc_if (fun _ => ?_) (fun _ => ?_)
  · exact n_fX12_keyTold_J32 N g x1 0 d hS hZ
  · refine pc_ob (fun r3 e_2 => ?_)
    have t_3 := gq hS (e := 337) (by decide +kernel) e_2
    subst t_3
    refine pc_gd (fun c_4 => ?_)
    refine pc_gd (fun c_5 => ?_)
    refine pc_gd (fun c_6 => ?_)
    refine pc_cb (n_fX12_within N g x1 0 (((dI d 337 (0 : Int32).toNatClampNeg) * (dI d 337 (1 : Int32).toNatClampNeg)) - 1) d hS hZ) (fun u9 d7 z_7 => ?_)
    exact n_fX12_keyTold_J32 N g x1 u9 d7 hS z_7
theorem n_fX12_meansDeed_J347 {d0 : Ds} (N : Nat) (g : Gs) (x1 : Int32) (d : Ds) (hS : Shp g) (hZ : NF d0 d) : pc (fX12_meansDeed_J347 N g 328 x1 d) (fun _ d1 => NF d0 d1) := by
  unfold fX12_meansDeed_J347
  exact pc_some hZ
theorem n_fX12_meansDeed_J153 {d0 : Ds} (N : Nat) (g : Gs) (x1 : Int32) (d : Ds) (hS : Shp g) (hZ : NF d0 d) : pc (fX12_meansDeed_J153 N g 328 x1 d) (fun _ d1 => NF d0 d1) := by
  unfold fX12_meansDeed_J153
  refine pc_gd (fun c_1 => ?_)
  refine pc_ob (fun r43 e_2 => ?_)
  have t_3 := gq hS (e := 339) (by decide +kernel) e_2
  subst t_3
  refine pc_cb (n_fX12_within N g (x1 + 1) 1 3 d hS hZ) (fun u46 d44 z_4 => ?_)
  refine pc_gd (fun c_5 => ?_)
  refine pc_gd (fun c_6 => ?_)
  refine pc_bd (fun d49 e_7 => ?_)
  have z_8 := NF.i z_4 rfl e_7
  exact n_fX12_meansDeed_J347 N g x1 d49 hS z_8
theorem n_fX12_meansDeed_J275 {d0 : Ds} (N : Nat) (g : Gs) (x1 : Int32) (z0 : Int32) (z1 : Int32) (d : Ds) (hS : Shp g) (hZ : NF d0 d) : pc (fX12_meansDeed_J275 N g 328 x1 z0 z1 339 d) (fun _ d1 => NF d0 d1) := by
  unfold fX12_meansDeed_J275
  refine pc_gd (fun c_1 => ?_)
  refine pc_gd (fun c_2 => ?_)
  refine pc_bd (fun d79 e_3 => ?_)
  have z_4 := NF.i hZ rfl e_3
  exact n_fX12_meansDeed_J347 N g x1 d79 hS z_4
theorem n_fX12_meansDeed_J226 {d0 : Ds} (N : Nat) (g : Gs) (x1 : Int32) (y2 : Int32) (z0 : Int32) (z1 : Int32) (d : Ds) (hS : Shp g) (hZ : NF d0 d) : pc (fX12_meansDeed_J226 N g 328 x1 y2 z0 z1 339 d) (fun _ d1 => NF d0 d1) := by
  unfold fX12_meansDeed_J226
  refine pc_gd (fun c_1 => ?_)
  refine pc_gd (fun c_2 => ?_)
  refine pc_bd (fun d64 e_3 => ?_)
  have z_4 := NF.i hZ rfl e_3
  refine pc_gd (fun c_5 => ?_)
  refine pc_ob (fun r66 e_6 => ?_)
  have t_7 := gq hS (e := 339) (by decide +kernel) e_6
  subst t_7
  refine pc_cb (n_fX12_within N g (x1 + 1) 1 200 d64 hS z_4) (fun u69 d67 z_8 => ?_)
  refine pc_gd (fun c_9 => ?_)
  refine pc_gd (fun c_10 => ?_)
  refine pc_bd (fun d72 e_11 => ?_)
  have z_12 := NF.i z_8 rfl e_11
  refine pc_if (fun _ => ?_) (fun _ => ?_)
  · refine pc_cb (n_fX12_within N g (x1 + 3) 0 7 d72 hS z_12) (fun u76 d74 z_13 => ?_)
    exact n_fX12_meansDeed_J275 N g x1 u76 2 d74 hS z_13
  · refine pc_cb (n_fX12_within N g (x1 + 3) 1 3 d72 hS z_12) (fun u82 d80 z_14 => ?_)
    exact n_fX12_meansDeed_J275 N g x1 u82 2 d80 hS z_14
theorem n_fX12_meansDeed_J209 {d0 : Ds} (N : Nat) (g : Gs) (x1 : Int32) (z0 : Int32) (d : Ds) (hS : Shp g) (hZ : NF d0 d) : pc (fX12_meansDeed_J209 N g 328 x1 z0 d) (fun _ d1 => NF d0 d1) := by
  unfold fX12_meansDeed_J209
  refine pc_gd (fun c_1 => ?_)
  refine pc_ob (fun r60 e_2 => ?_)
  have t_3 := gq hS (e := 339) (by decide +kernel) e_2
  subst t_3
  refine pc_if (fun _ => ?_) (fun _ => ?_)
  · exact n_fX12_meansDeed_J226 N g x1 z0 7 0 d hS hZ
  · exact n_fX12_meansDeed_J226 N g x1 z0 6 0 d hS hZ
theorem n_fX12_meansDeed {d0 : Ds} (N : Nat) (g : Gs) (x1 : Int32) (d : Ds) (hS : Shp g) (hZ : NF d0 d) : pc (fX12_meansDeed N g 328 x1 d) (fun _ d1 => NF d0 d1) := by
  unfold fX12_meansDeed
  refine pc_gd (fun c_1 => ?_)
  refine pc_ob (fun r2 e_2 => ?_)
  have t_3 := gq hS (e := 339) (by decide +kernel) e_2
  subst t_3
  refine pc_gd (fun c_4 => ?_)
  refine pc_gd (fun c_5 => ?_)
  refine pc_bd (fun d5 e_6 => ?_)
  have z_7 := NF.i hZ rfl e_6
  refine pc_gd (fun c_8 => ?_)
  refine pc_bd (fun d7 e_9 => ?_)
  have z_10 := NF.i z_7 rfl e_9
  refine pc_ob (fun r8 e_11 => ?_)
  have t_12 := gq hS (e := 331) (by decide +kernel) e_11
  subst t_12
  refine pc_gd (fun c_13 => ?_)
  refine pc_gd (fun c_14 => ?_)
  refine pc_if (fun _ => ?_) (fun _ => ?_)
  · refine pc_gd (fun c_15 => ?_)
    refine pc_bd (fun d13 e_16 => ?_)
    have z_17 := NF.i z_10 rfl e_16
    refine pc_cb (n_fX12_within N g (x1 + 1) 0 3 d13 hS z_17) (fun u16 d14 z_18 => ?_)
    refine pc_bd (fun d17 e_19 => ?_)
    have z_20 := NF.i z_18 rfl e_19
    exact n_fX12_meansDeed_J347 N g x1 d17 hS z_20
  · refine pc_if (fun _ => ?_) (fun _ => ?_)
    · refine pc_gd (fun c_21 => ?_)
      refine pc_bd (fun d20 e_22 => ?_)
      have z_23 := NF.i z_10 rfl e_22
      refine pc_cb (n_fX12_within N g (x1 + 1) 1 200 d20 hS z_23) (fun u23 d21 z_24 => ?_)
      refine pc_bd (fun d24 e_25 => ?_)
      have z_26 := NF.i z_24 rfl e_25
      exact n_fX12_meansDeed_J347 N g x1 d24 hS z_26
    · refine pc_if (fun _ => ?_) (fun _ => ?_)
      · refine pc_gd (fun c_27 => ?_)
        refine pc_bd (fun d27 e_28 => ?_)
        have z_29 := NF.i z_10 rfl e_28
        refine pc_cb (n_fX12_within N g (x1 + 1) 0 7 d27 hS z_29) (fun u30 d28 z_30 => ?_)
        refine pc_bd (fun d31 e_31 => ?_)
        have z_32 := NF.i z_30 rfl e_31
        exact n_fX12_meansDeed_J347 N g x1 d31 hS z_32
      · refine pc_if (fun _ => ?_) (fun _ => ?_)
        · refine pc_gd (fun c_33 => ?_)
          refine pc_bd (fun d34 e_34 => ?_)
          have z_35 := NF.i z_10 rfl e_34
          refine pc_cb (n_fX12_within N g (x1 + 1) 1 3 d34 hS z_35) (fun u37 d35 z_36 => ?_)
          refine pc_bd (fun d38 e_37 => ?_)
          have z_38 := NF.i z_36 rfl e_37
          exact n_fX12_meansDeed_J347 N g x1 d38 hS z_38
        · refine pc_if (fun _ => ?_) (fun _ => ?_)
          · refine pc_gd (fun c_39 => ?_)
            refine pc_bd (fun d41 e_40 => ?_)
            have z_41 := NF.i z_10 rfl e_40
            exact n_fX12_meansDeed_J153 N g x1 d41 hS z_41
          · refine pc_if (fun _ => ?_) (fun _ => ?_)
            · refine pc_gd (fun c_42 => ?_)
              refine pc_bd (fun d52 e_43 => ?_)
              have z_44 := NF.i z_10 rfl e_43
              exact n_fX12_meansDeed_J347 N g x1 d52 hS z_44
            · refine pc_if (fun _ => ?_) (fun _ => ?_)
              · refine pc_gd (fun c_45 => ?_)
                refine pc_bd (fun d55 e_46 => ?_)
                have z_47 := NF.i z_10 rfl e_46
                exact n_fX12_meansDeed_J347 N g x1 d55 hS z_47
              · refine pc_if (fun _ => ?_) (fun _ => ?_)
                · refine pc_gd (fun c_48 => ?_)
                  refine pc_if (fun _ => ?_) (fun _ => ?_)
                  · exact n_fX12_meansDeed_J209 N g x1 1 d7 hS z_10
                  · exact n_fX12_meansDeed_J209 N g x1 0 d7 hS z_10
                · refine pc_if (fun _ => ?_) (fun _ => ?_)
                  · refine pc_gd (fun c_49 => ?_)
                    refine pc_bd (fun d85 e_50 => ?_)
                    have z_51 := NF.i z_10 rfl e_50
                    refine pc_cb (n_fX12_within N g (x1 + 1) 1 200 d85 hS z_51) (fun u88 d86 z_52 => ?_)
                    refine pc_bd (fun d89 e_53 => ?_)
                    have z_54 := NF.i z_52 rfl e_53
                    refine pc_cb (n_fX12_within N g (x1 + 2) 1 200 d89 hS z_54) (fun u92 d90 z_55 => ?_)
                    refine pc_bd (fun d93 e_56 => ?_)
                    have z_57 := NF.i z_55 rfl e_56
                    exact n_fX12_meansDeed_J347 N g x1 d93 hS z_57
                  · exact pc_none
theorem n_fX12_meansKey_B36 {d0 : Ds} (N : Nat) (g : Gs) (x1 : Int32) (K36 : Int32 × Int32 × Int32 × Ds → Option (Unit × Ds)) (y2 : Int32) (y3 : Int32) (y4 : Int32) (d : Ds) (hS : Shp g) (hZ : NF d0 d) (hK36 : ∀ a, NF d0 a.2.2.2 → pc (K36 a) (fun _ d1 => NF d0 d1)) : pc (fX12_meansKey_B36 N g 328 x1 K36 y2 y3 y4 d) (fun _ d1 => NF d0 d1) := by
  unfold fX12_meansKey_B36
  refine pc_if (fun _ => ?_) (fun _ => ?_)
  · exact pc_some hZ
  · refine pc_gd (fun c_1 => ?_)
    refine pc_ob (fun r13 e_2 => ?_)
    have t_3 := gq hS (e := 337) (by decide +kernel) e_2
    subst t_3
    refine pc_ob (fun r14 e_4 => ?_)
    have t_5 := gq hS (e := 339) (by decide +kernel) e_4
    subst t_5
    refine pc_gd (fun c_6 => ?_)
    refine pc_gd (fun c_7 => ?_)
    refine pc_gd (fun c_8 => ?_)
    refine pc_gd (fun c_9 => ?_)
    refine pc_bd (fun d19 e_10 => ?_)
    have z_11 := NF.i hZ rfl e_10
    refine pc_bd (fun u20 e_12 => ?_)
    exact hK36 _ z_11
theorem n_fX12_meansKey_L36 {d0 : Ds} (N : Nat) (g : Gs) (x1 : Int32) (hS : Shp g) (a0 : Int32) (a1 : Int32) (a2 : Int32) (a3 : Ds) (hZ : NF d0 a3) : pc (fX12_meansKey_L36 N g 328 x1 (a0, a1, a2, a3)) (fun _ d1 => NF d0 d1) := by
  unfold fX12_meansKey_L36
  refine pc_lp (fun a => NF d0 a.2.2.2) ?_ N (a0, a1, a2, a3) hZ
  rintro K ⟨a0, a1, a2, a3⟩ hZ hK
  exact n_fX12_meansKey_B36 N g x1 K a0 a1 a2 a3 hS hZ hK
theorem n_fX12_meansKey {d0 : Ds} (N : Nat) (g : Gs) (x1 : Int32) (d : Ds) (hS : Shp g) (hZ : NF d0 d) : pc (fX12_meansKey N g 328 x1 d) (fun _ d1 => NF d0 d1) := by
  unfold fX12_meansKey
  refine pc_gd (fun c_1 => ?_)
  refine pc_cb (n_fX12_within N g (x1 + 1) 0 3 d hS hZ) (fun u4 d2 z_2 => ?_)
  refine pc_cb (n_fX12_keyTold N g (x1 + 2) d2 hS z_2) (fun u7 d5 z_3 => ?_)
  refine pc_cv (n_fX12_meansDeed N g (x1 + 3) d5 hS z_3) (fun d8 z_4 => ?_)
  refine pc_if (fun _ => ?_) (fun _ => ?_)
  · exact n_fX12_meansKey_L36 N g x1 hS u4 u7 0 d8 z_4
  · exact pc_some z_4
theorem n_fX12_meansChord_J116 {d0 : Ds} (N : Nat) (g : Gs) (x1 : Int32) (y2 : Int32) (d : Ds) (hS : Shp g) (hZ : NF d0 d) : pc (fX12_meansChord_J116 N g 328 x1 y2 d) (fun _ d1 => NF d0 d1) := by
  unfold fX12_meansChord_J116
  refine pc_gd (fun c_1 => ?_)
  refine pc_cv (n_fX12_meansDeed N g (x1 + 3) d hS hZ) (fun d14 z_2 => ?_)
  refine pc_ob (fun r16 e_3 => ?_)
  have t_4 := gq hS (e := 337) (by decide +kernel) e_3
  subst t_4
  refine pc_ob (fun r17 e_5 => ?_)
  have t_6 := gq hS (e := 333) (by decide +kernel) e_5
  subst t_6
  refine pc_gd (fun c_7 => ?_)
  refine pc_gd (fun c_8 => ?_)
  refine pc_gd (fun c_9 => ?_)
  refine pc_gd (fun c_10 => ?_)
  refine pc_bd (fun d22 e_11 => ?_)
  have z_12 := NF.i z_2 rfl e_11
  refine pc_gd (fun c_13 => ?_)
  refine pc_gd (fun c_14 => ?_)
  refine pc_bd (fun d25 e_15 => ?_)
  have z_16 := NF.i z_12 rfl e_15
  refine pc_ob (fun r26 e_17 => ?_)
  have t_18 := gq hS (e := 339) (by decide +kernel) e_17
  subst t_18
  refine pc_gd (fun c_19 => ?_)
  refine pc_gd (fun c_20 => ?_)
  refine pc_gd (fun c_21 => ?_)
  refine pc_bd (fun d30 e_22 => ?_)
  have z_23 := NF.i z_16 rfl e_22
  refine pc_gd (fun c_24 => ?_)
  refine pc_gd (fun c_25 => ?_)
  refine pc_bd (fun d33 e_26 => ?_)
  have z_27 := NF.i z_23 rfl e_26
  refine pc_gd (fun c_28 => ?_)
  refine pc_bd (fun d35 e_29 => ?_)
  have z_30 := NF.i z_27 rfl e_29
  exact pc_some z_30
theorem n_fX12_isChorded_J47 {d0 : Ds} (N : Nat) (g : Gs) (x1 : Int32) (d : Ds) (hS : Shp g) (hZ : NF d0 d) : pc (fX12_isChorded_J47 N g 328 x1 d) (fun _ d1 => NF d0 d1) := by
  unfold fX12_isChorded_J47
  exact pc_some hZ
theorem n_fX12_isChorded_B2 {d0 : Ds} (N : Nat) (g : Gs) (x1 : Int32) (K2 : Int32 × Ds → Option (Int32 × Ds)) (y2 : Int32) (d : Ds) (hS : Shp g) (hZ : NF d0 d) (hK2 : ∀ a, NF d0 a.2 → pc (K2 a) (fun _ d1 => NF d0 d1)) : pc (fX12_isChorded_B2 N g 328 x1 K2 y2 d) (fun _ d1 => NF d0 d1) := by
  unfold fX12_isChorded_B2
  refine pc_gd (fun c_1 => ?_)
  refine pc_ob (fun r2 e_2 => ?_)
  have t_3 := gq hS (e := 337) (by decide +kernel) e_2
  subst t_3
  refine pc_gd (fun c_4 => ?_)
  refine pc_gd (fun c_5 => ?_)
  refine pc_if (fun _ => ?_) (fun _ => ?_)
  · exact pc_some hZ
  · refine pc_gd (fun c_6 => ?_)
    refine pc_if (fun _ => ?_) (fun _ => ?_)
    · exact n_fX12_isChorded_J47 N g x1 d hS hZ
    · refine pc_gd (fun c_7 => ?_)
      refine pc_if (fun _ => ?_) (fun _ => ?_)
      · exact n_fX12_isChorded_J47 N g x1 d hS hZ
      · refine pc_bd (fun u10 e_8 => ?_)
        exact hK2 _ hZ
theorem n_fX12_isChorded_L2 {d0 : Ds} (N : Nat) (g : Gs) (x1 : Int32) (hS : Shp g) (a0 : Int32) (a1 : Ds) (hZ : NF d0 a1) : pc (fX12_isChorded_L2 N g 328 x1 (a0, a1)) (fun _ d1 => NF d0 d1) := by
  unfold fX12_isChorded_L2
  refine pc_lp (fun a => NF d0 a.2) ?_ N (a0, a1) hZ
  rintro K ⟨a0, a1⟩ hZ hK
  exact n_fX12_isChorded_B2 N g x1 K a0 a1 hS hZ hK
theorem n_fX12_isChorded {d0 : Ds} (N : Nat) (g : Gs) (x1 : Int32) (d : Ds) (hS : Shp g) (hZ : NF d0 d) : pc (fX12_isChorded N g 328 x1 d) (fun _ d1 => NF d0 d1) := by
  unfold fX12_isChorded
  exact n_fX12_isChorded_L2 N g x1 hS 0 d hZ
theorem n_fX12_meansChord_J66 {d0 : Ds} (N : Nat) (g : Gs) (x1 : Int32) (K16 : Int32 × Int32 × Ds → Option (Unit × Ds)) (y2 : Int32) (y3 : Int32) (d : Ds) (hS : Shp g) (hZ : NF d0 d) (hK16 : ∀ a, NF d0 a.2.2 → pc (K16 a) (fun _ d1 => NF d0 d1)) : pc (fX12_meansChord_J66 N g 328 x1 K16 y2 y3 d) (fun _ d1 => NF d0 d1) := by
  unfold fX12_meansChord_J66
  refine pc_gd (fun c_1 => ?_)
  refine pc_cb (n_fX12_keyTold N g (x1 + y3) d hS hZ) (fun u55 d53 z_2 => ?_)
  refine pc_bd (fun u56 e_3 => ?_)
  exact hK16 _ z_2
theorem n_fX12_meansChord_J58 {d0 : Ds} (N : Nat) (g : Gs) (x1 : Int32) (K16 : Int32 × Int32 × Ds → Option (Unit × Ds)) (y2 : Int32) (y3 : Int32) (d : Ds) (hS : Shp g) (hZ : NF d0 d) (hK16 : ∀ a, NF d0 a.2.2 → pc (K16 a) (fun _ d1 => NF d0 d1)) : pc (fX12_meansChord_J58 N g 328 x1 K16 y2 y3 d) (fun _ d1 => NF d0 d1) := by
  unfold fX12_meansChord_J58
  refine pc_gd (fun c_1 => ?_)
  refine pc_cv (n_fX12_wrong N g 3 (x1 + y3) d hS hZ) (fun d50 z_2 => ?_)
  exact n_fX12_meansChord_J66 N g x1 K16 y2 y3 d50 hS z_2 hK16
theorem n_fX12_meansChord_B16 {d0 : Ds} (N : Nat) (g : Gs) (x1 : Int32) (K16 : Int32 × Int32 × Ds → Option (Unit × Ds)) (y2 : Int32) (y3 : Int32) (d : Ds) (hS : Shp g) (hZ : NF d0 d) (hK16 : ∀ a, NF d0 a.2.2 → pc (K16 a) (fun _ d1 => NF d0 d1)) : pc (fX12_meansChord_B16 N g 328 x1 K16 y2 y3 d) (fun _ d1 => NF d0 d1) := by
  unfold fX12_meansChord_B16
  refine pc_if (fun _ => ?_) (fun _ => ?_)
  · refine pc_gd (fun c_1 => ?_)
    refine pc_ob (fun r8 e_2 => ?_)
    have t_3 := gq hS (e := 331) (by decide +kernel) e_2
    subst t_3
    refine pc_gd (fun c_4 => ?_)
    refine pc_gd (fun c_5 => ?_)
    refine pc_bd (fun u11 e_6 => ?_)
    refine pc_if (fun _ => ?_) (fun _ => ?_)
    · exact n_fX12_meansChord_J116 N g x1 y2 d hS hZ
    · refine pc_if (fun _ => ?_) (fun _ => ?_)
      · exact n_fX12_meansChord_J116 N g x1 y2 d hS hZ
      · refine pc_if (fun _ => ?_) (fun _ => ?_)
        · exact n_fX12_meansChord_J116 N g x1 y2 d hS hZ
        · refine pc_cv (n_fX12_wrong N g 5 (x1 + 3) d hS hZ) (fun d38 z_7 => ?_)
          exact n_fX12_meansChord_J116 N g x1 y2 d38 hS z_7
  · refine pc_gd (fun c_8 => ?_)
    refine pc_ob (fun r41 e_9 => ?_)
    have t_10 := gq hS (e := 333) (by decide +kernel) e_9
    subst t_10
    refine pc_gd (fun c_11 => ?_)
    refine pc_gd (fun c_12 => ?_)
    refine pc_bd (fun u44 e_13 => ?_)
    refine pc_cb (n_fX12_isChorded N g u44 d hS hZ) (fun u47 d45 z_14 => ?_)
    refine pc_if (fun _ => ?_) (fun _ => ?_)
    · refine pc_if (fun _ => ?_) (fun _ => ?_)
      · refine pc_gd (fun c_15 => ?_)
        refine pc_if (fun _ => ?_) (fun _ => ?_)
        · exact n_fX12_meansChord_J58 N g x1 K16 y2 y3 d45 hS z_14 hK16
        · exact n_fX12_meansChord_J66 N g x1 K16 y2 y3 d45 hS z_14 hK16
      · exact n_fX12_meansChord_J66 N g x1 K16 y2 y3 d45 hS z_14 hK16
    · exact n_fX12_meansChord_J58 N g x1 K16 y2 y3 d45 hS z_14 hK16
theorem n_fX12_meansChord_L16 {d0 : Ds} (N : Nat) (g : Gs) (x1 : Int32) (hS : Shp g) (a0 : Int32) (a1 : Int32) (a2 : Ds) (hZ : NF d0 a2) : pc (fX12_meansChord_L16 N g 328 x1 (a0, a1, a2)) (fun _ d1 => NF d0 d1) := by
  unfold fX12_meansChord_L16
  refine pc_lp (fun a => NF d0 a.2.2) ?_ N (a0, a1, a2) hZ
  rintro K ⟨a0, a1, a2⟩ hZ hK
  exact n_fX12_meansChord_B16 N g x1 K a0 a1 a2 hS hZ hK
theorem n_fX12_meansChord {d0 : Ds} (N : Nat) (g : Gs) (x1 : Int32) (d : Ds) (hS : Shp g) (hZ : NF d0 d) : pc (fX12_meansChord N g 328 x1 d) (fun _ d1 => NF d0 d1) := by
  unfold fX12_meansChord
  refine pc_gd (fun c_1 => ?_)
  refine pc_ob (fun r2 e_2 => ?_)
  have t_3 := gq hS (e := 337) (by decide +kernel) e_2
  subst t_3
  refine pc_gd (fun c_4 => ?_)
  refine pc_gd (fun c_5 => ?_)
  refine pc_bd (fun u5 e_6 => ?_)
  exact n_fX12_meansChord_L16 N g x1 hS u5 1 d hZ
theorem n_fX12_meansMacro_B19 {d0 : Ds} (N : Nat) (g : Gs) (x1 : Int32) (K19 : Int32 × Int32 × Ds → Option (Unit × Ds)) (y2 : Int32) (y3 : Int32) (d : Ds) (hS : Shp g) (hZ : NF d0 d) (hK19 : ∀ a, NF d0 a.2.2 → pc (K19 a) (fun _ d1 => NF d0 d1)) : pc (fX12_meansMacro_B19 N g 328 x1 K19 y2 y3 d) (fun _ d1 => NF d0 d1) := by
  unfold fX12_meansMacro_B19
  refine pc_gd (fun c_1 => ?_)
  refine pc_ob (fun r8 e_2 => ?_)
  have t_3 := gq hS (e := 331) (by decide +kernel) e_2
  subst t_3
  refine pc_gd (fun c_4 => ?_)
  refine pc_gd (fun c_5 => ?_)
  refine pc_if (fun _ => ?_) (fun _ => ?_)
  · refine pc_ob (fun r16 e_6 => ?_)
    have t_7 := gq hS (e := 337) (by decide +kernel) e_6
    subst t_7
    refine pc_gd (fun c_8 => ?_)
    refine pc_gd (fun c_9 => ?_)
    refine pc_bd (fun d19 e_10 => ?_)
    have z_11 := NF.i hZ rfl e_10
    refine pc_cb (n_fX12_within N g y3 1 200 d19 hS z_11) (fun u22 d20 z_12 => ?_)
    refine pc_gd (fun c_13 => ?_)
    refine pc_bd (fun d24 e_14 => ?_)
    have z_15 := NF.i z_12 rfl e_14
    refine pc_bd (fun u25 e_16 => ?_)
    exact hK19 _ z_15
  · refine pc_ob (fun r12 e_17 => ?_)
    have t_18 := gq hS (e := 337) (by decide +kernel) e_17
    subst t_18
    refine pc_gd (fun c_19 => ?_)
    refine pc_gd (fun c_20 => ?_)
    refine pc_bd (fun d15 e_21 => ?_)
    have z_22 := NF.i hZ rfl e_21
    exact pc_some z_22
theorem n_fX12_meansMacro_L19 {d0 : Ds} (N : Nat) (g : Gs) (x1 : Int32) (hS : Shp g) (a0 : Int32) (a1 : Int32) (a2 : Ds) (hZ : NF d0 a2) : pc (fX12_meansMacro_L19 N g 328 x1 (a0, a1, a2)) (fun _ d1 => NF d0 d1) := by
  unfold fX12_meansMacro_L19
  refine pc_lp (fun a => NF d0 a.2.2) ?_ N (a0, a1, a2) hZ
  rintro K ⟨a0, a1, a2⟩ hZ hK
  exact n_fX12_meansMacro_B19 N g x1 K a0 a1 a2 hS hZ hK
theorem n_fX12_meansMacro {d0 : Ds} (N : Nat) (g : Gs) (x1 : Int32) (d : Ds) (hS : Shp g) (hZ : NF d0 d) : pc (fX12_meansMacro N g 328 x1 d) (fun _ d1 => NF d0 d1) := by
  unfold fX12_meansMacro
  refine pc_gd (fun c_1 => ?_)
  refine pc_ob (fun r2 e_2 => ?_)
  have t_3 := gq hS (e := 337) (by decide +kernel) e_2
  subst t_3
  refine pc_gd (fun c_4 => ?_)
  refine pc_gd (fun c_5 => ?_)
  refine pc_bd (fun u5 e_6 => ?_)
  refine pc_bd (fun u6 e_7 => ?_)
  exact n_fX12_meansMacro_L19 N g x1 hS u5 u6 d hZ
theorem n_fX12_meansLine {d0 : Ds} (N : Nat) (g : Gs) (x1 : Int32) (d : Ds) (hS : Shp g) (hZ : NF d0 d) : pc (fX12_meansLine N g 328 x1 d) (fun _ d1 => NF d0 d1) := by
  unfold fX12_meansLine
  refine pc_gd (fun c_1 => ?_)
  refine pc_ob (fun r2 e_2 => ?_)
  have t_3 := gq hS (e := 331) (by decide +kernel) e_2
  subst t_3
  refine pc_gd (fun c_4 => ?_)
  refine pc_gd (fun c_5 => ?_)
  refine pc_if (fun _ => ?_) (fun _ => ?_)
  · exact n_fX12_meansLine_J219 N g x1 d hS hZ
  · refine pc_if (fun _ => ?_) (fun _ => ?_)
    · refine pc_ob (fun r7 e_6 => ?_)
      have t_7 := gq hS (e := 337) (by decide +kernel) e_6
      subst t_7
      refine pc_gd (fun c_8 => ?_)
      refine pc_gd (fun c_9 => ?_)
      refine pc_bd (fun d10 e_10 => ?_)
      have z_11 := NF.i hZ rfl e_10
      exact n_fX12_meansLine_J219 N g x1 d10 hS z_11
    · refine pc_if (fun _ => ?_) (fun _ => ?_)
      · refine pc_ob (fun r12 e_12 => ?_)
        have t_13 := gq hS (e := 337) (by decide +kernel) e_12
        subst t_13
        refine pc_gd (fun c_14 => ?_)
        refine pc_gd (fun c_15 => ?_)
        refine pc_bd (fun d15 e_16 => ?_)
        have z_17 := NF.i hZ rfl e_16
        exact n_fX12_meansLine_J219 N g x1 d15 hS z_17
      · refine pc_if (fun _ => ?_) (fun _ => ?_)
        · refine pc_ob (fun r17 e_18 => ?_)
          have t_19 := gq hS (e := 337) (by decide +kernel) e_18
          subst t_19
          refine pc_cb (n_fX12_within N g (x1 + 1) 1 9 d hS hZ) (fun u20 d18 z_20 => ?_)
          refine pc_gd (fun c_21 => ?_)
          refine pc_gd (fun c_22 => ?_)
          refine pc_bd (fun d23 e_23 => ?_)
          have z_24 := NF.i z_20 rfl e_23
          exact n_fX12_meansLine_J219 N g x1 d23 hS z_24
        · refine pc_if (fun _ => ?_) (fun _ => ?_)
          · refine pc_ob (fun r25 e_25 => ?_)
            have t_26 := gq hS (e := 337) (by decide +kernel) e_25
            subst t_26
            refine pc_cb (n_fX12_within N g (x1 + 1) 1 99 d hS hZ) (fun u28 d26 z_27 => ?_)
            refine pc_gd (fun c_28 => ?_)
            refine pc_gd (fun c_29 => ?_)
            refine pc_bd (fun d31 e_30 => ?_)
            have z_31 := NF.i z_27 rfl e_30
            exact n_fX12_meansLine_J219 N g x1 d31 hS z_31
          · refine pc_if (fun _ => ?_) (fun _ => ?_)
            · refine pc_ob (fun r33 e_32 => ?_)
              have t_33 := gq hS (e := 337) (by decide +kernel) e_32
              subst t_33
              refine pc_cb (n_fX12_within N g (x1 + 1) 1 20 d hS hZ) (fun u36 d34 z_34 => ?_)
              refine pc_gd (fun c_35 => ?_)
              refine pc_gd (fun c_36 => ?_)
              refine pc_bd (fun d39 e_37 => ?_)
              have z_38 := NF.i z_34 rfl e_37
              exact n_fX12_meansLine_J219 N g x1 d39 hS z_38
            · refine pc_if (fun _ => ?_) (fun _ => ?_)
              · refine pc_ob (fun r41 e_39 => ?_)
                have t_40 := gq hS (e := 337) (by decide +kernel) e_39
                subst t_40
                refine pc_cb (n_fX12_within N g (x1 + 1) 1 40 d hS hZ) (fun u44 d42 z_41 => ?_)
                refine pc_gd (fun c_42 => ?_)
                refine pc_gd (fun c_43 => ?_)
                refine pc_bd (fun d47 e_44 => ?_)
                have z_45 := NF.i z_41 rfl e_44
                exact n_fX12_meansLine_J219 N g x1 d47 hS z_45
              · refine pc_if (fun _ => ?_) (fun _ => ?_)
                · refine pc_ob (fun r49 e_46 => ?_)
                  have t_47 := gq hS (e := 337) (by decide +kernel) e_46
                  subst t_47
                  refine pc_cb (n_fX12_within N g (x1 + 1) 1 99 d hS hZ) (fun u52 d50 z_48 => ?_)
                  refine pc_gd (fun c_49 => ?_)
                  refine pc_gd (fun c_50 => ?_)
                  refine pc_bd (fun d55 e_51 => ?_)
                  have z_52 := NF.i z_48 rfl e_51
                  exact n_fX12_meansLine_J175 N g x1 d55 hS z_52
                · refine pc_if (fun _ => ?_) (fun _ => ?_)
                  · refine pc_cv (n_fX12_meansKey N g x1 d hS hZ) (fun d65 z_53 => ?_)
                    exact n_fX12_meansLine_J219 N g x1 d65 hS z_53
                  · refine pc_if (fun _ => ?_) (fun _ => ?_)
                    · refine pc_cv (n_fX12_meansChord N g x1 d hS hZ) (fun d68 z_54 => ?_)
                      exact n_fX12_meansLine_J219 N g x1 d68 hS z_54
                    · refine pc_if (fun _ => ?_) (fun _ => ?_)
                      · refine pc_cv (n_fX12_meansMacro N g x1 d hS hZ) (fun d71 z_55 => ?_)
                        exact n_fX12_meansLine_J219 N g x1 d71 hS z_55
                      · exact pc_none
theorem n_fX12_means_J77 {d0 : Ds} (N : Nat) (g : Gs) (K52 : Int32 × Ds → Option (Unit × Ds)) (y1 : Int32) (d : Ds) (hS : Shp g) (hZ : NF d0 d) (hK52 : ∀ a, NF d0 a.2 → pc (K52 a) (fun _ d1 => NF d0 d1)) : pc (fX12_means_J77 N g 328 K52 y1 d) (fun _ d1 => NF d0 d1) := by
  unfold fX12_means_J77
  refine pc_bd (fun u26 e_1 => ?_)
  exact hK52 _ hZ
theorem n_fX12_means_B52 {d0 : Ds} (N : Nat) (g : Gs) (K52 : Int32 × Ds → Option (Unit × Ds)) (y1 : Int32) (d : Ds) (hS : Shp g) (hZ : NF d0 d) (hK52 : ∀ a, NF d0 a.2 → pc (K52 a) (fun _ d1 => NF d0 d1)) : pc (fX12_means_B52 N g 328 K52 y1 d) (fun _ d1 => NF d0 d1) := by
  unfold fX12_means_B52
  refine pc_gd (fun c_1 => ?_)
  refine pc_if (fun _ => ?_) (fun _ => ?_)
  · exact pc_some hZ
  · refine pc_ob (fun r22 e_2 => ?_)
    have t_3 := gq hS (e := 331) (by decide +kernel) e_2
    subst t_3
    refine pc_gd (fun c_4 => ?_)
    refine pc_gd (fun c_5 => ?_)
    refine pc_if (fun _ => ?_) (fun _ => ?_)
    · refine pc_cv (n_fX12_meansLine N g y1 d hS hZ) (fun d27 z_6 => ?_)
      exact n_fX12_means_J77 N g K52 y1 d27 hS z_6 hK52
    · exact n_fX12_means_J77 N g K52 y1 d hS hZ hK52
theorem n_fX12_means_L52 {d0 : Ds} (N : Nat) (g : Gs) (hS : Shp g) (a0 : Int32) (a1 : Ds) (hZ : NF d0 a1) : pc (fX12_means_L52 N g 328 (a0, a1)) (fun _ d1 => NF d0 d1) := by
  unfold fX12_means_L52
  refine pc_lp (fun a => NF d0 a.2) ?_ N (a0, a1) hZ
  rintro K ⟨a0, a1⟩ hZ hK
  exact n_fX12_means_B52 N g K a0 a1 hS hZ hK
theorem n_fX12_means_J47 {d0 : Ds} (N : Nat) (g : Gs) (z0 : Int32) (d : Ds) (hS : Shp g) (hZ : NF d0 d) : pc (fX12_means_J47 N g 328 z0 328 d) (fun _ d1 => NF d0 d1) := by
  unfold fX12_means_J47
  refine pc_gd (fun c_1 => ?_)
  refine pc_gd (fun c_2 => ?_)
  refine pc_bd (fun d19 e_3 => ?_)
  have z_4 := NF.i hZ rfl e_3
  exact n_fX12_means_L52 N g hS 4 d19 z_4
theorem n_fX12_means {d0 : Ds} (N : Nat) (g : Gs) (d : Ds) (hS : Shp g) (hZ : NF d0 d) : pc (fX12_means N g 328 d) (fun _ d1 => NF d0 d1) := by
  unfold fX12_means
  refine pc_gd (fun c_1 => ?_)
  refine pc_ob (fun r2 e_2 => ?_)
  have t_3 := gq hS (e := 337) (by decide +kernel) e_2
  subst t_3
  refine pc_cv (n_fX12_begins N g d hS hZ) (fun d3 z_4 => ?_)
  refine pc_cb (n_fX12_within N g 1 1 4 d3 hS z_4) (fun u7 d5 z_5 => ?_)
  refine pc_gd (fun c_6 => ?_)
  refine pc_gd (fun c_7 => ?_)
  refine pc_bd (fun d10 e_8 => ?_)
  have z_9 := NF.i z_5 rfl e_8
  refine pc_cb (n_fX12_within N g 2 1 6 d10 hS z_9) (fun u13 d11 z_10 => ?_)
  refine pc_gd (fun c_11 => ?_)
  refine pc_bd (fun d15 e_12 => ?_)
  have z_13 := NF.i z_10 rfl e_12
  refine pc_if (fun _ => ?_) (fun _ => ?_)
  · exact n_fX12_means_J47 N g 1 d15 hS z_13
  · exact n_fX12_means_J47 N g 0 d15 hS z_13
