/-! the law: after each call the world is as the rows want it -/
def bnw (n : Int) : Nat → Int := fun q => if q = 400 then 0 else if q = 247 then 2147480000 else n
theorem bnw_4 {n : Int} : bnw n 400 = 0 := if_pos rfl
theorem bnw_p {n : Int} : bnw n 247 = 2147480000 := by
  unfold bnw
  rw [if_neg (by decide), if_pos rfl]
theorem bnw_n {n : Int} {q : Nat} (h : q ≠ 400) (hp : q ≠ 247) : bnw n q = n := by
  unfold bnw
  rw [if_neg h, if_neg hp]
theorem bnw_le {n m : Int} (h : n ≤ m) : ∀ q, bnw n q ≤ bnw m q := by
  intro q
  unfold bnw
  split
  · exact Int.le_refl _
  · split
    · exact Int.le_refl _
    · exact h
theorem bnw_u {n : Int} : HUf (bnw n) := fun p q h1 h2 h3 h4 => (bnw_n h1 h2).trans (bnw_n h3 h4).symm
def WI (n : Int) (d : Ds) : Prop := Bnd (bnw n) d ∧ RWf (rw_ d) ∧ HD d
theorem WI.w {n m : Int} {d : Ds} (h : WI n d) (hn : n ≤ m) : WI m d := ⟨h.1.mono (bnw_le hn), h.2⟩
/-- an operation of the class -/
theorem WI.cl {M : Nat} {n : Int} {d d' : Ds} (h : WI n d) (hI : Inv M (bnw n) d d') (h55 : (List.range 13).all (fun i => !Nat.testBit M (3520 + i)) = true) (h63 : Nat.testBit M 4032 = false) : WI n d' := ⟨hI.1, by rw [nu_frm hI h55]; exact h.2.1, hd_frm hI h63 h.2.2⟩
/-- one of the model -/
theorem WI.mo {M : Nat} {n : Int} {d d' : Ds} (h : WI n d) (hI : Inv M (bnw n) d d') (h0 : Nat.testBit M 3520 = false) (h2 : Nat.testBit M 3522 = false) (h3 : Nat.testBit M 3523 = false) (h10 : Nat.testBit M 3530 = false) (h12 : Nat.testBit M 3532 = false) (h63 : Nat.testBit M 4032 = false) : WI n d' := ⟨hI.1, rwf_frm hI h.1 h0 h2 h3 h10 h12 h.2.1, hd_frm hI h63 h.2.2⟩
theorem gk {L : Nat} {y k : Int32} {a m : Int} (hy : y.toInt = a) (hk : k.toInt = m) (h : 0 ≤ a ∧ 0 ≤ m ∧ a + m < L ∧ L ≤ 4000) : ¬ (y + k < 0 ∨ L ≤ (y + k).toNatClampNeg) := by
  have q := z_add (x := y) (y := k) hy hk (by omega) (by omega)
  have e0 : (0 : Int32).toInt = 0 := by decide
  rintro (z | z)
  · have := Int32.lt_iff_toInt_lt.mp z
    omega
  · have : (y + k).toNatClampNeg = (y + k).toInt.toNat := rfl
    omega
theorem no21 {x : Int32} (h : ¬ (x.toInt < 0 ∨ 20 < x.toInt)) (h0 : ¬ x = 0) (h1 : ¬ x = 1) (h2 : ¬ x = 2) (h3 : ¬ x = 3) (h4 : ¬ x = 4) (h5 : ¬ x = 5) (h6 : ¬ x = 6) (h7 : ¬ x = 7) (h8 : ¬ x = 8) (h9 : ¬ x = 9) (h10 : ¬ x = 10) (h11 : ¬ x = 11) (h12 : ¬ x = 12) (h13 : ¬ x = 13) (h14 : ¬ x = 14) (h15 : ¬ x = 15) (h16 : ¬ x = 16) (h17 : ¬ x = 17) (h18 : ¬ x = 18) (h19 : ¬ x = 19) (h20 : ¬ x = 20) : False := by
  have k : ∀ n : Int32, ¬ x = n → ¬ x.toInt = n.toInt := fun n h z => h (Int32.toInt_inj.mp z)
  have k0 := k _ h0
  have e0 : (0 : Int32).toInt = 0 := by decide
  have k1 := k _ h1
  have e1 : (1 : Int32).toInt = 1 := by decide
  have k2 := k _ h2
  have e2 : (2 : Int32).toInt = 2 := by decide
  have k3 := k _ h3
  have e3 : (3 : Int32).toInt = 3 := by decide
  have k4 := k _ h4
  have e4 : (4 : Int32).toInt = 4 := by decide
  have k5 := k _ h5
  have e5 : (5 : Int32).toInt = 5 := by decide
  have k6 := k _ h6
  have e6 : (6 : Int32).toInt = 6 := by decide
  have k7 := k _ h7
  have e7 : (7 : Int32).toInt = 7 := by decide
  have k8 := k _ h8
  have e8 : (8 : Int32).toInt = 8 := by decide
  have k9 := k _ h9
  have e9 : (9 : Int32).toInt = 9 := by decide
  have k10 := k _ h10
  have e10 : (10 : Int32).toInt = 10 := by decide
  have k11 := k _ h11
  have e11 : (11 : Int32).toInt = 11 := by decide
  have k12 := k _ h12
  have e12 : (12 : Int32).toInt = 12 := by decide
  have k13 := k _ h13
  have e13 : (13 : Int32).toInt = 13 := by decide
  have k14 := k _ h14
  have e14 : (14 : Int32).toInt = 14 := by decide
  have k15 := k _ h15
  have e15 : (15 : Int32).toInt = 15 := by decide
  have k16 := k _ h16
  have e16 : (16 : Int32).toInt = 16 := by decide
  have k17 := k _ h17
  have e17 : (17 : Int32).toInt = 17 := by decide
  have k18 := k _ h18
  have e18 : (18 : Int32).toInt = 18 := by decide
  have k19 := k _ h19
  have e19 : (19 : Int32).toInt = 19 := by decide
  have k20 := k _ h20
  have e20 : (20 : Int32).toInt = 20 := by decide
  omega
theorem law_body {g : Gs} (hS : Shp g) (hG : gN g - 0 ≤ 600000 ∧ gS g - 0 ≤ 7302250) {L : Nat} (hL : L ≤ 3072) {xs : Nat → Int32} {K : Nat × Nat × Int32 × Gs × Ds → Option (Unit × Ds)} {y : Int32} {c : Nat} (hy : y.toInt = 6 * (c : Int)) {d : Ds} (hW0 : WI (2125050 * (c : Int)) d) (hT0 : RR d) (hK : ∀ (y1 : Int32) (d1 : Ds), y1.toInt = 6 * ((c + 1 : Nat) : Int) → 6 * ((c + 1 : Nat) : Int) ≤ L → WI (2125050 * ((c + 1 : Nat) : Int)) d1 → RR d1 → ok (K (0, 328, y1, g, d1)) (fun _ _ => True)) : ok (fL_law_B18 10000 L xs 0 0 K 0 328 y g d) (fun _ _ => True) := by
  unfold fL_law_B18
  refine ok_if (fun _ => ok_gd hG (ok_some trivial)) (fun c0 => ?_)
  have eL : (Int32.ofNat L).toInt = L := Int32.toInt_ofNat_of_lt (by omega)
  have e6 : (6 : Int32).toInt = 6 := by decide
  have hle : 6 * (c : Int) + 6 ≤ L := by
    have q := z_sub (x := Int32.ofNat L) (y := 6) eL e6 (by omega) (by omega)
    have := Int32.le_iff_toInt_le.mp (nlt c0)
    omega
  obtain ⟨n, hn⟩ : ∃ n : Int, n = 2125050 * (c : Int) := ⟨_, rfl⟩
  rw [← hn] at hW0
  have hn1 : n + 2125050 ≤ 1088025600 := by omega
  have hn0 : 0 ≤ n := by omega
  have g0 : ¬ (y < 0 ∨ L ≤ y.toNatClampNeg) := by
    have e0 : (0 : Int32).toInt = 0 := by decide
    rintro (z | z)
    · have := Int32.lt_iff_toInt_lt.mp z
      omega
    · have : y.toNatClampNeg = y.toInt.toNat := rfl
      omega
  have g1 : ¬ (y + 1 < 0 ∨ L ≤ (y + 1).toNatClampNeg) := gk hy (by decide : (1 : Int32).toInt = 1) (by omega)
  have g2 : ¬ (y + 2 < 0 ∨ L ≤ (y + 2).toNatClampNeg) := gk hy (by decide : (2 : Int32).toInt = 2) (by omega)
  have g3 : ¬ (y + 3 < 0 ∨ L ≤ (y + 3).toNatClampNeg) := gk hy (by decide : (3 : Int32).toInt = 3) (by omega)
  have g4 : ¬ (y + 4 < 0 ∨ L ≤ (y + 4).toNatClampNeg) := gk hy (by decide : (4 : Int32).toInt = 4) (by omega)
  have g5 : ¬ (y + 5 < 0 ∨ L ≤ (y + 5).toNatClampNeg) := gk hy (by decide : (5 : Int32).toInt = 5) (by omega)
  have j771 : ∀ d1 : Ds, WI (n + 2125050) d1 → RR d1 → ok (fL_law_J771 10000 L xs 0 0 K 0 328 y g d1) (fun _ _ => True) := by
    intro d1 h ht
    unfold fL_law_J771
    refine ok_bd (fun u31 e31 => ?_)
    have q := z_add (x := y) (y := 6) hy e6 (by omega) (by omega)
    refine hK u31 d1 (by rw [e31, q]; omega) (by omega) ?_ ht
    rw [show 2125050 * ((c + 1 : Nat) : Int) = n + 2125050 by omega]
    exact h
  refine ok_gd g0 ?_
  refine ok_if (fun _ => j771 _ (hW0.w (by omega)) hT0) (fun ct => ?_)
  refine ok_if (fun _ => ?_) (fun w0 => ?_)
  · refine ok_gd (g1) ?_
    refine ok_gd (g2) ?_
    refine ok_gd (g3) ?_
    refine ok_gd (g4) ?_
    refine ok_gd (g5) ?_
    refine ok_gd (kd_10 hS km_10) ?_
    refine ok_gd (hG) ?_
    refine ok_cb (ok_pc (ok_pc (sX11_feed__10 hS km_10 hW0.1) (feed_b hS (rd_10_1 hW0.1 km_10))) (k_fX11_feed _ _ _ _ _ _ _ _ _ hS hT0.2.1)) (fun u1 e2 r3z => ?_)
    obtain ⟨r3, r3k⟩ := r3z
    have w4 := hW0.cl r3.1.1 (by decide +kernel) (by decide +kernel)
    refine ok_gd (kd_11 hS mo_11) ?_
    refine ok_cb (ok_pc (ok_pc (sX12_feed__11 hS mo_11 w4.1) (feedm_b hS (rd_11_2 w4.1 mo_11))) (k_fX12_feed _ _ _ _ _ _ _ _ _ hS r3k)) (fun u6 e7 r8z => ?_)
    obtain ⟨r8, r8k⟩ := r8z
    have w9 := w4.mo r8.1.1 (by decide +kernel) (by decide +kernel) (by decide +kernel) (by decide +kernel) (by decide +kernel) (by decide +kernel)
    obtain ⟨t10q, t10b⟩ := fd_tb hT0.1 r3.2.1 r3.2.2 r8.2.1 r8.2.2
    have t10 : RR e7 := rr_feed hT0 t10b r8k r3.2.2 r8.2.2
    exact j771 _ (w9.w (by omega)) t10
  refine ok_if (fun _ => ?_) (fun w1 => ?_)
  · refine ok_gd (g1) ?_
    refine ok_gd (kd_10 hS km_10) ?_
    refine ok_gd (hG) ?_
    refine ok_cb (ok_pc (ok_pc (sX11_back__10 hS km_10 hW0.1) back_b) (k_fX11_back _ _ _ _ _ hS hT0.2.1)) (fun u11 e12 r13z => ?_)
    obtain ⟨r13, r13k⟩ := r13z
    have w14 := hW0.cl r13.1.1 (by decide +kernel) (by decide +kernel)
    unfold fL_law_J205
    refine ok_gd (g1) ?_
    refine ok_gd (kd_11 hS mo_11) ?_
    refine ok_gd (hG) ?_
    refine ok_cb (ok_pc (ok_pc (sX12_back__11 hS mo_11 w14.1) backm_b) (k_fX12_back _ _ _ _ _ hS r13k)) (fun u16 e17 r18z => ?_)
    obtain ⟨r18, r18k⟩ := r18z
    have w19 := w14.mo r18.1.1 (by decide +kernel) (by decide +kernel) (by decide +kernel) (by decide +kernel) (by decide +kernel) (by decide +kernel)
    obtain ⟨t20q, t20b⟩ := bk_tb hT0.1 r13.2.1 r13.2.2 r18.2.1 r18.2.2
    have t20 : RR e17 := rr_feed hT0 t20b r18k (fun r j a _ => r13.2.2 r j a) (fun r j a _ => r18.2.2 r j a)
    exact j771 _ (w19.w (by omega)) t20
  refine ok_if (fun _ => ?_) (fun w2 => ?_)
  · refine ok_gd (kd_10 hS km_10) ?_
    refine ok_gd (hG) ?_
    refine ok_cb (ok_pc (ok_pc (sX11_read__10 hS km_10 hW0.1) (k_fX11_read _ _ _ _ hS hT0.2.1)) pc_self) (fun u21 e22 r23z => ?_)
    obtain ⟨⟨r23, r23k⟩, r23s⟩ := r23z
    have w24 := hW0.cl r23.1 (by decide +kernel) (by decide +kernel)
    refine ok_gd (kd_11 hS mo_11) ?_
    refine ok_cb (ok_pc (ok_pc (sX12_read_w hS mo_11 w24.2.1 w24.1) (k_fX12_read _ _ _ _ hS r23k)) pc_self) (fun u26 e27 r28z => ?_)
    obtain ⟨⟨r28, r28k⟩, r28s⟩ := r28z
    have w29 : WI n e27 := ⟨r28.1.1, r28.2.1, hd_frm r28.1 (by decide +kernel) w24.2.2⟩
    obtain ⟨t30q, t30⟩ := rr_read hS hT0 r23k r28k r23s r23.1 r28s r28.1 r23.2.2 r28.2.2
    exact j771 _ (w29.w (by omega)) t30
  refine ok_if (fun _ => ?_) (fun w3 => ?_)
  · refine ok_gd (kd_10 hS km_10) ?_
    refine ok_gd (hG) ?_
    refine ok_cb (ok_pc (ok_pc (sX11_place__10 hS km_10 hW0.1) (k_fX11_place _ _ _ _ hS hT0.2.1)) pc_self) (fun u31 e32 r33z => ?_)
    obtain ⟨⟨r33, r33k⟩, r33s⟩ := r33z
    have w34 : WI n e32 := by rw [r33.1]; exact hW0
    refine ok_gd (kd_11 hS mo_11) ?_
    refine ok_cb (ok_pc (ok_pc (sX12_place__11 hS mo_11 w34.1) (k_fX12_place _ _ _ _ hS r33k)) pc_self) (fun u36 e37 r38z => ?_)
    obtain ⟨⟨r38, r38k⟩, r38s⟩ := r38z
    have w39 : WI n e37 := by rw [r38.1]; exact w34
    have t40q := rr_place hT0 r33s r33.1 r38s
    have t40 : RR e37 := by rw [r38.1, r33.1]; exact hT0
    exact j771 _ (w39.w (by omega)) t40
  refine ok_if (fun _ => ?_) (fun w4 => ?_)
  · refine ok_gd (g1) ?_
    refine ok_gd (g2) ?_
    refine ok_if (fun q41 => ?_) (fun q41 => ?_)
    · unfold fL_law_J263
      refine ok_gd (kd_10 hS km_10) ?_
      refine ok_gd (hG) ?_
      refine ok_cb (ok_pc (ok_pc (sX11_press__10 hS km_10 (by decide) hW0.1) (k_fX11_press _ _ _ _ _ _ hS hT0.2.1)) pc_self) (fun u42 e43 r44z => ?_)
      obtain ⟨⟨r44, r44k⟩, r44s⟩ := r44z
      have w45 := hW0.cl r44.1 (by decide +kernel) (by decide +kernel)
      refine ok_gd (g1) ?_
      refine ok_gd (g2) ?_
      refine ok_if (fun _ => ?_) (fun z => absurd q41 z)
      unfold fL_law_J285
      refine ok_gd (kd_11 hS mo_11) ?_
      refine ok_gd (hG) ?_
      refine ok_cb (ok_pc (ok_pc (sX12_press__11 hS mo_11 (by decide) w45.1) (k_fX12_press _ _ _ _ _ _ hS r44k)) pc_self) (fun u47 e48 r49z => ?_)
      obtain ⟨⟨r49, r49k⟩, r49s⟩ := r49z
      have w50 := w45.mo r49.1 (by decide +kernel) (by decide +kernel) (by decide +kernel) (by decide +kernel) (by decide +kernel) (by decide +kernel)
      have t51b := tb_frm r49.1 (by decide +kernel) (by decide +kernel) (by decide +kernel) (by decide +kernel) (tb_frm r44.1 (by decide +kernel) (by decide +kernel) (by decide +kernel) (by decide +kernel) hT0.1)
      obtain ⟨t51q, t51⟩ := rr_press hS hT0 t51b r49k r44s r44.1 r49s r49.1
      refine ok_if (fun _ => ?_) (fun z => absurd t51q z)
      exact j771 _ (w50.w (by omega)) t51
    · unfold fL_law_J263
      refine ok_gd (kd_10 hS km_10) ?_
      refine ok_gd (hG) ?_
      refine ok_cb (ok_pc (ok_pc (sX11_press__10 hS km_10 (by decide) hW0.1) (k_fX11_press _ _ _ _ _ _ hS hT0.2.1)) pc_self) (fun u52 e53 r54z => ?_)
      obtain ⟨⟨r54, r54k⟩, r54s⟩ := r54z
      have w55 := hW0.cl r54.1 (by decide +kernel) (by decide +kernel)
      refine ok_gd (g1) ?_
      refine ok_gd (g2) ?_
      refine ok_if (fun z => absurd z q41) (fun _ => ?_)
      unfold fL_law_J285
      refine ok_gd (kd_11 hS mo_11) ?_
      refine ok_gd (hG) ?_
      refine ok_cb (ok_pc (ok_pc (sX12_press__11 hS mo_11 (by decide) w55.1) (k_fX12_press _ _ _ _ _ _ hS r54k)) pc_self) (fun u57 e58 r59z => ?_)
      obtain ⟨⟨r59, r59k⟩, r59s⟩ := r59z
      have w60 := w55.mo r59.1 (by decide +kernel) (by decide +kernel) (by decide +kernel) (by decide +kernel) (by decide +kernel) (by decide +kernel)
      have t61b := tb_frm r59.1 (by decide +kernel) (by decide +kernel) (by decide +kernel) (by decide +kernel) (tb_frm r54.1 (by decide +kernel) (by decide +kernel) (by decide +kernel) (by decide +kernel) hT0.1)
      obtain ⟨t61q, t61⟩ := rr_press hS hT0 t61b r59k r54s r54.1 r59s r59.1
      refine ok_if (fun _ => ?_) (fun z => absurd t61q z)
      exact j771 _ (w60.w (by omega)) t61
  refine ok_if (fun _ => ?_) (fun w5 => ?_)
  · refine ok_gd (g1) ?_
    refine ok_gd (kd_10 hS km_10) ?_
    refine ok_gd (hG) ?_
    refine ok_cb (ok_pc (sX11_tick__10 (b := bnw n) (B := bp (bnw n) 227 2043200) hS ⟨bp_le (by decide), by rw [bp_o]; exact Int.le_refl _, by rw [bp_o, bnw_n (by decide) (by decide)]; omega⟩ km_10 hW0.1) (k_fX11_tick _ _ _ _ _ hS hT0.2.1)) (fun u62 e63 r64z => ?_)
    obtain ⟨r64, r64k⟩ := r64z
    have w65 : RWf (rw_ e63) := by rw [nu_frm r64.1 (by decide +kernel)]; exact hW0.2.1
    have w65h : HD e63 := hd_frm r64.1 (by decide +kernel) hW0.2.2
    have t66 : RR e63 := rr_frm r64.1 (by decide +kernel) (by decide +kernel) (by decide +kernel) (by decide +kernel) (by decide +kernel) (by decide +kernel) r64k hT0
    refine ok_gd (kd_11 hS mo_11) ?_
    refine ok_cb (ok_pc (sX12_tick_w (B := bnw (n + 2125050)) hS mo_11 ⟨fun q => ?_, ?_, ?_⟩ w65 r64.1.1) (k_fX12_tick _ _ _ _ _ hS r64k)) (fun u67 e68 r69z => ?_)
    · by_cases hq : q = 227
      · rw [hq, bp_o, bnw_n (by decide) (by decide), bnw_n (by decide) (by decide)]; omega
      · rw [bp_ne hq]; exact bnw_le (by omega) q
    · rw [bp_ne (by decide), bnw_n (by decide) (by decide), bnw_n (by decide) (by decide)]; exact Int.le_refl _
    · rw [bnw_n (by decide) (by decide)]; omega
    obtain ⟨r69, r69k⟩ := r69z
    have w70 : WI (n + 2125050) e68 := ⟨r69.1.1, r69.2, hd_frm r69.1 (by decide +kernel) w65h⟩
    have t71 : RR e68 := rr_frm r69.1 (by decide +kernel) (by decide +kernel) (by decide +kernel) (by decide +kernel) (by decide +kernel) (by decide +kernel) r69k t66
    exact j771 _ w70 t71
  refine ok_if (fun _ => ?_) (fun w6 => ?_)
  · refine ok_gd (g1) ?_
    refine ok_gd (g2) ?_
    refine ok_gd (kd_10 hS km_10) ?_
    refine ok_gd (hG) ?_
    refine ok_cb (ok_pc (sX11_key__10 hS km_10 hW0.1) (k_fX11_key _ _ _ _ _ _ hS hT0.2.1)) (fun u72 e73 r74z => ?_)
    obtain ⟨r74, r74k⟩ := r74z
    have w75 : WI n e73 := by rw [r74.1]; exact hW0
    have t76 : RR e73 := by rw [r74.1]; exact hT0
    refine ok_gd (kd_11 hS mo_11) ?_
    refine ok_cb (ok_pc (sX12_key__11 hS mo_11 w75.1) (k_fX12_key _ _ _ _ _ _ hS r74k)) (fun u77 e78 r79z => ?_)
    obtain ⟨r79, r79k⟩ := r79z
    have w80 := w75.mo r79.1 (by decide +kernel) (by decide +kernel) (by decide +kernel) (by decide +kernel) (by decide +kernel) (by decide +kernel)
    have t81 : RR e78 := rr_frm r79.1 (by decide +kernel) (by decide +kernel) (by decide +kernel) (by decide +kernel) (by decide +kernel) (by decide +kernel) r79k t76
    exact j771 _ (w80.w (by omega)) t81
  refine ok_if (fun _ => ?_) (fun w7 => ?_)
  · refine ok_gd (g1) ?_
    refine ok_gd (g2) ?_
    refine ok_gd (g3) ?_
    refine ok_gd (kd_10 hS km_10) ?_
    refine ok_gd (hG) ?_
    refine ok_cb (ok_pc (sX11_deed__10 hS km_10 hW0.1) (k_fX11_deed _ _ _ _ _ _ _ hS hT0.2.1)) (fun u82 e83 r84z => ?_)
    obtain ⟨r84, r84k⟩ := r84z
    have w85 : WI n e83 := by rw [r84.1]; exact hW0
    have t86 : RR e83 := by rw [r84.1]; exact hT0
    refine ok_gd (kd_11 hS mo_11) ?_
    refine ok_cb (ok_pc (sX12_deed__11 hS mo_11 w85.1) (k_fX12_deed _ _ _ _ _ _ _ hS r84k)) (fun u87 e88 r89z => ?_)
    obtain ⟨r89, r89k⟩ := r89z
    have w90 : WI n e88 := by rw [r89.1]; exact w85
    have t91 : RR e88 := by rw [r89.1]; exact t86
    unfold fL_law_J389
    exact j771 _ (w90.w (by omega)) t91
  refine ok_if (fun _ => ?_) (fun w8 => ?_)
  · refine ok_gd (g1) ?_
    refine ok_gd (g2) ?_
    refine ok_gd (kd_10 hS km_10) ?_
    refine ok_gd (hG) ?_
    refine ok_cb (ok_pc (sX11_does__10 hS km_10 hW0.1) (k_fX11_does _ _ _ _ _ _ hS hT0.2.1)) (fun u92 e93 r94z => ?_)
    obtain ⟨r94, r94k⟩ := r94z
    have w95 : WI n e93 := by rw [r94.1]; exact hW0
    have t96 : RR e93 := by rw [r94.1]; exact hT0
    refine ok_gd (kd_11 hS mo_11) ?_
    refine ok_cb (ok_pc (sX12_does__11 hS mo_11 w95.1) (k_fX12_does _ _ _ _ _ _ hS r94k)) (fun u97 e98 r99z => ?_)
    obtain ⟨r99, r99k⟩ := r99z
    have w100 : WI n e98 := by rw [r99.1]; exact w95
    have t101 : RR e98 := by rw [r99.1]; exact t96
    exact j771 _ (w100.w (by omega)) t101
  refine ok_if (fun _ => ?_) (fun w9 => ?_)
  · refine ok_gd (g1) ?_
    refine ok_gd (g2) ?_
    refine ok_gd (kd_10 hS km_10) ?_
    refine ok_gd (hG) ?_
    refine ok_cb (ok_pc (sX11_event__10 hS km_10 hW0.1) (k_fX11_event _ _ _ _ _ _ hS hT0.2.1)) (fun u102 e103 r104z => ?_)
    obtain ⟨r104, r104k⟩ := r104z
    have w105 : WI n e103 := by rw [r104.1]; exact hW0
    have t106 : RR e103 := by rw [r104.1]; exact hT0
    refine ok_gd (kd_11 hS mo_11) ?_
    refine ok_cb (ok_pc (sX12_event__11 hS mo_11 w105.1) (k_fX12_event _ _ _ _ _ _ hS r104k)) (fun u107 e108 r109z => ?_)
    obtain ⟨r109, r109k⟩ := r109z
    have w110 : WI n e108 := by rw [r109.1]; exact w105
    have t111 : RR e108 := by rw [r109.1]; exact t106
    exact j771 _ (w110.w (by omega)) t111
  refine ok_if (fun _ => ?_) (fun w10 => ?_)
  · refine ok_gd (g1) ?_
    refine ok_gd (g2) ?_
    refine ok_gd (kd_10 hS km_10) ?_
    refine ok_gd (hG) ?_
    refine ok_cb (ok_pc (sX11_report__10 hS km_10 hW0.1) (k_fX11_report _ _ _ _ _ _ hS hT0.2.1)) (fun u112 e113 r114z => ?_)
    obtain ⟨r114, r114k⟩ := r114z
    have w115 : WI n e113 := by rw [r114.1]; exact hW0
    have t116 : RR e113 := by rw [r114.1]; exact hT0
    refine ok_gd (kd_11 hS mo_11) ?_
    refine ok_cb (ok_pc (sX12_report__11 hS mo_11 w115.1) (k_fX12_report _ _ _ _ _ _ hS r114k)) (fun u117 e118 r119z => ?_)
    obtain ⟨r119, r119k⟩ := r119z
    have w120 : WI n e118 := by rw [r119.1]; exact w115
    have t121 : RR e118 := by rw [r119.1]; exact t116
    unfold fL_law_J488
    exact j771 _ (w120.w (by omega)) t121
  refine ok_if (fun _ => ?_) (fun w11 => ?_)
  · refine ok_gd (g1) ?_
    refine ok_gd (kd_10 hS km_10) ?_
    refine ok_gd (hG) ?_
    refine ok_cb (ok_pc (sX11_sent__10 hS km_10 hW0.1) (k_fX11_sent _ _ _ _ _ hS hT0.2.1)) (fun u122 e123 r124z => ?_)
    obtain ⟨r124, r124k⟩ := r124z
    have w125 := hW0.cl r124.1 (by decide +kernel) (by decide +kernel)
    have t126 : RR e123 := rr_frm r124.1 (by decide +kernel) (by decide +kernel) (by decide +kernel) (by decide +kernel) (by decide +kernel) (by decide +kernel) r124k hT0
    refine ok_gd (kd_11 hS mo_11) ?_
    refine ok_cb (ok_pc (sX12_sent__11 hS mo_11 w125.1) (k_fX12_sent _ _ _ _ _ hS r124k)) (fun u127 e128 r129z => ?_)
    obtain ⟨r129, r129k⟩ := r129z
    have w130 := w125.mo r129.1 (by decide +kernel) (by decide +kernel) (by decide +kernel) (by decide +kernel) (by decide +kernel) (by decide +kernel)
    have t131 : RR e128 := rr_frm r129.1 (by decide +kernel) (by decide +kernel) (by decide +kernel) (by decide +kernel) (by decide +kernel) (by decide +kernel) r129k t126
    exact j771 _ (w130.w (by omega)) t131
  refine ok_if (fun _ => ?_) (fun w12 => ?_)
  · refine ok_gd (g1) ?_
    refine ok_gd (kd_10 hS km_10) ?_
    refine ok_gd (hG) ?_
    refine ok_cb (ok_pc (sX11_host__10 hS km_10 hW0.1) (k_fX11_host _ _ _ _ _ hS hT0.2.1)) (fun u132 e133 r134z => ?_)
    obtain ⟨r134, r134k⟩ := r134z
    have w135 : WI n e133 := by rw [r134.1]; exact hW0
    have t136 : RR e133 := by rw [r134.1]; exact hT0
    refine ok_gd (kd_11 hS mo_11) ?_
    refine ok_cb (ok_pc (sX12_host__11 hS mo_11 w135.1) (k_fX12_host _ _ _ _ _ hS r134k)) (fun u137 e138 r139z => ?_)
    obtain ⟨r139, r139k⟩ := r139z
    have w140 : WI n e138 := by rw [r139.1]; exact w135
    have t141 : RR e138 := by rw [r139.1]; exact t136
    exact j771 _ (w140.w (by omega)) t141
  refine ok_if (fun _ => ?_) (fun w13 => ?_)
  · refine ok_gd (g1) ?_
    refine ok_gd (g2) ?_
    refine ok_gd (kd_10 hS km_10) ?_
    refine ok_gd (hG) ?_
    refine ok_cb (ok_pc (sX11_strokes__10 hS km_10 hW0.1) (k_fX11_strokes _ _ _ _ _ _ hS hT0.2.1)) (fun u142 e143 r144z => ?_)
    obtain ⟨r144, r144k⟩ := r144z
    have w145 : WI n e143 := by rw [r144.1]; exact hW0
    have t146 : RR e143 := by rw [r144.1]; exact hT0
    refine ok_gd (kd_11 hS mo_11) ?_
    refine ok_cb (ok_pc (sX12_strokes__11 hS mo_11 w145.1) (k_fX12_strokes _ _ _ _ _ _ hS r144k)) (fun u147 e148 r149z => ?_)
    obtain ⟨r149, r149k⟩ := r149z
    have w150 : WI n e148 := by rw [r149.1]; exact w145
    have t151 : RR e148 := by rw [r149.1]; exact t146
    exact j771 _ (w150.w (by omega)) t151
  refine ok_if (fun _ => ?_) (fun w14 => ?_)
  · refine ok_gd (g1) ?_
    refine ok_gd (g2) ?_
    refine ok_gd (kd_10 hS km_10) ?_
    refine ok_gd (hG) ?_
    refine ok_cb (ok_pc (sX11_chord__10 hS km_10 (Int.le_of_eq bnw_4) hW0.1) (k_fX11_chord _ _ _ _ _ _ hS hT0.2.1)) (fun u152 e153 r154z => ?_)
    obtain ⟨r154, r154k⟩ := r154z
    have w155 : WI n e153 := by rw [r154.1]; exact hW0
    have t156 : RR e153 := by rw [r154.1]; exact hT0
    unfold fL_law_J585
    refine ok_gd (g1) ?_
    refine ok_gd (g2) ?_
    refine ok_gd (kd_11 hS mo_11) ?_
    refine ok_gd (hG) ?_
    refine ok_cb (ok_pc (sX12_chord__11 hS mo_11 w155.1) (k_fX12_chord _ _ _ _ _ _ hS r154k)) (fun u157 e158 r159z => ?_)
    obtain ⟨r159, r159k⟩ := r159z
    have w160 : WI n e158 := by rw [r159.1]; exact w155
    have t161 : RR e158 := by rw [r159.1]; exact t156
    exact j771 _ (w160.w (by omega)) t161
  refine ok_if (fun _ => ?_) (fun w15 => ?_)
  · refine ok_gd (g1) ?_
    refine ok_gd (g2) ?_
    refine ok_gd (kd_10 hS km_10) ?_
    refine ok_gd (hG) ?_
    refine ok_cb (ok_pc (ok_pc (sX11_macro__10 hS km_10 hW0.1) (k_fX11_macro _ _ _ _ _ _ hS hT0.2.1)) pc_self) (fun u162 e163 r164z => ?_)
    obtain ⟨⟨r164, r164k⟩, r164s⟩ := r164z
    have w165 : WI n e163 := by rw [r164.1]; exact hW0
    refine ok_gd (kd_11 hS mo_11) ?_
    refine ok_cb (ok_pc (ok_pc (sX12_macro__11 hS mo_11 w165.1) (k_fX12_macro _ _ _ _ _ _ hS r164k)) pc_self) (fun u167 e168 r169z => ?_)
    obtain ⟨⟨r169, r169k⟩, r169s⟩ := r169z
    have w170 : WI n e168 := by rw [r169.1]; exact w165
    have t171q := rr_macro hS hT0 hW0.1 r164s r164.1 r169s
    have t171 : RR e168 := by rw [r169.1, r164.1]; exact hT0
    exact j771 _ (w170.w (by omega)) t171
  refine ok_if (fun _ => ?_) (fun w16 => ?_)
  · refine ok_gd (g1) ?_
    refine ok_gd (g2) ?_
    refine ok_gd (kd_10 hS km_10) ?_
    refine ok_gd (hG) ?_
    refine ok_cb (ok_pc (sX11_ghosts__10 hS km_10 hW0.1) (k_fX11_ghosts _ _ _ _ _ _ hS hT0.2.1)) (fun u172 e173 r174z => ?_)
    obtain ⟨r174, r174k⟩ := r174z
    have w175 := hW0.cl r174.1 (by decide +kernel) (by decide +kernel)
    have t176 : RR e173 := rr_frm r174.1 (by decide +kernel) (by decide +kernel) (by decide +kernel) (by decide +kernel) (by decide +kernel) (by decide +kernel) r174k hT0
    refine ok_gd (kd_11 hS mo_11) ?_
    refine ok_cb (ok_pc (sX12_ghosts__11 hS mo_11 w175.1) (k_fX12_ghosts _ _ _ _ _ _ hS r174k)) (fun u177 e178 r179z => ?_)
    obtain ⟨r179, r179k⟩ := r179z
    have w180 := w175.mo r179.1 (by decide +kernel) (by decide +kernel) (by decide +kernel) (by decide +kernel) (by decide +kernel) (by decide +kernel)
    have t181 : RR e178 := rr_frm r179.1 (by decide +kernel) (by decide +kernel) (by decide +kernel) (by decide +kernel) (by decide +kernel) (by decide +kernel) r179k t176
    exact j771 _ (w180.w (by omega)) t181
  refine ok_if (fun _ => ?_) (fun w17 => ?_)
  · refine ok_gd (g1) ?_
    refine ok_gd (g2) ?_
    refine ok_gd (kd_10 hS km_10) ?_
    refine ok_gd (hG) ?_
    refine ok_cb (ok_pc (ok_pc (sX11_ahead_w hS km_10 (by rw [bnw_p, bnw_n (by decide) (by decide)]; omega) (by rw [bnw_p]; exact Int.le_refl _) hW0.1) (k_fX11_ahead _ _ _ _ _ _ hS hT0.2.1)) pc_self) (fun u182 e183 r184z => ?_)
    obtain ⟨⟨r184, r184k⟩, r184s⟩ := r184z
    have w185 := hW0.cl r184.1 (by decide +kernel) (by decide +kernel)
    unfold fL_law_J684
    refine ok_gd (g1) ?_
    refine ok_gd (g2) ?_
    refine ok_gd (kd_11 hS mo_11) ?_
    refine ok_gd (hG) ?_
    refine ok_cb (ok_pc (ok_pc (sX12_ahead_w hS mo_11 (by rw [bnw_n (by decide) (by decide)]; omega) (by rw [bnw_n (own_ne _) (by decide +kernel), bnw_n (by decide) (by decide)]) w185.2.1 w185.1) (k_fX12_ahead _ _ _ _ _ _ hS r184k)) pc_self) (fun u187 e188 r189z => ?_)
    obtain ⟨⟨r189, r189k⟩, r189s⟩ := r189z
    have w190 : WI n e188 := ⟨r189.1.1, r189.2, hd_frm r189.1 (by decide +kernel) w185.2.2⟩
    have t191b := tb_frm r189.1 (by decide +kernel) (by decide +kernel) (by decide +kernel) (by decide +kernel) (tb_frm r184.1 (by decide +kernel) (by decide +kernel) (by decide +kernel) (by decide +kernel) hT0.1)
    have t191 := rr_ahead hS hT0 t191b r189k r184s r184.1 r189s r189.1
    exact j771 _ (w190.w (by omega)) t191
  refine ok_if (fun _ => ?_) (fun w18 => ?_)
  · refine ok_gd (g1) ?_
    refine ok_gd (kd_10 hS km_10) ?_
    refine ok_gd (hG) ?_
    refine ok_cb (ok_pc (ok_pc (sX11_hold_w hS km_10 bnw_u hW0.1) (k_fX11_hold _ _ _ _ _ hS hT0.2.1)) pc_self) (fun u192 e193 r194z => ?_)
    obtain ⟨⟨r194, r194k⟩, r194s⟩ := r194z
    have w195 := hW0.cl r194.1 (by decide +kernel) (by decide +kernel)
    refine ok_gd (kd_11 hS mo_11) ?_
    refine ok_cb (ok_pc (ok_pc (sX12_hold_w hS mo_11 (by rw [bnw_n (own_ne _) (by decide +kernel), bnw_n (own_ne _) (by decide +kernel)]) w195.2.1 w195.2.2 w195.1) (k_fX12_hold _ _ _ _ _ hS r194k)) pc_self) (fun u197 e198 r199z => ?_)
    obtain ⟨⟨r199, r199k⟩, r199s⟩ := r199z
    have w200 : WI n e198 := ⟨r199.1.1.1, r199.1.2⟩
    have t201b := tb_frm r199.1.1 (by decide +kernel) (by decide +kernel) (by decide +kernel) (by decide +kernel) (tb_frm r194.1 (by decide +kernel) (by decide +kernel) (by decide +kernel) (by decide +kernel) hT0.1)
    obtain ⟨t201q, t201⟩ := rr_hold hS hT0 t201b r199k r194s r194.1 r199s r199.1.1
    exact j771 _ (w200.w (by omega)) t201
  refine ok_if (fun _ => ?_) (fun w19 => ?_)
  · refine ok_gd (g1) ?_
    refine ok_gd (kd_10 hS km_10) ?_
    refine ok_gd (hG) ?_
    refine ok_cb (ok_pc (ok_pc (sX11_restore_w hS km_10 bnw_u hW0.1) (k_fX11_restore _ _ _ _ _ hS hT0.2.1)) pc_self) (fun u202 e203 r204z => ?_)
    obtain ⟨⟨r204, r204k⟩, r204s⟩ := r204z
    have w205 := hW0.cl r204.1 (by decide +kernel) (by decide +kernel)
    refine ok_gd (kd_11 hS mo_11) ?_
    refine ok_cb (ok_pc (ok_pc (sX12_restore_w hS mo_11 (by rw [bnw_n (own_ne _) (by decide +kernel), bnw_n (own_ne _) (by decide +kernel)]) w205.2.1 w205.2.2 w205.1) (k_fX12_restore _ _ _ _ _ hS r204k)) pc_self) (fun u207 e208 r209z => ?_)
    obtain ⟨⟨r209, r209k⟩, r209s⟩ := r209z
    have w210 : WI n e208 := ⟨r209.1.1, r209.2⟩
    have t211b := tb_frm r209.1 (by decide +kernel) (by decide +kernel) (by decide +kernel) (by decide +kernel) (tb_frm r204.1 (by decide +kernel) (by decide +kernel) (by decide +kernel) (by decide +kernel) hT0.1)
    obtain ⟨t211q, t211⟩ := rr_restore hS hT0 t211b r209k r204s r204.1 r209s r209.1
    exact j771 _ (w210.w (by omega)) t211
  refine ok_if (fun _ => ?_) (fun w20 => ?_)
  · refine ok_gd (g1) ?_
    refine ok_gd (kd_10 hS km_10) ?_
    refine ok_gd (hG) ?_
    refine ok_cb (ok_pc (sX11_count__10 hS km_10 hW0.1) (k_fX11_count _ _ _ _ _ hS hT0.2.1)) (fun u212 e213 r214z => ?_)
    obtain ⟨r214, r214k⟩ := r214z
    have w215 : WI n e213 := by rw [r214.1]; exact hW0
    have t216 : RR e213 := by rw [r214.1]; exact hT0
    refine ok_gd (kd_11 hS mo_11) ?_
    refine ok_cb (ok_pc (sX12_count__11 hS mo_11 w215.1) (k_fX12_count _ _ _ _ _ hS r214k)) (fun u217 e218 r219z => ?_)
    obtain ⟨r219, r219k⟩ := r219z
    have w220 := w215.mo r219.1 (by decide +kernel) (by decide +kernel) (by decide +kernel) (by decide +kernel) (by decide +kernel) (by decide +kernel)
    have t221 : RR e218 := rr_frm r219.1 (by decide +kernel) (by decide +kernel) (by decide +kernel) (by decide +kernel) (by decide +kernel) (by decide +kernel) r219k t216
    exact j771 _ (w220.w (by omega)) t221
  exact (no21 ct w0 w1 w2 w3 w4 w5 w6 w7 w8 w9 w10 w11 w12 w13 w14 w15 w16 w17 w18 w19 w20).elim
theorem law_loop {g : Gs} (hS : Shp g) (hG : gN g - 0 ≤ 600000 ∧ gS g - 0 ≤ 7302250) {L : Nat} (hL : L ≤ 3072) {xs : Nat → Int32} {d : Ds} (hW : WI 0 d) (hT : RR d) : ok (fL_law_L18 10000 L xs 0 0 (0, 328, 0, g, d)) (fun _ _ => True) := by
  unfold fL_law_L18
  refine ok_lp (fun a => a.1 = 0 ∧ a.2.1 = 328 ∧ a.2.2.2.1 = g ∧ ∃ c : Nat, a.2.2.1.toInt = 6 * (c : Int) ∧ (c = 0 ∨ 6 * (c : Int) ≤ L) ∧ WI (2125050 * (c : Int)) a.2.2.2.2 ∧ RR a.2.2.2.2) (fun a => (4000 - a.2.2.1.toInt).toNat) ?_ 10000 (0, 328, 0, g, d) ⟨rfl, rfl, rfl, 0, (by decide : (0 : Int32).toInt = 6 * ((0 : Nat) : Int)), Or.inl rfl, hW.w (by omega), hT⟩ (by have : (0 : Int32).toInt = 0 := (by decide); dsimp only; omega)
  rintro K ⟨y1, y2, y3, g1, d1⟩ ⟨e1, e2, e3, c, hy, hc, hW, hT⟩ hK
  dsimp only at e1 e2 e3 hy hW hT hK ⊢
  subst e1
  subst e2
  subst e3
  refine law_body hS hG hL hy hW hT (fun y d2 hy2 hl2 hW2 hT2 => hK _ ⟨rfl, rfl, rfl, c + 1, hy2, Or.inr hl2, hW2, hT2⟩ ?_)
  dsimp only
  rw [hy2, hy]
  omega
