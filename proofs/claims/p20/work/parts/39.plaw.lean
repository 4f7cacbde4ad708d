/-! the law: after each call the world is as the rows want it -/
def bnw (n : Int) : Nat → Int := fun q => if q = 400 then 0 else if q = 247 then 2147480000 else n
theorem bnw_4 {n : Int} : bnw n 400 = 0 := if_pos rfl
theorem bnw_p {n : Int} : bnw n 247 = 2147480000 := by
  unfold bnw
  rw [if_neg (by decide), if_pos rfl]
theorem bnw_n {n : Int} {q : Nat} (h : q ≠ 400) (hp : q ≠ 247) : bnw n q = n := by
  unfold bnw
  rw [if_neg h, if_neg hp]
theorem bnw_le {n m : Int} (h : n ≤ m) : ∀ q, bnw n q ≤ bnw m q := by
  intro q
  unfold bnw
  split
  · exact Int.le_refl _
  · split
    · exact Int.le_refl _
    · exact h
theorem bnw_u {n : Int} : HUf (bnw n) := fun p q h1 h2 h3 h4 => (bnw_n h1 h2).trans (bnw_n h3 h4).symm
def WI (n : Int) (d : Ds) : Prop := Bnd (bnw n) d ∧ RWf (rw_ d) ∧ HD d
theorem WI.w {n m : Int} {d : Ds} (h : WI n d) (hn : n ≤ m) : WI m d := ⟨h.1.mono (bnw_le hn), h.2⟩
/-- an operation of the class -/
theorem WI.cl {M : Nat} {n : Int} {d d' : Ds} (h : WI n d) (hI : Inv M (bnw n) d d') (h55 : (List.range 13).all (fun i => !Nat.testBit M (3520 + i)) = true) (h63 : Nat.testBit M 4032 = false) : WI n d' := ⟨hI.1, by rw [nu_frm hI h55]; exact h.2.1, hd_frm hI h63 h.2.2⟩
/-- one of the model -/
theorem WI.mo {M : Nat} {n : Int} {d d' : Ds} (h : WI n d) (hI : Inv M (bnw n) d d') (h0 : Nat.testBit M 3520 = false) (h2 : Nat.testBit M 3522 = false) (h3 : Nat.testBit M 3523 = false) (h10 : Nat.testBit M 3530 = false) (h12 : Nat.testBit M 3532 = false) (h63 : Nat.testBit M 4032 = false) : WI n d' := ⟨hI.1, rwf_frm hI h.1 h0 h2 h3 h10 h12 h.2.1, hd_frm hI h63 h.2.2⟩
theorem gk {L : Nat} {y k : Int32} {a m : Int} (hy : y.toInt = a) (hk : k.toInt = m) (h : 0 ≤ a ∧ 0 ≤ m ∧ a + m < L ∧ L ≤ 4000) : ¬ (y + k < 0 ∨ L ≤ (y + k).toNatClampNeg) := by
  have q := z_add (x := y) (y := k) hy hk (by omega) (by omega)
  have e0 : (0 : Int32).toInt = 0 := by decide
  rintro (z | z)
  · have := Int32.lt_iff_toInt_lt.mp z
    omega
  · have : (y + k).toNatClampNeg = (y + k).toInt.toNat := rfl
    omega
theorem no21 {x : Int32} (h : ¬ (x.toInt < 0 ∨ 20 < x.toInt)) (h0 : ¬ x = 0) (h1 : ¬ x = 1) (h2 : ¬ x = 2) (h3 : ¬ x = 3) (h4 : ¬ x = 4) (h5 : ¬ x = 5) (h6 : ¬ x = 6) (h7 : ¬ x = 7) (h8 : ¬ x = 8) (h9 : ¬ x = 9) (h10 : ¬ x = 10) (h11 : ¬ x = 11) (h12 : ¬ x = 12) (h13 : ¬ x = 13) (h14 : ¬ x = 14) (h15 : ¬ x = 15) (h16 : ¬ x = 16) (h17 : ¬ x = 17) (h18 : ¬ x = 18) (h19 : ¬ x = 19) (h20 : ¬ x = 20) : False := by
  have k : ∀ n : Int32, ¬ x = n → ¬ x.toInt = n.toInt := fun n h z => h (Int32.toInt_inj.mp z)
  have k0 := k _ h0
  have e0 : (0 : Int32).toInt = 0 := by decide
  have k1 := k _ h1
  have e1 : (1 : Int32).toInt = 1 := by decide
  have k2 := k _ h2
  have e2 : (2 : Int32).toInt = 2 := by decide
  have k3 := k _ h3
  have e3 : (3 : Int32).toInt = 3 := by decide
  have k4 := k _ h4
  have e4 : (4 : Int32).toInt = 4 := by decide
  have k5 := k _ h5
  have e5 : (5 : Int32).toInt = 5 := by decide
  have k6 := k _ h6
  have e6 : (6 : Int32).toInt = 6 := by decide
  have k7 := k _ h7
  have e7 : (7 : Int32).toInt = 7 := by decide
  have k8 := k _ h8
  have e8 : (8 : Int32).toInt = 8 := by decide
  have k9 := k _ h9
  have e9 : (9 : Int32).toInt = 9 := by decide
  have k10 := k _ h10
  have e10 : (10 : Int32).toInt = 10 := by decide
  have k11 := k _ h11
  have e11 : (11 : Int32).toInt = 11 := by decide
  have k12 := k _ h12
  have e12 : (12 : Int32).toInt = 12 := by decide
  have k13 := k _ h13
  have e13 : (13 : Int32).toInt = 13 := by decide
  have k14 := k _ h14
  have e14 : (14 : Int32).toInt = 14 := by decide
  have k15 := k _ h15
  have e15 : (15 : Int32).toInt = 15 := by decide
  have k16 := k _ h16
  have e16 : (16 : Int32).toInt = 16 := by decide
  have k17 := k _ h17
  have e17 : (17 : Int32).toInt = 17 := by decide
  have k18 := k _ h18
  have e18 : (18 : Int32).toInt = 18 := by decide
  have k19 := k _ h19
  have e19 : (19 : Int32).toInt = 19 := by decide
  have k20 := k _ h20
  have e20 : (20 : Int32).toInt = 20 := by decide
  omega
theorem km_10 : cls 0 = 10 := by decide +kernel
theorem law_body {g : Gs} (hS : Shp g) (hG : gN g - 0 ≤ 600000 ∧ gS g - 0 ≤ 7302250) {L : Nat} (hL : L ≤ 3072) {xs : Nat → Int32} {K : Nat × Nat × Int32 × Gs × Ds → Option (Unit × Ds)} {y : Int32} {c : Nat} (hy : y.toInt = 6 * (c : Int)) {d : Ds} (hW0 : WI (2125050 * (c : Int)) d) (hK : ∀ (y1 : Int32) (d1 : Ds), y1.toInt = 6 * ((c + 1 : Nat) : Int) → 6 * ((c + 1 : Nat) : Int) ≤ L → WI (2125050 * ((c + 1 : Nat) : Int)) d1 → ok (K (0, 328, y1, g, d1)) (fun _ _ => True)) : ok (fL_law_B18 10000 L xs 0 0 K 0 328 y g d) (fun _ _ => True) := by
  unfold fL_law_B18
  refine ok_if (fun _ => ok_gd hG (ok_some trivial)) (fun c0 => ?_)
  have eL : (Int32.ofNat L).toInt = L := Int32.toInt_ofNat_of_lt (by omega)
  have e6 : (6 : Int32).toInt = 6 := by decide
  have hle : 6 * (c : Int) + 6 ≤ L := by
    have q := z_sub (x := Int32.ofNat L) (y := 6) eL e6 (by omega) (by omega)
    have := Int32.le_iff_toInt_le.mp (nlt c0)
    omega
  obtain ⟨n, hn⟩ : ∃ n : Int, n = 2125050 * (c : Int) := ⟨_, rfl⟩
  rw [← hn] at hW0
  have hn1 : n + 2125050 ≤ 1088025600 := by omega
  have hn0 : 0 ≤ n := by omega
  have g0 : ¬ (y < 0 ∨ L ≤ y.toNatClampNeg) := by
    have e0 : (0 : Int32).toInt = 0 := by decide
    rintro (z | z)
    · have := Int32.lt_iff_toInt_lt.mp z
      omega
    · have : y.toNatClampNeg = y.toInt.toNat := rfl
      omega
  have g1 : ¬ (y + 1 < 0 ∨ L ≤ (y + 1).toNatClampNeg) := gk hy (by decide : (1 : Int32).toInt = 1) (by omega)
  have g2 : ¬ (y + 2 < 0 ∨ L ≤ (y + 2).toNatClampNeg) := gk hy (by decide : (2 : Int32).toInt = 2) (by omega)
  have g3 : ¬ (y + 3 < 0 ∨ L ≤ (y + 3).toNatClampNeg) := gk hy (by decide : (3 : Int32).toInt = 3) (by omega)
  have g4 : ¬ (y + 4 < 0 ∨ L ≤ (y + 4).toNatClampNeg) := gk hy (by decide : (4 : Int32).toInt = 4) (by omega)
  have g5 : ¬ (y + 5 < 0 ∨ L ≤ (y + 5).toNatClampNeg) := gk hy (by decide : (5 : Int32).toInt = 5) (by omega)
  have j771 : ∀ d1 : Ds, WI (n + 2125050) d1 → ok (fL_law_J771 10000 L xs 0 0 K 0 328 y g d1) (fun _ _ => True) := by
    intro d1 h
    unfold fL_law_J771
    refine ok_bd (fun u31 e31 => ?_)
    have q := z_add (x := y) (y := 6) hy e6 (by omega) (by omega)
    refine hK u31 d1 (by rw [e31, q]; omega) (by omega) ?_
    rw [show 2125050 * ((c + 1 : Nat) : Int) = n + 2125050 by omega]
    exact h
  refine ok_gd g0 ?_
  refine ok_if (fun _ => j771 _ (hW0.w (by omega))) (fun ct => ?_)
  refine ok_if (fun _ => ?_) (fun w0 => ?_)
  · refine ok_gd (g1) ?_
    refine ok_gd (g2) ?_
    refine ok_gd (g3) ?_
    refine ok_gd (g4) ?_
    refine ok_gd (g5) ?_
    refine ok_gd (kd_10 hS km_10) ?_
    refine ok_gd (hG) ?_
    refine ok_cb (sX11_feed__10 hS km_10 hW0.1) (fun u1 e2 r3 => ?_)
    have w4 := hW0.cl r3.1 (by decide +kernel) (by decide +kernel)
    refine ok_gd (kd_11 hS mo_11) ?_
    refine ok_cb (sX12_feed__11 hS mo_11 w4.1) (fun u5 e6 r7 => ?_)
    have w8 := w4.mo r7.1 (by decide +kernel) (by decide +kernel) (by decide +kernel) (by decide +kernel) (by decide +kernel) (by decide +kernel)
    exact j771 _ (w8.w (by omega))
  refine ok_if (fun _ => ?_) (fun w1 => ?_)
  · refine ok_gd (g1) ?_
    refine ok_gd (kd_10 hS km_10) ?_
    refine ok_gd (hG) ?_
    refine ok_cb (sX11_back__10 hS km_10 hW0.1) (fun u9 e10 r11 => ?_)
    have w12 := hW0.cl r11.1 (by decide +kernel) (by decide +kernel)
    unfold fL_law_J205
    refine ok_gd (g1) ?_
    refine ok_gd (kd_11 hS mo_11) ?_
    refine ok_gd (hG) ?_
    refine ok_cb (sX12_back__11 hS mo_11 w12.1) (fun u13 e14 r15 => ?_)
    have w16 := w12.mo r15.1 (by decide +kernel) (by decide +kernel) (by decide +kernel) (by decide +kernel) (by decide +kernel) (by decide +kernel)
    exact j771 _ (w16.w (by omega))
  refine ok_if (fun _ => ?_) (fun w2 => ?_)
  · refine ok_gd (kd_10 hS km_10) ?_
    refine ok_gd (hG) ?_
    refine ok_cb (sX11_read__10 hS km_10 hW0.1) (fun u17 e18 r19 => ?_)
    have w20 := hW0.cl r19.1 (by decide +kernel) (by decide +kernel)
    refine ok_gd (kd_11 hS mo_11) ?_
    refine ok_cb (sX12_read_w hS mo_11 w20.2.1 w20.1) (fun u21 e22 r23 => ?_)
    have w24 : WI n e22 := ⟨r23.1.1, r23.2, hd_frm r23.1 (by decide +kernel) w20.2.2⟩
    exact j771 _ (w24.w (by omega))
  refine ok_if (fun _ => ?_) (fun w3 => ?_)
  · refine ok_gd (kd_10 hS km_10) ?_
    refine ok_gd (hG) ?_
    refine ok_cb (sX11_place__10 hS km_10 hW0.1) (fun u25 e26 r27 => ?_)
    have w28 : WI n e26 := by rw [r27.1]; exact hW0
    refine ok_gd (kd_11 hS mo_11) ?_
    refine ok_cb (sX12_place__11 hS mo_11 w28.1) (fun u29 e30 r31 => ?_)
    have w32 : WI n e30 := by rw [r31.1]; exact w28
    exact j771 _ (w32.w (by omega))
  refine ok_if (fun _ => ?_) (fun w4 => ?_)
  · refine ok_gd (g1) ?_
    refine ok_gd (g2) ?_
    refine ok_if (fun _ => ?_) (fun _ => ?_)
    · unfold fL_law_J263
      refine ok_gd (kd_10 hS km_10) ?_
      refine ok_gd (hG) ?_
      refine ok_cb (sX11_press__10 hS km_10 (by decide) hW0.1) (fun u33 e34 r35 => ?_)
      have w36 := hW0.cl r35.1 (by decide +kernel) (by decide +kernel)
      refine ok_gd (g1) ?_
      refine ok_gd (g2) ?_
      refine ok_if (fun _ => ?_) (fun _ => ?_)
      · unfold fL_law_J286
        refine ok_gd (kd_11 hS mo_11) ?_
        refine ok_gd (hG) ?_
        refine ok_cb (sX12_press__11 hS mo_11 (by decide) w36.1) (fun u37 e38 r39 => ?_)
        have w40 := w36.mo r39.1 (by decide +kernel) (by decide +kernel) (by decide +kernel) (by decide +kernel) (by decide +kernel) (by decide +kernel)
        exact j771 _ (w40.w (by omega))
      · unfold fL_law_J286
        refine ok_gd (kd_11 hS mo_11) ?_
        refine ok_gd (hG) ?_
        refine ok_cb (sX12_press__11 hS mo_11 (by decide) w36.1) (fun u41 e42 r43 => ?_)
        have w44 := w36.mo r43.1 (by decide +kernel) (by decide +kernel) (by decide +kernel) (by decide +kernel) (by decide +kernel) (by decide +kernel)
        exact j771 _ (w44.w (by omega))
    · unfold fL_law_J263
      refine ok_gd (kd_10 hS km_10) ?_
      refine ok_gd (hG) ?_
      refine ok_cb (sX11_press__10 hS km_10 (by decide) hW0.1) (fun u45 e46 r47 => ?_)
      have w48 := hW0.cl r47.1 (by decide +kernel) (by decide +kernel)
      refine ok_gd (g1) ?_
      refine ok_gd (g2) ?_
      refine ok_if (fun _ => ?_) (fun _ => ?_)
      · unfold fL_law_J286
        refine ok_gd (kd_11 hS mo_11) ?_
        refine ok_gd (hG) ?_
        refine ok_cb (sX12_press__11 hS mo_11 (by decide) w48.1) (fun u49 e50 r51 => ?_)
        have w52 := w48.mo r51.1 (by decide +kernel) (by decide +kernel) (by decide +kernel) (by decide +kernel) (by decide +kernel) (by decide +kernel)
        exact j771 _ (w52.w (by omega))
      · unfold fL_law_J286
        refine ok_gd (kd_11 hS mo_11) ?_
        refine ok_gd (hG) ?_
        refine ok_cb (sX12_press__11 hS mo_11 (by decide) w48.1) (fun u53 e54 r55 => ?_)
        have w56 := w48.mo r55.1 (by decide +kernel) (by decide +kernel) (by decide +kernel) (by decide +kernel) (by decide +kernel) (by decide +kernel)
        exact j771 _ (w56.w (by omega))
  refine ok_if (fun _ => ?_) (fun w5 => ?_)
  · refine ok_gd (g1) ?_
    refine ok_gd (kd_10 hS km_10) ?_
    refine ok_gd (hG) ?_
    refine ok_cb (sX11_tick__10 (b := bnw n) (B := bp (bnw n) 227 2043200) hS ⟨bp_le (by decide), by rw [bp_o]; exact Int.le_refl _, by rw [bp_o, bnw_n (by decide) (by decide)]; omega⟩ km_10 hW0.1) (fun u57 e58 r59 => ?_)
    have w60 : RWf (rw_ e58) := by rw [nu_frm r59.1 (by decide +kernel)]; exact hW0.2.1
    have w60h : HD e58 := hd_frm r59.1 (by decide +kernel) hW0.2.2
    refine ok_gd (kd_11 hS mo_11) ?_
    refine ok_cb (sX12_tick_w (B := bnw (n + 2125050)) hS mo_11 ⟨fun q => ?_, ?_, ?_⟩ w60 r59.1.1) (fun u61 e62 r63 => ?_)
    · by_cases hq : q = 227
      · rw [hq, bp_o, bnw_n (by decide) (by decide), bnw_n (by decide) (by decide)]; omega
      · rw [bp_ne hq]; exact bnw_le (by omega) q
    · rw [bp_ne (by decide), bnw_n (by decide) (by decide), bnw_n (by decide) (by decide)]; exact Int.le_refl _
    · rw [bnw_n (by decide) (by decide)]; omega
    have w64 : WI (n + 2125050) e62 := ⟨r63.1.1, r63.2, hd_frm r63.1 (by decide +kernel) w60h⟩
    exact j771 _ w64
  refine ok_if (fun _ => ?_) (fun w6 => ?_)
  · refine ok_gd (g1) ?_
    refine ok_gd (g2) ?_
    refine ok_gd (kd_10 hS km_10) ?_
    refine ok_gd (hG) ?_
    refine ok_cb (sX11_key__10 hS km_10 hW0.1) (fun u65 e66 r67 => ?_)
    have w68 : WI n e66 := by rw [r67.1]; exact hW0
    refine ok_gd (kd_11 hS mo_11) ?_
    refine ok_cb (sX12_key__11 hS mo_11 w68.1) (fun u69 e70 r71 => ?_)
    have w72 := w68.mo r71.1 (by decide +kernel) (by decide +kernel) (by decide +kernel) (by decide +kernel) (by decide +kernel) (by decide +kernel)
    exact j771 _ (w72.w (by omega))
  refine ok_if (fun _ => ?_) (fun w7 => ?_)
  · refine ok_gd (g1) ?_
    refine ok_gd (g2) ?_
    refine ok_gd (g3) ?_
    refine ok_gd (kd_10 hS km_10) ?_
    refine ok_gd (hG) ?_
    refine ok_cb (sX11_deed__10 hS km_10 hW0.1) (fun u73 e74 r75 => ?_)
    have w76 : WI n e74 := by rw [r75.1]; exact hW0
    refine ok_gd (kd_11 hS mo_11) ?_
    refine ok_cb (sX12_deed__11 hS mo_11 w76.1) (fun u77 e78 r79 => ?_)
    have w80 : WI n e78 := by rw [r79.1]; exact w76
    unfold fL_law_J389
    exact j771 _ (w80.w (by omega))
  refine ok_if (fun _ => ?_) (fun w8 => ?_)
  · refine ok_gd (g1) ?_
    refine ok_gd (g2) ?_
    refine ok_gd (kd_10 hS km_10) ?_
    refine ok_gd (hG) ?_
    refine ok_cb (sX11_does__10 hS km_10 hW0.1) (fun u81 e82 r83 => ?_)
    have w84 : WI n e82 := by rw [r83.1]; exact hW0
    refine ok_gd (kd_11 hS mo_11) ?_
    refine ok_cb (sX12_does__11 hS mo_11 w84.1) (fun u85 e86 r87 => ?_)
    have w88 : WI n e86 := by rw [r87.1]; exact w84
    exact j771 _ (w88.w (by omega))
  refine ok_if (fun _ => ?_) (fun w9 => ?_)
  · refine ok_gd (g1) ?_
    refine ok_gd (g2) ?_
    refine ok_gd (kd_10 hS km_10) ?_
    refine ok_gd (hG) ?_
    refine ok_cb (sX11_event__10 hS km_10 hW0.1) (fun u89 e90 r91 => ?_)
    have w92 : WI n e90 := by rw [r91.1]; exact hW0
    refine ok_gd (kd_11 hS mo_11) ?_
    refine ok_cb (sX12_event__11 hS mo_11 w92.1) (fun u93 e94 r95 => ?_)
    have w96 : WI n e94 := by rw [r95.1]; exact w92
    exact j771 _ (w96.w (by omega))
  refine ok_if (fun _ => ?_) (fun w10 => ?_)
  · refine ok_gd (g1) ?_
    refine ok_gd (g2) ?_
    refine ok_gd (kd_10 hS km_10) ?_
    refine ok_gd (hG) ?_
    refine ok_cb (sX11_report__10 hS km_10 hW0.1) (fun u97 e98 r99 => ?_)
    have w100 : WI n e98 := by rw [r99.1]; exact hW0
    refine ok_gd (kd_11 hS mo_11) ?_
    refine ok_cb (sX12_report__11 hS mo_11 w100.1) (fun u101 e102 r103 => ?_)
    have w104 : WI n e102 := by rw [r103.1]; exact w100
    unfold fL_law_J488
    exact j771 _ (w104.w (by omega))
  refine ok_if (fun _ => ?_) (fun w11 => ?_)
  · refine ok_gd (g1) ?_
    refine ok_gd (kd_10 hS km_10) ?_
    refine ok_gd (hG) ?_
    refine ok_cb (sX11_sent__10 hS km_10 hW0.1) (fun u105 e106 r107 => ?_)
    have w108 := hW0.cl r107.1 (by decide +kernel) (by decide +kernel)
    refine ok_gd (kd_11 hS mo_11) ?_
    refine ok_cb (sX12_sent__11 hS mo_11 w108.1) (fun u109 e110 r111 => ?_)
    have w112 := w108.mo r111.1 (by decide +kernel) (by decide +kernel) (by decide +kernel) (by decide +kernel) (by decide +kernel) (by decide +kernel)
    exact j771 _ (w112.w (by omega))
  refine ok_if (fun _ => ?_) (fun w12 => ?_)
  · refine ok_gd (g1) ?_
    refine ok_gd (kd_10 hS km_10) ?_
    refine ok_gd (hG) ?_
    refine ok_cb (sX11_host__10 hS km_10 hW0.1) (fun u113 e114 r115 => ?_)
    have w116 : WI n e114 := by rw [r115.1]; exact hW0
    refine ok_gd (kd_11 hS mo_11) ?_
    refine ok_cb (sX12_host__11 hS mo_11 w116.1) (fun u117 e118 r119 => ?_)
    have w120 : WI n e118 := by rw [r119.1]; exact w116
    exact j771 _ (w120.w (by omega))
  refine ok_if (fun _ => ?_) (fun w13 => ?_)
  · refine ok_gd (g1) ?_
    refine ok_gd (g2) ?_
    refine ok_gd (kd_10 hS km_10) ?_
    refine ok_gd (hG) ?_
    refine ok_cb (sX11_strokes__10 hS km_10 hW0.1) (fun u121 e122 r123 => ?_)
    have w124 : WI n e122 := by rw [r123.1]; exact hW0
    refine ok_gd (kd_11 hS mo_11) ?_
    refine ok_cb (sX12_strokes__11 hS mo_11 w124.1) (fun u125 e126 r127 => ?_)
    have w128 : WI n e126 := by rw [r127.1]; exact w124
    exact j771 _ (w128.w (by omega))
  refine ok_if (fun _ => ?_) (fun w14 => ?_)
  · refine ok_gd (g1) ?_
    refine ok_gd (g2) ?_
    refine ok_gd (kd_10 hS km_10) ?_
    refine ok_gd (hG) ?_
    refine ok_cb (sX11_chord__10 hS km_10 (Int.le_of_eq bnw_4) hW0.1) (fun u129 e130 r131 => ?_)
    have w132 : WI n e130 := by rw [r131.1]; exact hW0
    unfold fL_law_J585
    refine ok_gd (g1) ?_
    refine ok_gd (g2) ?_
    refine ok_gd (kd_11 hS mo_11) ?_
    refine ok_gd (hG) ?_
    refine ok_cb (sX12_chord__11 hS mo_11 w132.1) (fun u133 e134 r135 => ?_)
    have w136 : WI n e134 := by rw [r135.1]; exact w132
    exact j771 _ (w136.w (by omega))
  refine ok_if (fun _ => ?_) (fun w15 => ?_)
  · refine ok_gd (g1) ?_
    refine ok_gd (g2) ?_
    refine ok_gd (kd_10 hS km_10) ?_
    refine ok_gd (hG) ?_
    refine ok_cb (sX11_macro__10 hS km_10 hW0.1) (fun u137 e138 r139 => ?_)
    have w140 : WI n e138 := by rw [r139.1]; exact hW0
    refine ok_gd (kd_11 hS mo_11) ?_
    refine ok_cb (sX12_macro__11 hS mo_11 w140.1) (fun u141 e142 r143 => ?_)
    have w144 : WI n e142 := by rw [r143.1]; exact w140
    exact j771 _ (w144.w (by omega))
  refine ok_if (fun _ => ?_) (fun w16 => ?_)
  · refine ok_gd (g1) ?_
    refine ok_gd (g2) ?_
    refine ok_gd (kd_10 hS km_10) ?_
    refine ok_gd (hG) ?_
    refine ok_cb (sX11_ghosts__10 hS km_10 hW0.1) (fun u145 e146 r147 => ?_)
    have w148 := hW0.cl r147.1 (by decide +kernel) (by decide +kernel)
    refine ok_gd (kd_11 hS mo_11) ?_
    refine ok_cb (sX12_ghosts__11 hS mo_11 w148.1) (fun u149 e150 r151 => ?_)
    have w152 := w148.mo r151.1 (by decide +kernel) (by decide +kernel) (by decide +kernel) (by decide +kernel) (by decide +kernel) (by decide +kernel)
    exact j771 _ (w152.w (by omega))
  refine ok_if (fun _ => ?_) (fun w17 => ?_)
  · refine ok_gd (g1) ?_
    refine ok_gd (g2) ?_
    refine ok_gd (kd_10 hS km_10) ?_
    refine ok_gd (hG) ?_
    refine ok_cb (sX11_ahead_w hS km_10 (by rw [bnw_p, bnw_n (by decide) (by decide)]; omega) (by rw [bnw_p]; exact Int.le_refl _) hW0.1) (fun u153 e154 r155 => ?_)
    have w156 := hW0.cl r155.1 (by decide +kernel) (by decide +kernel)
    unfold fL_law_J684
    refine ok_gd (g1) ?_
    refine ok_gd (g2) ?_
    refine ok_gd (kd_11 hS mo_11) ?_
    refine ok_gd (hG) ?_
    refine ok_cb (sX12_ahead_w hS mo_11 (by rw [bnw_n (by decide) (by decide)]; omega) (by rw [bnw_n (own_ne _) (by decide +kernel), bnw_n (by decide) (by decide)]) w156.2.1 w156.1) (fun u157 e158 r159 => ?_)
    have w160 : WI n e158 := ⟨r159.1.1, r159.2, hd_frm r159.1 (by decide +kernel) w156.2.2⟩
    exact j771 _ (w160.w (by omega))
  refine ok_if (fun _ => ?_) (fun w18 => ?_)
  · refine ok_gd (g1) ?_
    refine ok_gd (kd_10 hS km_10) ?_
    refine ok_gd (hG) ?_
    refine ok_cb (sX11_hold_w hS km_10 bnw_u hW0.1) (fun u161 e162 r163 => ?_)
    have w164 := hW0.cl r163.1 (by decide +kernel) (by decide +kernel)
    refine ok_gd (kd_11 hS mo_11) ?_
    refine ok_cb (sX12_hold_w hS mo_11 (by rw [bnw_n (own_ne _) (by decide +kernel), bnw_n (own_ne _) (by decide +kernel)]) w164.2.1 w164.2.2 w164.1) (fun u165 e166 r167 => ?_)
    have w168 : WI n e166 := ⟨r167.1.1.1, r167.1.2⟩
    refine ok_if (fun _ => ?_) (fun z => absurd (r163.2.trans r167.2.symm) z)
    exact j771 _ (w168.w (by omega))
  refine ok_if (fun _ => ?_) (fun w19 => ?_)
  · refine ok_gd (g1) ?_
    refine ok_gd (kd_10 hS km_10) ?_
    refine ok_gd (hG) ?_
    refine ok_cb (sX11_restore_w hS km_10 bnw_u hW0.1) (fun u169 e170 r171 => ?_)
    have w172 := hW0.cl r171.1 (by decide +kernel) (by decide +kernel)
    refine ok_gd (kd_11 hS mo_11) ?_
    refine ok_cb (sX12_restore_w hS mo_11 (by rw [bnw_n (own_ne _) (by decide +kernel), bnw_n (own_ne _) (by decide +kernel)]) w172.2.1 w172.2.2 w172.1) (fun u173 e174 r175 => ?_)
    have w176 : WI n e174 := ⟨r175.1.1, r175.2⟩
    exact j771 _ (w176.w (by omega))
  refine ok_if (fun _ => ?_) (fun w20 => ?_)
  · refine ok_gd (g1) ?_
    refine ok_gd (kd_10 hS km_10) ?_
    refine ok_gd (hG) ?_
    refine ok_cb (sX11_count__10 hS km_10 hW0.1) (fun u177 e178 r179 => ?_)
    have w180 : WI n e178 := by rw [r179.1]; exact hW0
    refine ok_gd (kd_11 hS mo_11) ?_
    refine ok_cb (sX12_count__11 hS mo_11 w180.1) (fun u181 e182 r183 => ?_)
    have w184 := w180.mo r183.1 (by decide +kernel) (by decide +kernel) (by decide +kernel) (by decide +kernel) (by decide +kernel) (by decide +kernel)
    exact j771 _ (w184.w (by omega))
  exact (no21 ct w0 w1 w2 w3 w4 w5 w6 w7 w8 w9 w10 w11 w12 w13 w14 w15 w16 w17 w18 w19 w20).elim
theorem law_loop {g : Gs} (hS : Shp g) (hG : gN g - 0 ≤ 600000 ∧ gS g - 0 ≤ 7302250) {L : Nat} (hL : L ≤ 3072) {xs : Nat → Int32} {d : Ds} (hW : WI 0 d) : ok (fL_law_L18 10000 L xs 0 0 (0, 328, 0, g, d)) (fun _ _ => True) := by
  unfold fL_law_L18
  refine ok_lp (fun a => a.1 = 0 ∧ a.2.1 = 328 ∧ a.2.2.2.1 = g ∧ ∃ c : Nat, a.2.2.1.toInt = 6 * (c : Int) ∧ (c = 0 ∨ 6 * (c : Int) ≤ L) ∧ WI (2125050 * (c : Int)) a.2.2.2.2) (fun a => (4000 - a.2.2.1.toInt).toNat) ?_ 10000 (0, 328, 0, g, d) ⟨rfl, rfl, rfl, 0, (by decide : (0 : Int32).toInt = 6 * ((0 : Nat) : Int)), Or.inl rfl, hW.w (by omega)⟩ (by have : (0 : Int32).toInt = 0 := (by decide); dsimp only; omega)
  rintro K ⟨y1, y2, y3, g1, d1⟩ ⟨e1, e2, e3, c, hy, hc, hW⟩ hK
  dsimp only at e1 e2 e3 hy hW hK ⊢
  subst e1
  subst e2
  subst e3
  refine law_body hS hG hL hy hW (fun y d2 hy2 hl2 hW2 => hK _ ⟨rfl, rfl, rfl, c + 1, hy2, Or.inr hl2, hW2⟩ ?_)
  dsimp only
  rw [hy2, hy]
  omega
