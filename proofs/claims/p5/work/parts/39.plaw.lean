/-! the law: after each call the world is as the rows want it -/
def bnw (n : Int) : Nat → Int := fun q => if q = 400 then 0 else if q = 247 then 2147480000 else n
theorem bnw_4 {n : Int} : bnw n 400 = 0 := if_pos rfl
theorem bnw_p {n : Int} : bnw n 247 = 2147480000 := by
  unfold bnw
  rw [if_neg (by decide), if_pos rfl]
theorem bnw_n {n : Int} {q : Nat} (h : q ≠ 400) (hp : q ≠ 247) : bnw n q = n := by
  unfold bnw
  rw [if_neg h, if_neg hp]
theorem bnw_le {n m : Int} (h : n ≤ m) : ∀ q, bnw n q ≤ bnw m q := by
  intro q
  unfold bnw
  split
  · exact Int.le_refl _
  · split
    · exact Int.le_refl _
    · exact h
theorem bnw_u {n : Int} : HUf (bnw n) := fun p q h1 h2 h3 h4 => (bnw_n h1 h2).trans (bnw_n h3 h4).symm
def WI (n : Int) (d : Ds) : Prop := Bnd (bnw n) d ∧ RWf (rw_ d) ∧ HD d
theorem WI.w {n m : Int} {d : Ds} (h : WI n d) (hn : n ≤ m) : WI m d := ⟨h.1.mono (bnw_le hn), h.2⟩
/-- an operation of the class -/
theorem WI.cl {M : Nat} {n : Int} {d d' : Ds} (h : WI n d) (hI : Inv M (bnw n) d d') (h55 : (List.range 13).all (fun i => !Nat.testBit M (3520 + i)) = true) (h63 : Nat.testBit M 4032 = false) : WI n d' := ⟨hI.1, by rw [nu_frm hI h55]; exact h.2.1, hd_frm hI h63 h.2.2⟩
/-- one of the model -/
theorem WI.mo {M : Nat} {n : Int} {d d' : Ds} (h : WI n d) (hI : Inv M (bnw n) d d') (h0 : Nat.testBit M 3520 = false) (h2 : Nat.testBit M 3522 = false) (h3 : Nat.testBit M 3523 = false) (h10 : Nat.testBit M 3530 = false) (h12 : Nat.testBit M 3532 = false) (h63 : Nat.testBit M 4032 = false) : WI n d' := ⟨hI.1, rwf_frm hI h.1 h0 h2 h3 h10 h12 h.2.1, hd_frm hI h63 h.2.2⟩
theorem gk {L : Nat} {y k : Int32} {a m : Int} (hy : y.toInt = a) (hk : k.toInt = m) (h : 0 ≤ a ∧ 0 ≤ m ∧ a + m < L ∧ L ≤ 4000) : ¬ (y + k < 0 ∨ L ≤ (y + k).toNatClampNeg) := by
  have q := z_add (x := y) (y := k) hy hk (by omega) (by omega)
  have e0 : (0 : Int32).toInt = 0 := by decide
  rintro (z | z)
  · have := Int32.lt_iff_toInt_lt.mp z
    omega
  · have : (y + k).toNatClampNeg = (y + k).toInt.toNat := rfl
    omega
theorem no21 {x : Int32} (h : ¬ (x.toInt < 0 ∨ 20 < x.toInt)) (h0 : ¬ x = 0) (h1 : ¬ x = 1) (h2 : ¬ x = 2) (h3 : ¬ x = 3) (h4 : ¬ x = 4) (h5 : ¬ x = 5) (h6 : ¬ x = 6) (h7 : ¬ x = 7) (h8 : ¬ x = 8) (h9 : ¬ x = 9) (h10 : ¬ x = 10) (h11 : ¬ x = 11) (h12 : ¬ x = 12) (h13 : ¬ x = 13) (h14 : ¬ x = 14) (h15 : ¬ x = 15) (h16 : ¬ x = 16) (h17 : ¬ x = 17) (h18 : ¬ x = 18) (h19 : ¬ x = 19) (h20 : ¬ x = 20) : False := by
  have k : ∀ n : Int32, ¬ x = n → ¬ x.toInt = n.toInt := fun n h z => h (Int32.toInt_inj.mp z)
  have k0 := k _ h0
  have e0 : (0 : Int32).toInt = 0 := by decide
  have k1 := k _ h1
  have e1 : (1 : Int32).toInt = 1 := by decide
  have k2 := k _ h2
  have e2 : (2 : Int32).toInt = 2 := by decide
  have k3 := k _ h3
  have e3 : (3 : Int32).toInt = 3 := by decide
  have k4 := k _ h4
  have e4 : (4 : Int32).toInt = 4 := by decide
  have k5 := k _ h5
  have e5 : (5 : Int32).toInt = 5 := by decide
  have k6 := k _ h6
  have e6 : (6 : Int32).toInt = 6 := by decide
  have k7 := k _ h7
  have e7 : (7 : Int32).toInt = 7 := by decide
  have k8 := k _ h8
  have e8 : (8 : Int32).toInt = 8 := by decide
  have k9 := k _ h9
  have e9 : (9 : Int32).toInt = 9 := by decide
  have k10 := k _ h10
  have e10 : (10 : Int32).toInt = 10 := by decide
  have k11 := k _ h11
  have e11 : (11 : Int32).toInt = 11 := by decide
  have k12 := k _ h12
  have e12 : (12 : Int32).toInt = 12 := by decide
  have k13 := k _ h13
  have e13 : (13 : Int32).toInt = 13 := by decide
  have k14 := k _ h14
  have e14 : (14 : Int32).toInt = 14 := by decide
  have k15 := k _ h15
  have e15 : (15 : Int32).toInt = 15 := by decide
  have k16 := k _ h16
  have e16 : (16 : Int32).toInt = 16 := by decide
  have k17 := k _ h17
  have e17 : (17 : Int32).toInt = 17 := by decide
  have k18 := k _ h18
  have e18 : (18 : Int32).toInt = 18 := by decide
  have k19 := k _ h19
  have e19 : (19 : Int32).toInt = 19 := by decide
  have k20 := k _ h20
  have e20 : (20 : Int32).toInt = 20 := by decide
  omega
theorem law_body {g : Gs} (hS : Shp g) (hG : gN g - 0 ≤ 600000 ∧ gS g - 0 ≤ 7302250) {L : Nat} (hL : L ≤ 3072) {xs : Nat → Int32} {K : Nat × Nat × Int32 × Gs × Ds → Option (Unit × Ds)} {y : Int32} {c : Nat} (hy : y.toInt = 6 * (c : Int)) {d : Ds} (hW0 : WI (2125050 * (c : Int)) d) (hT0 : RR d) (hK : ∀ (y1 : Int32) (d1 : Ds), y1.toInt = 6 * ((c + 1 : Nat) : Int) → 6 * ((c + 1 : Nat) : Int) ≤ L → WI (2125050 * ((c + 1 : Nat) : Int)) d1 → RR d1 → ok (K (0, 328, y1, g, d1)) (fun _ _ => True)) : ok (fL_law_B18 10000 L xs 0 0 K 0 328 y g d) (fun _ _ => True) := by
  unfold fL_law_B18
  refine ok_if (fun _ => ok_gd hG (ok_some trivial)) (fun c0 => ?_)
  have eL : (Int32.ofNat L).toInt = L := Int32.toInt_ofNat_of_lt (by omega)
  have e6 : (6 : Int32).toInt = 6 := by decide
  have hle : 6 * (c : Int) + 6 ≤ L := by
    have q := z_sub (x := Int32.ofNat L) (y := 6) eL e6 (by omega) (by omega)
    have := Int32.le_iff_toInt_le.mp (nlt c0)
    omega
  obtain ⟨n, hn⟩ : ∃ n : Int, n = 2125050 * (c : Int) := ⟨_, rfl⟩
  rw [← hn] at hW0
  have hn1 : n + 2125050 ≤ 1088025600 := by omega
  have hn0 : 0 ≤ n := by omega
  have g0 : ¬ (y < 0 ∨ L ≤ y.toNatClampNeg) := by
    have e0 : (0 : Int32).toInt = 0 := by decide
    rintro (z | z)
    · have := Int32.lt_iff_toInt_lt.mp z
      omega
    · have : y.toNatClampNeg = y.toInt.toNat := rfl
      omega
  have g1 : ¬ (y + 1 < 0 ∨ L ≤ (y + 1).toNatClampNeg) := gk hy (by decide : (1 : Int32).toInt = 1) (by omega)
  have g2 : ¬ (y + 2 < 0 ∨ L ≤ (y + 2).toNatClampNeg) := gk hy (by decide : (2 : Int32).toInt = 2) (by omega)
  have g3 : ¬ (y + 3 < 0 ∨ L ≤ (y + 3).toNatClampNeg) := gk hy (by decide : (3 : Int32).toInt = 3) (by omega)
  have g4 : ¬ (y + 4 < 0 ∨ L ≤ (y + 4).toNatClampNeg) := gk hy (by decide : (4 : Int32).toInt = 4) (by omega)
  have g5 : ¬ (y + 5 < 0 ∨ L ≤ (y + 5).toNatClampNeg) := gk hy (by decide : (5 : Int32).toInt = 5) (by omega)
  have j771 : ∀ d1 : Ds, WI (n + 2125050) d1 → RR d1 → ok (fL_law_J771 10000 L xs 0 0 K 0 328 y g d1) (fun _ _ => True) := by
    intro d1 h ht
    unfold fL_law_J771
    refine ok_bd (fun u31 e31 => ?_)
    have q := z_add (x := y) (y := 6) hy e6 (by omega) (by omega)
    refine hK u31 d1 (by rw [e31, q]; omega) (by omega) ?_ ht
    rw [show 2125050 * ((c + 1 : Nat) : Int) = n + 2125050 by omega]
    exact h
  refine ok_gd g0 ?_
  refine ok_if (fun _ => j771 _ (hW0.w (by omega)) hT0) (fun ct => ?_)
  refine ok_if (fun _ => ?_) (fun w0 => ?_)
  · refine ok_gd (g1) ?_
    refine ok_gd (g2) ?_
    refine ok_gd (g3) ?_
    refine ok_gd (g4) ?_
    refine ok_gd (g5) ?_
    refine ok_gd (kd_10 hS km_10) ?_
    refine ok_gd (hG) ?_
    refine ok_cb (ok_pc (ok_pc (sX11_feed__10 hS km_10 hW0.1) (feed_b hS (rd_10_1 hW0.1 km_10))) (k_fX11_feed _ _ _ _ _ _ _ _ _ hS hT0.2.1)) (fun u1 e2 r3z => ?_)
    obtain ⟨r3, r3k⟩ := r3z
    have w4 := hW0.cl r3.1.1 (by decide +kernel) (by decide +kernel)
    refine ok_gd (kd_11 hS mo_11) ?_
    refine ok_cb (ok_pc (ok_pc (sX12_feed__11 hS mo_11 w4.1) (feedm_b hS (rd_11_2 w4.1 mo_11))) (k_fX12_feed _ _ _ _ _ _ _ _ _ hS r3k)) (fun u6 e7 r8z => ?_)
    obtain ⟨r8, r8k⟩ := r8z
    have w9 := w4.mo r8.1.1 (by decide +kernel) (by decide +kernel) (by decide +kernel) (by decide +kernel) (by decide +kernel) (by decide +kernel)
    obtain ⟨t10q, t10b⟩ := fd_tb hT0.1 r3.2.1 r3.2.2 r8.2.1 r8.2.2
    have t10 : RR e7 := rr_feed hT0 t10b r8k r3.2.2 r8.2.2
    exact j771 _ (w9.w (by omega)) t10
  refine ok_if (fun _ => ?_) (fun w1 => ?_)
  · refine ok_gd (g1) ?_
    refine ok_gd (kd_10 hS km_10) ?_
    refine ok_gd (hG) ?_
    refine ok_cb (ok_pc (ok_pc (sX11_back__10 hS km_10 hW0.1) back_b) (k_fX11_back _ _ _ _ _ hS hT0.2.1)) (fun u11 e12 r13z => ?_)
    obtain ⟨r13, r13k⟩ := r13z
    have w14 := hW0.cl r13.1.1 (by decide +kernel) (by decide +kernel)
    unfold fL_law_J205
    refine ok_gd (g1) ?_
    refine ok_gd (kd_11 hS mo_11) ?_
    refine ok_gd (hG) ?_
    refine ok_cb (ok_pc (ok_pc (sX12_back__11 hS mo_11 w14.1) backm_b) (k_fX12_back _ _ _ _ _ hS r13k)) (fun u16 e17 r18z => ?_)
    obtain ⟨r18, r18k⟩ := r18z
    have w19 := w14.mo r18.1.1 (by decide +kernel) (by decide +kernel) (by decide +kernel) (by decide +kernel) (by decide +kernel) (by decide +kernel)
    obtain ⟨t20q, t20b⟩ := bk_tb hT0.1 r13.2.1 r13.2.2 r18.2.1 r18.2.2
    have t20 : RR e17 := rr_feed hT0 t20b r18k (fun r j a _ => r13.2.2 r j a) (fun r j a _ => r18.2.2 r j a)
    exact j771 _ (w19.w (by omega)) t20
  refine ok_if (fun _ => ?_) (fun w2 => ?_)
  · refine ok_gd (kd_10 hS km_10) ?_
    refine ok_gd (hG) ?_
    refine ok_cb (ok_pc (ok_pc (sX11_read__10 hS km_10 hW0.1) (k_fX11_read _ _ _ _ hS hT0.2.1)) pc_self) (fun u21 e22 r23z => ?_)
    obtain ⟨⟨r23, r23k⟩, r23s⟩ := r23z
    have w24 := hW0.cl r23.1 (by decide +kernel) (by decide +kernel)
    refine ok_gd (kd_11 hS mo_11) ?_
    refine ok_cb (ok_pc (ok_pc (sX12_read_w hS mo_11 w24.2.1 w24.1) (k_fX12_read _ _ _ _ hS r23k)) pc_self) (fun u26 e27 r28z => ?_)
    obtain ⟨⟨r28, r28k⟩, r28s⟩ := r28z
    have w29 : WI n e27 := ⟨r28.1.1, r28.2.1, hd_frm r28.1 (by decide +kernel) w24.2.2⟩
    obtain ⟨t30q, t30⟩ := rr_read hS hT0 r23k r28k r23s r23.1 r28s r28.1 r23.2.2 r28.2.2
    exact j771 _ (w29.w (by omega)) t30
  refine ok_if (fun _ => ?_) (fun w3 => ?_)
  · refine ok_gd (kd_10 hS km_10) ?_
    refine ok_gd (hG) ?_
    refine ok_cb (ok_pc (ok_pc (sX11_place__10 hS km_10 hW0.1) (k_fX11_place _ _ _ _ hS hT0.2.1)) pc_self) (fun u31 e32 r33z => ?_)
    obtain ⟨⟨r33, r33k⟩, r33s⟩ := r33z
    have w34 : WI n e32 := by rw [r33.1]; exact hW0
    refine ok_gd (kd_11 hS mo_11) ?_
    refine ok_cb (ok_pc (ok_pc (sX12_place__11 hS mo_11 w34.1) (k_fX12_place _ _ _ _ hS r33k)) pc_self) (fun u36 e37 r38z => ?_)
    obtain ⟨⟨r38, r38k⟩, r38s⟩ := r38z
    have w39 : WI n e37 := by rw [r38.1]; exact w34
    have t40q := rr_place hT0 r33s r33.1 r38s
    have t40 : RR e37 := by rw [r38.1, r33.1]; exact hT0
    refine ok_if (fun _ => ?_) (fun z => absurd t40q z)
    exact j771 _ (w39.w (by omega)) t40
  refine ok_if (fun _ => ?_) (fun w4 => ?_)
  · refine ok_gd (g1) ?_
    refine ok_gd (g2) ?_
    refine ok_if (fun _ => ?_) (fun _ => ?_)
    · unfold fL_law_J263
      refine ok_gd (kd_10 hS km_10) ?_
      refine ok_gd (hG) ?_
      refine ok_cb (ok_pc (ok_pc (sX11_press__10 hS km_10 (by decide) hW0.1) (k_fX11_press _ _ _ _ _ _ hS hT0.2.1)) pc_self) (fun u41 e42 r43z => ?_)
      obtain ⟨⟨r43, r43k⟩, r43s⟩ := r43z
      have w44 := hW0.cl r43.1 (by decide +kernel) (by decide +kernel)
      refine ok_gd (g1) ?_
      refine ok_gd (g2) ?_
      refine ok_if (fun _ => ?_) (fun _ => ?_)
      · unfold fL_law_J286
        refine ok_gd (kd_11 hS mo_11) ?_
        refine ok_gd (hG) ?_
        refine ok_cb (ok_pc (ok_pc (sX12_press__11 hS mo_11 (by decide) w44.1) (k_fX12_press _ _ _ _ _ _ hS r43k)) pc_self) (fun u46 e47 r48z => ?_)
        obtain ⟨⟨r48, r48k⟩, r48s⟩ := r48z
        have w49 := w44.mo r48.1 (by decide +kernel) (by decide +kernel) (by decide +kernel) (by decide +kernel) (by decide +kernel) (by decide +kernel)
        have t50b := tb_frm r48.1 (by decide +kernel) (by decide +kernel) (by decide +kernel) (by decide +kernel) (tb_frm r43.1 (by decide +kernel) (by decide +kernel) (by decide +kernel) (by decide +kernel) hT0.1)
        obtain ⟨t50q, t50⟩ := rr_press hS hT0 t50b r48k r43s r43.1 r48s r48.1
        exact j771 _ (w49.w (by omega)) t50
      · unfold fL_law_J286
        refine ok_gd (kd_11 hS mo_11) ?_
        refine ok_gd (hG) ?_
        refine ok_cb (ok_pc (ok_pc (sX12_press__11 hS mo_11 (by decide) w44.1) (k_fX12_press _ _ _ _ _ _ hS r43k)) pc_self) (fun u51 e52 r53z => ?_)
        obtain ⟨⟨r53, r53k⟩, r53s⟩ := r53z
        have w54 := w44.mo r53.1 (by decide +kernel) (by decide +kernel) (by decide +kernel) (by decide +kernel) (by decide +kernel) (by decide +kernel)
        have t55b := tb_frm r53.1 (by decide +kernel) (by decide +kernel) (by decide +kernel) (by decide +kernel) (tb_frm r43.1 (by decide +kernel) (by decide +kernel) (by decide +kernel) (by decide +kernel) hT0.1)
        obtain ⟨t55q, t55⟩ := rr_press hS hT0 t55b r53k r43s r43.1 r53s r53.1
        exact j771 _ (w54.w (by omega)) t55
    · unfold fL_law_J263
      refine ok_gd (kd_10 hS km_10) ?_
      refine ok_gd (hG) ?_
      refine ok_cb (ok_pc (ok_pc (sX11_press__10 hS km_10 (by decide) hW0.1) (k_fX11_press _ _ _ _ _ _ hS hT0.2.1)) pc_self) (fun u56 e57 r58z => ?_)
      obtain ⟨⟨r58, r58k⟩, r58s⟩ := r58z
      have w59 := hW0.cl r58.1 (by decide +kernel) (by decide +kernel)
      refine ok_gd (g1) ?_
      refine ok_gd (g2) ?_
      refine ok_if (fun _ => ?_) (fun _ => ?_)
      · unfold fL_law_J286
        refine ok_gd (kd_11 hS mo_11) ?_
        refine ok_gd (hG) ?_
        refine ok_cb (ok_pc (ok_pc (sX12_press__11 hS mo_11 (by decide) w59.1) (k_fX12_press _ _ _ _ _ _ hS r58k)) pc_self) (fun u61 e62 r63z => ?_)
        obtain ⟨⟨r63, r63k⟩, r63s⟩ := r63z
        have w64 := w59.mo r63.1 (by decide +kernel) (by decide +kernel) (by decide +kernel) (by decide +kernel) (by decide +kernel) (by decide +kernel)
        have t65b := tb_frm r63.1 (by decide +kernel) (by decide +kernel) (by decide +kernel) (by decide +kernel) (tb_frm r58.1 (by decide +kernel) (by decide +kernel) (by decide +kernel) (by decide +kernel) hT0.1)
        obtain ⟨t65q, t65⟩ := rr_press hS hT0 t65b r63k r58s r58.1 r63s r63.1
        exact j771 _ (w64.w (by omega)) t65
      · unfold fL_law_J286
        refine ok_gd (kd_11 hS mo_11) ?_
        refine ok_gd (hG) ?_
        refine ok_cb (ok_pc (ok_pc (sX12_press__11 hS mo_11 (by decide) w59.1) (k_fX12_press _ _ _ _ _ _ hS r58k)) pc_self) (fun u66 e67 r68z => ?_)
        obtain ⟨⟨r68, r68k⟩, r68s⟩ := r68z
        have w69 := w59.mo r68.1 (by decide +kernel) (by decide +kernel) (by decide +kernel) (by decide +kernel) (by decide +kernel) (by decide +kernel)
        have t70b := tb_frm r68.1 (by decide +kernel) (by decide +kernel) (by decide +kernel) (by decide +kernel) (tb_frm r58.1 (by decide +kernel) (by decide +kernel) (by decide +kernel) (by decide +kernel) hT0.1)
        obtain ⟨t70q, t70⟩ := rr_press hS hT0 t70b r68k r58s r58.1 r68s r68.1
        exact j771 _ (w69.w (by omega)) t70
  refine ok_if (fun _ => ?_) (fun w5 => ?_)
  · refine ok_gd (g1) ?_
    refine ok_gd (kd_10 hS km_10) ?_
    refine ok_gd (hG) ?_
    refine ok_cb (ok_pc (sX11_tick__10 (b := bnw n) (B := bp (bnw n) 227 2043200) hS ⟨bp_le (by decide), by rw [bp_o]; exact Int.le_refl _, by rw [bp_o, bnw_n (by decide) (by decide)]; omega⟩ km_10 hW0.1) (k_fX11_tick _ _ _ _ _ hS hT0.2.1)) (fun u71 e72 r73z => ?_)
    obtain ⟨r73, r73k⟩ := r73z
    have w74 : RWf (rw_ e72) := by rw [nu_frm r73.1 (by decide +kernel)]; exact hW0.2.1
    have w74h : HD e72 := hd_frm r73.1 (by decide +kernel) hW0.2.2
    have t75 : RR e72 := rr_frm r73.1 (by decide +kernel) (by decide +kernel) (by decide +kernel) (by decide +kernel) (by decide +kernel) (by decide +kernel) r73k hT0
    refine ok_gd (kd_11 hS mo_11) ?_
    refine ok_cb (ok_pc (sX12_tick_w (B := bnw (n + 2125050)) hS mo_11 ⟨fun q => ?_, ?_, ?_⟩ w74 r73.1.1) (k_fX12_tick _ _ _ _ _ hS r73k)) (fun u76 e77 r78z => ?_)
    · by_cases hq : q = 227
      · rw [hq, bp_o, bnw_n (by decide) (by decide), bnw_n (by decide) (by decide)]; omega
      · rw [bp_ne hq]; exact bnw_le (by omega) q
    · rw [bp_ne (by decide), bnw_n (by decide) (by decide), bnw_n (by decide) (by decide)]; exact Int.le_refl _
    · rw [bnw_n (by decide) (by decide)]; omega
    obtain ⟨r78, r78k⟩ := r78z
    have w79 : WI (n + 2125050) e77 := ⟨r78.1.1, r78.2, hd_frm r78.1 (by decide +kernel) w74h⟩
    have t80 : RR e77 := rr_frm r78.1 (by decide +kernel) (by decide +kernel) (by decide +kernel) (by decide +kernel) (by decide +kernel) (by decide +kernel) r78k t75
    exact j771 _ w79 t80
  refine ok_if (fun _ => ?_) (fun w6 => ?_)
  · refine ok_gd (g1) ?_
    refine ok_gd (g2) ?_
    refine ok_gd (kd_10 hS km_10) ?_
    refine ok_gd (hG) ?_
    refine ok_cb (ok_pc (sX11_key__10 hS km_10 hW0.1) (k_fX11_key _ _ _ _ _ _ hS hT0.2.1)) (fun u81 e82 r83z => ?_)
    obtain ⟨r83, r83k⟩ := r83z
    have w84 : WI n e82 := by rw [r83.1]; exact hW0
    have t85 : RR e82 := by rw [r83.1]; exact hT0
    refine ok_gd (kd_11 hS mo_11) ?_
    refine ok_cb (ok_pc (sX12_key__11 hS mo_11 w84.1) (k_fX12_key _ _ _ _ _ _ hS r83k)) (fun u86 e87 r88z => ?_)
    obtain ⟨r88, r88k⟩ := r88z
    have w89 := w84.mo r88.1 (by decide +kernel) (by decide +kernel) (by decide +kernel) (by decide +kernel) (by decide +kernel) (by decide +kernel)
    have t90 : RR e87 := rr_frm r88.1 (by decide +kernel) (by decide +kernel) (by decide +kernel) (by decide +kernel) (by decide +kernel) (by decide +kernel) r88k t85
    exact j771 _ (w89.w (by omega)) t90
  refine ok_if (fun _ => ?_) (fun w7 => ?_)
  · refine ok_gd (g1) ?_
    refine ok_gd (g2) ?_
    refine ok_gd (g3) ?_
    refine ok_gd (kd_10 hS km_10) ?_
    refine ok_gd (hG) ?_
    refine ok_cb (ok_pc (sX11_deed__10 hS km_10 hW0.1) (k_fX11_deed _ _ _ _ _ _ _ hS hT0.2.1)) (fun u91 e92 r93z => ?_)
    obtain ⟨r93, r93k⟩ := r93z
    have w94 : WI n e92 := by rw [r93.1]; exact hW0
    have t95 : RR e92 := by rw [r93.1]; exact hT0
    refine ok_gd (kd_11 hS mo_11) ?_
    refine ok_cb (ok_pc (sX12_deed__11 hS mo_11 w94.1) (k_fX12_deed _ _ _ _ _ _ _ hS r93k)) (fun u96 e97 r98z => ?_)
    obtain ⟨r98, r98k⟩ := r98z
    have w99 : WI n e97 := by rw [r98.1]; exact w94
    have t100 : RR e97 := by rw [r98.1]; exact t95
    unfold fL_law_J389
    exact j771 _ (w99.w (by omega)) t100
  refine ok_if (fun _ => ?_) (fun w8 => ?_)
  · refine ok_gd (g1) ?_
    refine ok_gd (g2) ?_
    refine ok_gd (kd_10 hS km_10) ?_
    refine ok_gd (hG) ?_
    refine ok_cb (ok_pc (sX11_does__10 hS km_10 hW0.1) (k_fX11_does _ _ _ _ _ _ hS hT0.2.1)) (fun u101 e102 r103z => ?_)
    obtain ⟨r103, r103k⟩ := r103z
    have w104 : WI n e102 := by rw [r103.1]; exact hW0
    have t105 : RR e102 := by rw [r103.1]; exact hT0
    refine ok_gd (kd_11 hS mo_11) ?_
    refine ok_cb (ok_pc (sX12_does__11 hS mo_11 w104.1) (k_fX12_does _ _ _ _ _ _ hS r103k)) (fun u106 e107 r108z => ?_)
    obtain ⟨r108, r108k⟩ := r108z
    have w109 : WI n e107 := by rw [r108.1]; exact w104
    have t110 : RR e107 := by rw [r108.1]; exact t105
    exact j771 _ (w109.w (by omega)) t110
  refine ok_if (fun _ => ?_) (fun w9 => ?_)
  · refine ok_gd (g1) ?_
    refine ok_gd (g2) ?_
    refine ok_gd (kd_10 hS km_10) ?_
    refine ok_gd (hG) ?_
    refine ok_cb (ok_pc (sX11_event__10 hS km_10 hW0.1) (k_fX11_event _ _ _ _ _ _ hS hT0.2.1)) (fun u111 e112 r113z => ?_)
    obtain ⟨r113, r113k⟩ := r113z
    have w114 : WI n e112 := by rw [r113.1]; exact hW0
    have t115 : RR e112 := by rw [r113.1]; exact hT0
    refine ok_gd (kd_11 hS mo_11) ?_
    refine ok_cb (ok_pc (sX12_event__11 hS mo_11 w114.1) (k_fX12_event _ _ _ _ _ _ hS r113k)) (fun u116 e117 r118z => ?_)
    obtain ⟨r118, r118k⟩ := r118z
    have w119 : WI n e117 := by rw [r118.1]; exact w114
    have t120 : RR e117 := by rw [r118.1]; exact t115
    exact j771 _ (w119.w (by omega)) t120
  refine ok_if (fun _ => ?_) (fun w10 => ?_)
  · refine ok_gd (g1) ?_
    refine ok_gd (g2) ?_
    refine ok_gd (kd_10 hS km_10) ?_
    refine ok_gd (hG) ?_
    refine ok_cb (ok_pc (sX11_report__10 hS km_10 hW0.1) (k_fX11_report _ _ _ _ _ _ hS hT0.2.1)) (fun u121 e122 r123z => ?_)
    obtain ⟨r123, r123k⟩ := r123z
    have w124 : WI n e122 := by rw [r123.1]; exact hW0
    have t125 : RR e122 := by rw [r123.1]; exact hT0
    refine ok_gd (kd_11 hS mo_11) ?_
    refine ok_cb (ok_pc (sX12_report__11 hS mo_11 w124.1) (k_fX12_report _ _ _ _ _ _ hS r123k)) (fun u126 e127 r128z => ?_)
    obtain ⟨r128, r128k⟩ := r128z
    have w129 : WI n e127 := by rw [r128.1]; exact w124
    have t130 : RR e127 := by rw [r128.1]; exact t125
    unfold fL_law_J488
    exact j771 _ (w129.w (by omega)) t130
  refine ok_if (fun _ => ?_) (fun w11 => ?_)
  · refine ok_gd (g1) ?_
    refine ok_gd (kd_10 hS km_10) ?_
    refine ok_gd (hG) ?_
    refine ok_cb (ok_pc (sX11_sent__10 hS km_10 hW0.1) (k_fX11_sent _ _ _ _ _ hS hT0.2.1)) (fun u131 e132 r133z => ?_)
    obtain ⟨r133, r133k⟩ := r133z
    have w134 := hW0.cl r133.1 (by decide +kernel) (by decide +kernel)
    have t135 : RR e132 := rr_frm r133.1 (by decide +kernel) (by decide +kernel) (by decide +kernel) (by decide +kernel) (by decide +kernel) (by decide +kernel) r133k hT0
    refine ok_gd (kd_11 hS mo_11) ?_
    refine ok_cb (ok_pc (sX12_sent__11 hS mo_11 w134.1) (k_fX12_sent _ _ _ _ _ hS r133k)) (fun u136 e137 r138z => ?_)
    obtain ⟨r138, r138k⟩ := r138z
    have w139 := w134.mo r138.1 (by decide +kernel) (by decide +kernel) (by decide +kernel) (by decide +kernel) (by decide +kernel) (by decide +kernel)
    have t140 : RR e137 := rr_frm r138.1 (by decide +kernel) (by decide +kernel) (by decide +kernel) (by decide +kernel) (by decide +kernel) (by decide +kernel) r138k t135
    exact j771 _ (w139.w (by omega)) t140
  refine ok_if (fun _ => ?_) (fun w12 => ?_)
  · refine ok_gd (g1) ?_
    refine ok_gd (kd_10 hS km_10) ?_
    refine ok_gd (hG) ?_
    refine ok_cb (ok_pc (sX11_host__10 hS km_10 hW0.1) (k_fX11_host _ _ _ _ _ hS hT0.2.1)) (fun u141 e142 r143z => ?_)
    obtain ⟨r143, r143k⟩ := r143z
    have w144 : WI n e142 := by rw [r143.1]; exact hW0
    have t145 : RR e142 := by rw [r143.1]; exact hT0
    refine ok_gd (kd_11 hS mo_11) ?_
    refine ok_cb (ok_pc (sX12_host__11 hS mo_11 w144.1) (k_fX12_host _ _ _ _ _ hS r143k)) (fun u146 e147 r148z => ?_)
    obtain ⟨r148, r148k⟩ := r148z
    have w149 : WI n e147 := by rw [r148.1]; exact w144
    have t150 : RR e147 := by rw [r148.1]; exact t145
    exact j771 _ (w149.w (by omega)) t150
  refine ok_if (fun _ => ?_) (fun w13 => ?_)
  · refine ok_gd (g1) ?_
    refine ok_gd (g2) ?_
    refine ok_gd (kd_10 hS km_10) ?_
    refine ok_gd (hG) ?_
    refine ok_cb (ok_pc (sX11_strokes__10 hS km_10 hW0.1) (k_fX11_strokes _ _ _ _ _ _ hS hT0.2.1)) (fun u151 e152 r153z => ?_)
    obtain ⟨r153, r153k⟩ := r153z
    have w154 : WI n e152 := by rw [r153.1]; exact hW0
    have t155 : RR e152 := by rw [r153.1]; exact hT0
    refine ok_gd (kd_11 hS mo_11) ?_
    refine ok_cb (ok_pc (sX12_strokes__11 hS mo_11 w154.1) (k_fX12_strokes _ _ _ _ _ _ hS r153k)) (fun u156 e157 r158z => ?_)
    obtain ⟨r158, r158k⟩ := r158z
    have w159 : WI n e157 := by rw [r158.1]; exact w154
    have t160 : RR e157 := by rw [r158.1]; exact t155
    exact j771 _ (w159.w (by omega)) t160
  refine ok_if (fun _ => ?_) (fun w14 => ?_)
  · refine ok_gd (g1) ?_
    refine ok_gd (g2) ?_
    refine ok_gd (kd_10 hS km_10) ?_
    refine ok_gd (hG) ?_
    refine ok_cb (ok_pc (sX11_chord__10 hS km_10 (Int.le_of_eq bnw_4) hW0.1) (k_fX11_chord _ _ _ _ _ _ hS hT0.2.1)) (fun u161 e162 r163z => ?_)
    obtain ⟨r163, r163k⟩ := r163z
    have w164 : WI n e162 := by rw [r163.1]; exact hW0
    have t165 : RR e162 := by rw [r163.1]; exact hT0
    unfold fL_law_J585
    refine ok_gd (g1) ?_
    refine ok_gd (g2) ?_
    refine ok_gd (kd_11 hS mo_11) ?_
    refine ok_gd (hG) ?_
    refine ok_cb (ok_pc (sX12_chord__11 hS mo_11 w164.1) (k_fX12_chord _ _ _ _ _ _ hS r163k)) (fun u166 e167 r168z => ?_)
    obtain ⟨r168, r168k⟩ := r168z
    have w169 : WI n e167 := by rw [r168.1]; exact w164
    have t170 : RR e167 := by rw [r168.1]; exact t165
    exact j771 _ (w169.w (by omega)) t170
  refine ok_if (fun _ => ?_) (fun w15 => ?_)
  · refine ok_gd (g1) ?_
    refine ok_gd (g2) ?_
    refine ok_gd (kd_10 hS km_10) ?_
    refine ok_gd (hG) ?_
    refine ok_cb (ok_pc (ok_pc (sX11_macro__10 hS km_10 hW0.1) (k_fX11_macro _ _ _ _ _ _ hS hT0.2.1)) pc_self) (fun u171 e172 r173z => ?_)
    obtain ⟨⟨r173, r173k⟩, r173s⟩ := r173z
    have w174 : WI n e172 := by rw [r173.1]; exact hW0
    refine ok_gd (kd_11 hS mo_11) ?_
    refine ok_cb (ok_pc (ok_pc (sX12_macro__11 hS mo_11 w174.1) (k_fX12_macro _ _ _ _ _ _ hS r173k)) pc_self) (fun u176 e177 r178z => ?_)
    obtain ⟨⟨r178, r178k⟩, r178s⟩ := r178z
    have w179 : WI n e177 := by rw [r178.1]; exact w174
    have t180q := rr_macro hS hT0 hW0.1 r173s r173.1 r178s
    have t180 : RR e177 := by rw [r178.1, r173.1]; exact hT0
    exact j771 _ (w179.w (by omega)) t180
  refine ok_if (fun _ => ?_) (fun w16 => ?_)
  · refine ok_gd (g1) ?_
    refine ok_gd (g2) ?_
    refine ok_gd (kd_10 hS km_10) ?_
    refine ok_gd (hG) ?_
    refine ok_cb (ok_pc (sX11_ghosts__10 hS km_10 hW0.1) (k_fX11_ghosts _ _ _ _ _ _ hS hT0.2.1)) (fun u181 e182 r183z => ?_)
    obtain ⟨r183, r183k⟩ := r183z
    have w184 := hW0.cl r183.1 (by decide +kernel) (by decide +kernel)
    have t185 : RR e182 := rr_frm r183.1 (by decide +kernel) (by decide +kernel) (by decide +kernel) (by decide +kernel) (by decide +kernel) (by decide +kernel) r183k hT0
    refine ok_gd (kd_11 hS mo_11) ?_
    refine ok_cb (ok_pc (sX12_ghosts__11 hS mo_11 w184.1) (k_fX12_ghosts _ _ _ _ _ _ hS r183k)) (fun u186 e187 r188z => ?_)
    obtain ⟨r188, r188k⟩ := r188z
    have w189 := w184.mo r188.1 (by decide +kernel) (by decide +kernel) (by decide +kernel) (by decide +kernel) (by decide +kernel) (by decide +kernel)
    have t190 : RR e187 := rr_frm r188.1 (by decide +kernel) (by decide +kernel) (by decide +kernel) (by decide +kernel) (by decide +kernel) (by decide +kernel) r188k t185
    exact j771 _ (w189.w (by omega)) t190
  refine ok_if (fun _ => ?_) (fun w17 => ?_)
  · refine ok_gd (g1) ?_
    refine ok_gd (g2) ?_
    refine ok_gd (kd_10 hS km_10) ?_
    refine ok_gd (hG) ?_
    refine ok_cb (ok_pc (ok_pc (sX11_ahead_w hS km_10 (by rw [bnw_p, bnw_n (by decide) (by decide)]; omega) (by rw [bnw_p]; exact Int.le_refl _) hW0.1) (k_fX11_ahead _ _ _ _ _ _ hS hT0.2.1)) pc_self) (fun u191 e192 r193z => ?_)
    obtain ⟨⟨r193, r193k⟩, r193s⟩ := r193z
    have w194 := hW0.cl r193.1 (by decide +kernel) (by decide +kernel)
    unfold fL_law_J684
    refine ok_gd (g1) ?_
    refine ok_gd (g2) ?_
    refine ok_gd (kd_11 hS mo_11) ?_
    refine ok_gd (hG) ?_
    refine ok_cb (ok_pc (ok_pc (sX12_ahead_w hS mo_11 (by rw [bnw_n (by decide) (by decide)]; omega) (by rw [bnw_n (own_ne _) (by decide +kernel), bnw_n (by decide) (by decide)]) w194.2.1 w194.1) (k_fX12_ahead _ _ _ _ _ _ hS r193k)) pc_self) (fun u196 e197 r198z => ?_)
    obtain ⟨⟨r198, r198k⟩, r198s⟩ := r198z
    have w199 : WI n e197 := ⟨r198.1.1, r198.2, hd_frm r198.1 (by decide +kernel) w194.2.2⟩
    have t200b := tb_frm r198.1 (by decide +kernel) (by decide +kernel) (by decide +kernel) (by decide +kernel) (tb_frm r193.1 (by decide +kernel) (by decide +kernel) (by decide +kernel) (by decide +kernel) hT0.1)
    have t200 := rr_ahead hS hT0 t200b r198k r193s r193.1 r198s r198.1
    exact j771 _ (w199.w (by omega)) t200
  refine ok_if (fun _ => ?_) (fun w18 => ?_)
  · refine ok_gd (g1) ?_
    refine ok_gd (kd_10 hS km_10) ?_
    refine ok_gd (hG) ?_
    refine ok_cb (ok_pc (ok_pc (sX11_hold_w hS km_10 bnw_u hW0.1) (k_fX11_hold _ _ _ _ _ hS hT0.2.1)) pc_self) (fun u201 e202 r203z => ?_)
    obtain ⟨⟨r203, r203k⟩, r203s⟩ := r203z
    have w204 := hW0.cl r203.1 (by decide +kernel) (by decide +kernel)
    refine ok_gd (kd_11 hS mo_11) ?_
    refine ok_cb (ok_pc (ok_pc (sX12_hold_w hS mo_11 (by rw [bnw_n (own_ne _) (by decide +kernel), bnw_n (own_ne _) (by decide +kernel)]) w204.2.1 w204.2.2 w204.1) (k_fX12_hold _ _ _ _ _ hS r203k)) pc_self) (fun u206 e207 r208z => ?_)
    obtain ⟨⟨r208, r208k⟩, r208s⟩ := r208z
    have w209 : WI n e207 := ⟨r208.1.1.1, r208.1.2⟩
    have t210b := tb_frm r208.1.1 (by decide +kernel) (by decide +kernel) (by decide +kernel) (by decide +kernel) (tb_frm r203.1 (by decide +kernel) (by decide +kernel) (by decide +kernel) (by decide +kernel) hT0.1)
    obtain ⟨t210q, t210⟩ := rr_hold hS hT0 t210b r208k r203s r203.1 r208s r208.1.1
    exact j771 _ (w209.w (by omega)) t210
  refine ok_if (fun _ => ?_) (fun w19 => ?_)
  · refine ok_gd (g1) ?_
    refine ok_gd (kd_10 hS km_10) ?_
    refine ok_gd (hG) ?_
    refine ok_cb (ok_pc (ok_pc (sX11_restore_w hS km_10 bnw_u hW0.1) (k_fX11_restore _ _ _ _ _ hS hT0.2.1)) pc_self) (fun u211 e212 r213z => ?_)
    obtain ⟨⟨r213, r213k⟩, r213s⟩ := r213z
    have w214 := hW0.cl r213.1 (by decide +kernel) (by decide +kernel)
    refine ok_gd (kd_11 hS mo_11) ?_
    refine ok_cb (ok_pc (ok_pc (sX12_restore_w hS mo_11 (by rw [bnw_n (own_ne _) (by decide +kernel), bnw_n (own_ne _) (by decide +kernel)]) w214.2.1 w214.2.2 w214.1) (k_fX12_restore _ _ _ _ _ hS r213k)) pc_self) (fun u216 e217 r218z => ?_)
    obtain ⟨⟨r218, r218k⟩, r218s⟩ := r218z
    have w219 : WI n e217 := ⟨r218.1.1, r218.2⟩
    have t220b := tb_frm r218.1 (by decide +kernel) (by decide +kernel) (by decide +kernel) (by decide +kernel) (tb_frm r213.1 (by decide +kernel) (by decide +kernel) (by decide +kernel) (by decide +kernel) hT0.1)
    obtain ⟨t220q, t220⟩ := rr_restore hS hT0 t220b r218k r213s r213.1 r218s r218.1
    exact j771 _ (w219.w (by omega)) t220
  refine ok_if (fun _ => ?_) (fun w20 => ?_)
  · refine ok_gd (g1) ?_
    refine ok_gd (kd_10 hS km_10) ?_
    refine ok_gd (hG) ?_
    refine ok_cb (ok_pc (sX11_count__10 hS km_10 hW0.1) (k_fX11_count _ _ _ _ _ hS hT0.2.1)) (fun u221 e222 r223z => ?_)
    obtain ⟨r223, r223k⟩ := r223z
    have w224 : WI n e222 := by rw [r223.1]; exact hW0
    have t225 : RR e222 := by rw [r223.1]; exact hT0
    refine ok_gd (kd_11 hS mo_11) ?_
    refine ok_cb (ok_pc (sX12_count__11 hS mo_11 w224.1) (k_fX12_count _ _ _ _ _ hS r223k)) (fun u226 e227 r228z => ?_)
    obtain ⟨r228, r228k⟩ := r228z
    have w229 := w224.mo r228.1 (by decide +kernel) (by decide +kernel) (by decide +kernel) (by decide +kernel) (by decide +kernel) (by decide +kernel)
    have t230 : RR e227 := rr_frm r228.1 (by decide +kernel) (by decide +kernel) (by decide +kernel) (by decide +kernel) (by decide +kernel) (by decide +kernel) r228k t225
    exact j771 _ (w229.w (by omega)) t230
  exact (no21 ct w0 w1 w2 w3 w4 w5 w6 w7 w8 w9 w10 w11 w12 w13 w14 w15 w16 w17 w18 w19 w20).elim
theorem law_loop {g : Gs} (hS : Shp g) (hG : gN g - 0 ≤ 600000 ∧ gS g - 0 ≤ 7302250) {L : Nat} (hL : L ≤ 3072) {xs : Nat → Int32} {d : Ds} (hW : WI 0 d) (hT : RR d) : ok (fL_law_L18 10000 L xs 0 0 (0, 328, 0, g, d)) (fun _ _ => True) := by
  unfold fL_law_L18
  refine ok_lp (fun a => a.1 = 0 ∧ a.2.1 = 328 ∧ a.2.2.2.1 = g ∧ ∃ c : Nat, a.2.2.1.toInt = 6 * (c : Int) ∧ (c = 0 ∨ 6 * (c : Int) ≤ L) ∧ WI (2125050 * (c : Int)) a.2.2.2.2 ∧ RR a.2.2.2.2) (fun a => (4000 - a.2.2.1.toInt).toNat) ?_ 10000 (0, 328, 0, g, d) ⟨rfl, rfl, rfl, 0, (by decide : (0 : Int32).toInt = 6 * ((0 : Nat) : Int)), Or.inl rfl, hW.w (by omega), hT⟩ (by have : (0 : Int32).toInt = 0 := (by decide); dsimp only; omega)
  rintro K ⟨y1, y2, y3, g1, d1⟩ ⟨e1, e2, e3, c, hy, hc, hW, hT⟩ hK
  dsimp only at e1 e2 e3 hy hW hT hK ⊢
  subst e1
  subst e2
  subst e3
  refine law_body hS hG hL hy hW hT (fun y d2 hy2 hl2 hW2 hT2 => hK _ ⟨rfl, rfl, rfl, c + 1, hy2, Or.inr hl2, hW2, hT2⟩ ?_)
  dsimp only
  rw [hy2, hy]
  omega
