def BE (X : Nat) (d d' : Ds) : Prop := d'.2 = d.2 ∧ ∀ j, 352 ≤ j → dI d' X j = dI d X j
theorem BE.s {X : Nat} {d dd de : Ds} {j : Nat} {v : Int32} (h : BE X d dd) (e : de = sI dd X j v) (hj : j < 352 := by omega) : BE X d de := by
  refine ⟨?_, fun i hi => ?_⟩
  · rw [e]
    exact h.1
  · rw [rdq e (Or.inr (by omega))]
    exact h.2 i hi
theorem dx_set {d d' : Ds} {X j : Nat} {v : Int32} (e : d' = sI d X j v) : ∀ i, (fun j => dI d' X j) i = if i = j then v else (fun j => dI d X j) i := by
  intro i
  dsimp only
  rw [e, sI_rd]
  by_cases z : i = j
  · rw [if_pos ⟨rfl, z⟩, if_pos z]
  · rw [if_neg (fun q => z q.2), if_neg z]
theorem ixl {x : Int32} {n : Nat} {a b : Int} (h : iv x a b) (hn : 352 ≤ n) (hd : 0 ≤ a ∧ b < 352) : ¬ (x < 0 ∨ n ≤ x.toNatClampNeg) := by
  have h0 : 0 ≤ x.toInt := Int.le_trans hd.1 h.1
  have e := z_nat h0
  have h2 := h.2
  rintro (q | q)
  · have := Int32.lt_iff_toInt_lt.mp q
    have e0 : (0 : Int32).toInt = 0 := by decide
    omega
  · omega
theorem begins_e {g : Gs} {d : Ds} {X : Nat} (hk : chk g X 102) (L : 352 ≤ gL g X) : ok (fX12_begins 10000 g X d) (fun u d' => BE X d d' ∧ (∀ r j, r ≠ X → dI d' r j = dI d r j) ∧ BG (fun j => dI d' X j) ∧ dI d' X 9 = 5) := by
  have t4 : (4 : Int32).toNatClampNeg = 4 := by decide
  have t5 : (5 : Int32).toNatClampNeg = 5 := by decide
  have t6 : (6 : Int32).toNatClampNeg = 6 := by decide
  have t7 : (7 : Int32).toNatClampNeg = 7 := by decide
  have t8 : (8 : Int32).toNatClampNeg = 8 := by decide
  have t9 : (9 : Int32).toNatClampNeg = 9 := by decide
  have e1 : (1 : Int32).toInt = 1 := by decide
  have l52 : ∀ (dd : Ds), BE X d dd → (∀ r j, r ≠ X → dI dd r j = dI d r j) → BG (fun j => dI dd X j) → dI dd X 9 = 5 → ok (fX12_begins_L52 10000 g X (0, dd)) (fun u d' => BE X d d' ∧ (∀ r j, r ≠ X → dI d' r j = dI d r j) ∧ BG (fun j => dI d' X j) ∧ dI d' X 9 = 5) := by
    intro dd hI hf hB h9
    unfold fX12_begins_L52
    refine ok_lp (fun a => iv a.1 0 96 ∧ BE X d a.2 ∧ (∀ r j, r ≠ X → dI a.2 r j = dI d r j) ∧ BG (fun j => dI a.2 X j) ∧ dI a.2 X 9 = 5) (fun a => (96 - a.1.toInt).toNat) ?_ 10000 (0, dd) ⟨(by decide : iv (0 : Int32) 0 96), hI, hf, hB, h9⟩ (by have : (0 : Int32).toInt = 0 := (by decide); dsimp only; omega)
    rintro K52 ⟨y1, de⟩ ⟨hy, hI, hf, hB, h9⟩ hK
    dsimp only at hy hI hf hB h9 hK ⊢
    unfold fX12_begins_B52
    refine ok_if (fun _ => ok_some ⟨hI, hf, hB, h9⟩) (fun c => ?_)
    have hy3 := iv.w (c := 0) (e := 95) (lt_l (nle c) hy (by decide : iv (96 : Int32) 96 96)) (by decide)
    have h1 := hy3.1
    have h2 := hy3.2
    have k1 := z_mul (x := (3 : Int32)) (y := y1) (show (3 : Int32).toInt = 3 by decide) rfl (by omega) (by omega)
    have k2 := z_add (x := (12 : Int32)) (show (12 : Int32).toInt = 12 by decide) k1 (by omega) (by omega)
    have k3 := z_add (x := (12 : Int32) + ((3 : Int32) * y1)) k2 e1 (by omega) (by omega)
    have k4 := z_add (x := (12 : Int32) + ((3 : Int32) * y1)) k2 (by decide : (2 : Int32).toInt = 2) (by omega) (by omega)
    have i2 : ((12 : Int32) + ((3 : Int32) * y1)).toNatClampNeg = 12 + 3 * y1.toInt.toNat := by show ((12 : Int32) + ((3 : Int32) * y1)).toInt.toNat = _; omega
    have i3 : (((12 : Int32) + ((3 : Int32) * y1)) + 1).toNatClampNeg = 12 + 3 * y1.toInt.toNat + 1 := by show (((12 : Int32) + ((3 : Int32) * y1)) + 1).toInt.toNat = _; omega
    have i4 : (((12 : Int32) + ((3 : Int32) * y1)) + 2).toNatClampNeg = 12 + 3 * y1.toInt.toNat + 2 := by show (((12 : Int32) + ((3 : Int32) * y1)) + 2).toInt.toNat = _; omega
    have j76 : ∀ z0 : Int32, ¬ z0 = 9 → ok (fX12_begins_J76 10000 g X K52 y1 z0 ((12 : Int32) + ((3 : Int32) * y1)) X de) (fun u d' => BE X d d' ∧ (∀ r j, r ≠ X → dI d' r j = dI d r j) ∧ BG (fun j => dI d' X j) ∧ dI d' X 9 = 5) := by
      intro z0 hz
      unfold fX12_begins_J76
      refine ok_gd (hk) ?_
      refine ok_gd (ixl (⟨by omega, by omega⟩ : iv ((12 : Int32) + ((3 : Int32) * y1)) 12 297) L (by decide)) ?_
      refine ok_bd (fun d19 e19 => ?_)
      refine ok_gd (hk) ?_
      refine ok_gd (ixl (⟨by omega, by omega⟩ : iv (((12 : Int32) + ((3 : Int32) * y1)) + 1) 12 298) L (by decide)) ?_
      refine ok_bd (fun d22 e22 => ?_)
      refine ok_gd (ixl (⟨by omega, by omega⟩ : iv (((12 : Int32) + ((3 : Int32) * y1)) + 2) 12 299) L (by decide)) ?_
      refine ok_bd (fun d24 e24 => ?_)
      refine ok_bd (fun u25 e25 => ?_)
      rw [i2] at e19
      rw [i3] at e22
      rw [i4] at e24
      have q2 := z_add (x := y1) (y := 1) rfl e1 (by omega) (by omega)
      refine hK _ ⟨⟨by dsimp only; rw [e25, q2]; omega, by dsimp only; rw [e25, q2]; omega⟩, BE.s (BE.s (BE.s hI e19) e22) e24, fun r j q => ?_, ?_, ?_⟩ (by dsimp only; rw [e25, q2]; omega)
      · dsimp only
        rw [rdq e24 (Or.inl q), rdq e22 (Or.inl q), rdq e19 (Or.inl q)]
        exact hf r j q
      · have b1 := hB.set (dx_set e19) (okN_dd (by omega)) (by omega) hz
        have b2 := b1.set (dx_set e22) (okN_dd (by omega)) (by omega) (by decide)
        exact b2.set (dx_set e24) (okN_dd (by omega)) (by omega) (by decide)
      · dsimp only
        rw [rdq e24 (Or.inr (by omega)), rdq e22 (Or.inr (by omega)), rdq e19 (Or.inr (by omega))]
        exact h9
    exact ok_if (fun _ => j76 _ (by decide)) (fun _ => j76 _ (by decide))
  unfold fX12_begins
  unfold fX12_begins_L2
  refine ok_lp (fun a => iv a.1 0 352 ∧ BE X d a.2 ∧ (∀ r j, r ≠ X → dI a.2 r j = dI d r j) ∧ (∀ j : Nat, (j : Int) < a.1.toInt → dI a.2 X j = 0)) (fun a => (352 - a.1.toInt).toNat) ?_ 10000 (0, d) ⟨(by decide : iv (0 : Int32) 0 352), ⟨rfl, fun _ _ => rfl⟩, fun _ _ _ => rfl, fun j hj => absurd hj (by have : (0 : Int32).toInt = 0 := (by decide); dsimp only; omega)⟩ (by have : (0 : Int32).toInt = 0 := (by decide); dsimp only; omega)
  rintro K2 ⟨y1, de⟩ ⟨hy, hI, hf, hz⟩ hK
  dsimp only at hy hI hf hz hK ⊢
  unfold fX12_begins_B2
  rw [t4, t5, t6, t7, t8, t9]
  refine ok_if (fun c => ?_) (fun c => ?_)
  · have c2 := Int32.le_iff_toInt_le.mp c
    have e352 : (352 : Int32).toInt = 352 := by decide
    have hz2 : ∀ j, j < 352 → dI de X j = 0 := fun j hj => hz j (by omega)
    refine ok_gd (hk) ?_
    refine ok_gd (by rw [← t4]; exact ixl (by decide : iv (4 : Int32) 4 4) L (by decide)) ?_
    refine ok_bd (fun d4 e4 => ?_)
    refine ok_gd (by rw [← t5]; exact ixl (by decide : iv (5 : Int32) 5 5) L (by decide)) ?_
    refine ok_bd (fun d6 e6 => ?_)
    refine ok_gd (by rw [← t6]; exact ixl (by decide : iv (6 : Int32) 6 6) L (by decide)) ?_
    refine ok_bd (fun d8 e8 => ?_)
    refine ok_gd (by rw [← t7]; exact ixl (by decide : iv (7 : Int32) 7 7) L (by decide)) ?_
    refine ok_bd (fun d10 e10 => ?_)
    refine ok_gd (by rw [← t8]; exact ixl (by decide : iv (8 : Int32) 8 8) L (by decide)) ?_
    refine ok_bd (fun d12 e12 => ?_)
    refine ok_gd (by rw [← t9]; exact ixl (by decide : iv (9 : Int32) 9 9) L (by decide)) ?_
    refine ok_bd (fun d14 e14 => ?_)
    have b0 : BG (fun j => dI de X j) := by
      refine ⟨fun j hj => ?_, fun i hi z => ?_, fun i hi z => ?_, hz2 10 (by decide), hz2 11 (by decide), fun i hi => hz2 _ (by omega)⟩
      · rw [show (fun j => dI de X j) j = 0 from hz2 j hj]
        exact okN_z0
      · rw [show (fun j => dI de X j) (12 + 3 * i) = 0 from hz2 (12 + 3 * i) (by omega)] at z
        exact absurd z (by decide)
      · rw [show (fun j => dI de X j) (300 + 4 * i + 2) = 0 from hz2 (300 + 4 * i + 2) (by omega)] at z
        exact absurd z (by decide)
    have b4 := b0.set (dx_set e4) (okN_j (by decide) (by decide)) (by omega) (by decide)
    have b6 := b4.set (dx_set e6) (okN_j (by decide) (by decide)) (by omega) (by decide)
    have b8 := b6.set (dx_set e8) (okN_j (by decide) (by decide)) (by omega) (by decide)
    have b10 := b8.set (dx_set e10) (okN_j (by decide) (by decide)) (by omega) (by decide)
    have b12 := b10.set (dx_set e12) (okN_j (by decide) (by decide)) (by omega) (by decide)
    have b14 := b12.set (dx_set e14) (okN_j (by decide) (by decide)) (by omega) (by decide)
    refine l52 d14 (BE.s (BE.s (BE.s (BE.s (BE.s (BE.s hI e4) e6) e8) e10) e12) e14) (fun r j q => ?_) b14 (by rw [e14, sI_rd, if_pos ⟨rfl, rfl⟩])
    rw [rdq e14 (Or.inl q), rdq e12 (Or.inl q), rdq e10 (Or.inl q), rdq e8 (Or.inl q), rdq e6 (Or.inl q), rdq e4 (Or.inl q)]
    exact hf r j q
  · have h3 := iv.w (c := 0) (e := 351) (lt_l (nle c) hy (by decide : iv (352 : Int32) 352 352)) (by decide)
    have k1 := h3.1
    have k2 := h3.2
    have kn := z_nat (x := y1) k1
    refine ok_gd (hk) ?_
    refine ok_gd (ixl h3 L (by decide)) ?_
    refine ok_bd (fun d28 e28 => ?_)
    refine ok_bd (fun u29 e29 => ?_)
    have q2 := z_add (x := y1) (y := 1) rfl e1 (by omega) (by omega)
    refine hK _ ⟨⟨by dsimp only; rw [e29, q2]; omega, by dsimp only; rw [e29, q2]; omega⟩, BE.s hI e28, fun r j q => ?_, fun j hj => ?_⟩ (by dsimp only; rw [e29, q2]; omega)
    · dsimp only
      rw [rdq e28 (Or.inl q)]
      exact hf r j q
    · dsimp only at hj ⊢
      rw [e29, q2] at hj
      rw [e28, sI_rd]
      split
      · rfl
      · rename_i q
        refine hz j ?_
        by_cases z : j = y1.toNatClampNeg
        · exact absurd ⟨rfl, z⟩ q
        · omega
theorem Fshp {g : Gs} {d : Ds} (h : q0 = some (g, d)) : Shp g := by
  have h1 := onq_s q_n h
  have h2 := onq_s q_k h
  have h3 := onq_s q_r h
  simp only [Bool.and_eq_true, List.all_eq_true, List.mem_range, beq_iff_eq, Bool.or_eq_true] at h1 h2 h3
  refine ⟨h1.1, h2, fun r j hn => ?_⟩
  have hr : r < 347 := by
    rcases Nat.lt_or_ge r 347 with q | q
    · exact q
    · exfalso
      apply hn
      unfold rfr
      have : tct r = 0 := by
        unfold tct
        rw [Nat.shiftRight_eq_div_pow, Nat.div_eq_of_lt]
        refine Nat.lt_of_lt_of_le (m := 2 ^ (7 * 347)) (by decide +kernel) (Nat.pow_le_pow_right (by decide) (by omega))
      rw [this]
      rfl
  have hj : j < tct r := by
    rcases Nat.lt_or_ge j (tct r) with q | q
    · exact q
    · exfalso
      apply hn
      unfold rfr
      rw [if_neg (by omega)]
  rcases h3 r hr j hj with q | q
  · exact absurd q hn
  · exact q
theorem bnw_nn {q : Nat} : 0 ≤ bnw 0 q := by
  unfold bnw
  split
  · decide
  · split <;> decide
theorem RWf_z {f : Nat → Int32} (h : ∀ j, f j = 0) : RWf f := by
  have e0 : (0 : Int32).toInt = 0 := by decide
  have q : fQ f = 0 := by
    show (f 557).toInt = 0
    rw [h]
    exact e0
  refine ⟨⟨⟨fun i j _ hj => by rw [q] at hj; omega, fun i hi => by rw [q] at hi; omega⟩, fun i hi => by rw [q] at hi; omega, Or.inl q⟩, ⟨fun i _ z => ?_, fun i _ z => ?_⟩, Or.inl ?_⟩
  · rw [h] at z
    exact absurd z (by decide)
  · rw [h] at z
    exact absurd z (by decide)
  · rw [h, e0, Int.zero_mul]
theorem fresh_w {ga g : Gs} {da d : Ds} (e1 : fX11_init 10000 0 (nG g00 10 0 10) (nD g00 d00) = some (ga, da)) (e2 : fX12_init 10000 328 (nG ga 11 0 33) (nD ga da) = some (g, d)) (hS : Shp g) (hkl : KL d) : WI 0 d ∧ TK d := by
  have hZ0 : Zp (nG g00 10 0 10) (nD g00 d00) := Zp.nw ⟨fun _ _ => by show nnF 0; decide, fun _ _ => rfl, fun _ _ _ => rfl⟩ rfl rfl
  have hZa := z_fX11_init _ _ _ _ hZ0 ga da e1
  have hx : Zx da 328 (nD ga da) := Zx.nw ⟨hZa.1, hZa.2.1, fun _ _ _ => Or.inl rfl⟩ rfl
  obtain ⟨r, d7, d9, er, h7, hb, hs⟩ := z_fX12_init _ _ _ _ hx g d e2
  have hr : r = 336 := by
    have := (mo_now hS mo_11).symm.trans er
    cases this
    rfl
  subst hr
  have hqa := onq_s q_a (show qa = some (ga, da) from e1)
  have hqi := onq_s q_i (show qa = some (ga, da) from e1)
  have hqj := onq_s q_j (show qa = some (ga, da) from e1)
  simp only [Bool.and_eq_true, List.all_eq_true, List.mem_range, beq_iff_eq] at hqa hqi hqj
  obtain ⟨⟨⟨⟨j1, j2⟩, j3⟩, j4⟩, j5⟩ := hqj
  have z7 : ∀ r j, ¬ (r = 328 ∧ j = 16) → 328 ≤ r → dI d7 r j = 0 := by
    intro r j hn hr
    rcases h7.2.2 r j hn with e | e
    · rw [e]
      exact hZa.2.2 r j (Or.inl (by rw [hqa.1]; exact hr))
    · exact e
  have zz : ∀ r j, dI da r j = 0 → ¬ (r = 328 ∧ j = 16) → dI d7 r j = 0 := by
    intro r j h hn
    rcases h7.2.2 r j hn with e | e
    · rw [e, h]
    · exact e
  have B7 : Bnd (bnw 0) d7 := by
    refine ⟨fun r j hr hj => ?_, h7.1, fun r j => by rw [h7.2.1]; exact wk_none, ⟨fun _ => ⟨?_, ?_, fun i hi => ?_⟩, fun _ i hi => ?_⟩⟩
    · by_cases hn : r = 328 ∧ j = 16
      · rw [hn.1, hn.2, mo_11]
        exact trivial
      · rcases h7.2.2 r j hn with e | e
        · rw [e]
          by_cases hc : 328 ≤ r ∨ 24 ≤ j
          · rw [hZa.2.2 r j (by rw [hqa.1]; exact hc)]
            exact okv_zero bnw_nn
          · exact okvb_s bnw_nn (hqi r (by omega) j (by omega))
        · rw [e]
          exact okv_zero bnw_nn
    · rw [zz 9 0 j1 (by decide)]
      decide
    · rw [zz 9 1 j2 (by decide)]
      decide
    · rw [zz 9 12 j3 (by decide)] at hi
      exact absurd hi (by have : (0 : Int32).toInt = 0 := (by decide); omega)
    · rw [zz 117 12 j4 (by decide)] at hi
      exact absurd hi (by have : (0 : Int32).toInt = 0 := (by decide); omega)
  obtain ⟨u, dd, eb, q⟩ := begins_e (g := g) (d := d7) (X := 336) (kd_55 hS now_55) (by rw [ln_55 hS now_55]; decide)
  rw [hb] at eb
  cases eb
  obtain ⟨qe, qf, qg, q9⟩ := q
  have B9 : Bnd (bnw 0) d9 := by
    refine ⟨fun r j hr hj => ?_, fun r j => ?_, fun r j => ?_, ?_⟩
    · by_cases hn : r = 336
      · subst hn
        rw [now_55]
        show okN (bnw 0 (own 336)) j (dI d9 336 j)
        rcases Nat.lt_or_ge j 352 with k | k
        · exact okN_mono bnw_nn (qg.1 j k)
        · rw [qe.2 j k, z7 336 j (fun z => absurd z.1 (by decide)) (by decide)]
          exact okN_z (x := 0) ⟨by decide, bnw_nn⟩
      · rw [qf r j hn]
        exact B7.1 r j hr hj
    · show nnF (d9.2.1 r j)
      rw [qe.1]
      exact B7.2.1 r j
    · show wkb (d9.2.2.2 r j)
      rw [qe.1]
      exact B7.2.2.1 r j
    · have h := B7.2.2.2
      unfold Rel JD RB at h ⊢
      rw [qf 2 8 (by decide), qf 9 0 (by decide), qf 9 1 (by decide), qf 9 12 (by decide), qf 117 12 (by decide)]
      exact ⟨fun z => ⟨(h.1 z).1, (h.1 z).2.1, fun i hi => by rw [qf 12 i (by decide)]; exact (h.1 z).2.2 i hi⟩, fun hf i hi => by rw [qf 120 i (by decide)]; exact h.2 hf i hi⟩
  obtain ⟨u2, d2, es, q2, ql, qz⟩ := sX12_startsAnew_g hS B9
  rw [hs] at es
  cases es
  have e0 : (0 : Int32).toInt = 0 := by decide
  have hq0 : fQ (rw_ d) = 0 := by
    show (dI d 336 557).toInt = 0
    rw [qz]
    exact e0
  have lo : ∀ j, j < 352 → rw_ d j = dI d9 336 j := ql
  refine ⟨⟨q2.1, ⟨⟨⟨fun i j _ hj => by rw [hq0] at hj; omega, fun i hi => by rw [hq0] at hi; omega⟩, fun i hi => by rw [hq0] at hi; omega, Or.inl hq0⟩, ⟨fun i hi z => ?_, fun i hi z => ?_⟩, Or.inr ?_⟩, hd_frm q2 (by decide +kernel) (fun s hs => RWf_z (fun j => ?_))⟩, ?_⟩
  · rw [lo _ (by omega)] at z
    exact absurd z (qg.2.1 i hi)
  · rw [lo _ (by omega)] at z
    exact absurd z (qg.2.2.1 i hi)
  · rw [lo 9 (by decide), q9]
    decide
  · show dI d9 344 (9178 * s + j) = 0
    rw [qf 344 _ (by decide)]
    exact z7 344 _ (fun z => absurd z.1 (by decide)) (by decide)
  · refine ⟨tb_0 ?_ ?_, hkl⟩
    · rw [rdqc q2 km_10 (by decide +kernel), qf 0 1 (by decide), zz 0 1 j5 (by decide)]
      exact ⟨by decide, by decide⟩
    · rw [rdqc q2 mo_11 (by decide +kernel), qf 328 2 (by decide), z7 328 2 (by decide) (by decide)]
      exact ⟨by decide, by decide⟩
theorem law_pure {L : Nat} {xs : Nat → Int32} (hL : L ≤ 3072) : ∃ N dz, fL_law_E N L xs 0 0 g00 d00 = some ((), dz) := by
  obtain ⟨g, d, h⟩ := onq_e q_n
  have hS := Fshp h
  have h' := h
  unfold q0 at h'
  obtain ⟨ga, da, e1, h'⟩ := cb_s h'
  obtain ⟨g1, d1, e2, h'⟩ := cb_s h'
  have hh : g1 = g ∧ d1 = d := by
    have := Option.some.inj h'
    exact ⟨congrArg Prod.fst this, congrArg Prod.snd this⟩
  rw [hh.1, hh.2] at e2
  have hqa := onq_s q_a e1
  have hqn := onq_s q_n h
  have hkl : KL d := fun k hk => beq_iff_eq.mp (List.all_eq_true.mp (onq_s q_l h) k (List.mem_range.mpr hk))
  simp only [Bool.and_eq_true, beq_iff_eq] at hqa hqn
  obtain ⟨na, sa⟩ := hqa
  obtain ⟨nn, ns⟩ := hqn
  have hG : gN g - 0 ≤ 600000 ∧ gS g - 0 ≤ 7302250 := by
    rw [nn, ns]
    decide
  have e1' : fX11_init 10000 (gN g00) (nG g00 10 0 10) (nD g00 d00) = some (ga, da) := e1
  have e2' : fX12_init 10000 (gN ga) (nG ga 11 0 33) (nD ga da) = some (g, d) := by rw [na]; exact e2
  have n1 : gN (nG ga 11 0 33) = gN ga + 1 := rfl
  have n2 : gS (nG ga 11 0 33) = gS ga + 33 := rfl
  obtain ⟨u, dz, hz, -⟩ := law_loop hS hG hL (xs := xs) (fresh_w e1 e2 hS hkl).1 (rr_0 (fresh_w e1 e2 hS hkl).2 (onq_s q_m h))
  refine ⟨10000, dz, ?_⟩
  unfold fL_law_E
  rw [gd_t (by decide), gd_t (by decide), bd_t, bd_t, bd_t, gd_t (by decide), e1', cb_t, gd_t (by rw [na, sa]; decide), gd_t (by rw [na, sa]; decide), gd_t (by rw [na]; decide), gd_t (by rw [na, sa]; decide), bd_t, bd_t, bd_t, gd_t (by rw [n1, na]; decide), e2', cb_t, gd_t (by rw [n1, n2, na, sa, nn, ns]; decide), gd_t hG, na]
  exact hz
