section OPS
variable {g : Gs} {d : Ds}
theorem two {A : Option (Int32 × Ds)} {C : Ds → Option (Int32 × Ds)} {K X : Ds → Option (Unit × Ds)} {c : Prop} [Decidable c] (hc : c) (he : Eq2 A C) (hk : ∀ d, ∃ z, K d = some ((), z)) : ∃ z, cb A (fun u d => gd c (cb (C d) fun v d' => if u = v then K d' else X d')) = some ((), z) := by
  obtain ⟨u, d1, d2, e1, e2⟩ := he
  obtain ⟨z, hz⟩ := hk d2
  refine ⟨z, ?_⟩
  rw [e1, cb_t, gd_t hc, e2, cb_t, if_pos rfl]
  exact hz
theorem gl (h : q0 = some (g, d)) : gN g - 0 ≤ 600000 ∧ gS g - 0 ≤ 7302250 := by
  rw [Fn h, Fs h]
  decide
theorem head_out (h : q0 = some (g, d)) {L : Nat} {xs : Nat → Int32} {K : Nat × Nat × Int32 × Gs × Ds → Option (Unit × Ds)} {y : Int32} {x : Ds} (hy : Int32.ofNat L - 6 < y) : fL_law_B18 10000 L xs 0 0 K 0 328 y g x = some ((), x) := by
  unfold fL_law_B18
  rw [if_pos hy, gd_t (gl h)]
set_option maxRecDepth 100000 in
theorem law_op (h : q0 = some (g, d)) {xs : Nat → Int32} (K : Nat × Nat × Int32 × Gs × Ds → Option (Unit × Ds)) (hk : ∀ d, ∃ z, fL_law_J771 10000 6 xs 0 0 K 0 328 0 g d = some ((), z)) : ∃ z, fL_law_B18 10000 6 xs 0 0 K 0 328 0 g d = some ((), z) := by
  have q := gl h
  have c0 := kKM h
  have m0 := kMo h
  have b0 : ¬ ((0 : Int32) < 0 ∨ 6 ≤ (0 : Int32).toNatClampNeg) := by decide
  have b1 : ¬ ((0 + 1 : Int32) < 0 ∨ 6 ≤ (0 + 1 : Int32).toNatClampNeg) := by decide
  have b2 : ¬ ((0 + 2 : Int32) < 0 ∨ 6 ≤ (0 + 2 : Int32).toNatClampNeg) := by decide
  have b3 : ¬ ((0 + 3 : Int32) < 0 ∨ 6 ≤ (0 + 3 : Int32).toNatClampNeg) := by decide
  have b4 : ¬ ((0 + 4 : Int32) < 0 ∨ 6 ≤ (0 + 4 : Int32).toNatClampNeg) := by decide
  have b5 : ¬ ((0 + 5 : Int32) < 0 ∨ 6 ≤ (0 + 5 : Int32).toNatClampNeg) := by decide
  unfold fL_law_B18
  rw [if_neg (by decide), gd_t b0]
  generalize hw0 : (xs (0 : Int32).toNatClampNeg) &&& 31 = w
  by_cases hw : w.toInt < 0 ∨ 20 < w.toInt
  · rw [if_pos hw]
    exact hk d
  rw [if_neg hw]
  by_cases w0 : w = 0
  · rw [if_pos w0, gd_t b1, gd_t b2, gd_t b3, gd_t b4, gd_t b5, gd_t c0, gd_t q]
    exact two m0 (o_feed h _ _ _ _ _) hk
  rw [if_neg w0]
  by_cases w1 : w = 1
  · rw [if_pos w1, gd_t b1, gd_t c0, gd_t q]
    exact two m0 (o_back h _) hk
  rw [if_neg w1]
  by_cases w2 : w = 2
  · rw [if_pos w2, gd_t c0, gd_t q]
    exact two m0 (o_read h) hk
  rw [if_neg w2]
  by_cases w3 : w = 3
  · rw [if_pos w3, gd_t c0, gd_t q]
    exact two m0 (o_place h) hk
  rw [if_neg w3]
  by_cases w4 : w = 4
  · rw [if_pos w4, gd_t b1, gd_t b2]
    by_cases hz : xs (0 + 2 : Int32).toNatClampNeg = 0
    · obtain ⟨u, d1, d2, p1, p2⟩ := o_press h (xs (0 + 1 : Int32).toNatClampNeg) 0
      rw [if_pos hz]
      unfold fL_law_J263
      rw [gd_t c0, gd_t q, p1, cb_t, gd_t b1, gd_t b2, if_pos hz]
      unfold fL_law_J285
      rw [gd_t m0, gd_t q, p2, cb_t, if_pos rfl]
      exact hk d2
    · obtain ⟨u, d1, d2, p1, p2⟩ := o_press h (xs (0 + 1 : Int32).toNatClampNeg) 1
      rw [if_neg hz]
      unfold fL_law_J263
      rw [gd_t c0, gd_t q, p1, cb_t, gd_t b1, gd_t b2, if_neg hz]
      unfold fL_law_J285
      rw [gd_t m0, gd_t q, p2, cb_t, if_pos rfl]
      exact hk d2
  rw [if_neg w4]
  by_cases w5 : w = 5
  · rw [if_pos w5, gd_t b1, gd_t c0, gd_t q]
    exact two m0 (o_tick h _) hk
  rw [if_neg w5]
  by_cases w6 : w = 6
  · rw [if_pos w6, gd_t b1, gd_t b2, gd_t c0, gd_t q]
    exact two m0 (o_key h _ _) hk
  rw [if_neg w6]
  by_cases w7 : w = 7
  · rw [if_pos w7, gd_t b1, gd_t b2, gd_t b3, gd_t c0, gd_t q]
    exact two m0 (o_deed h _ _ _) hk
  rw [if_neg w7]
  by_cases w8 : w = 8
  · rw [if_pos w8, gd_t b1, gd_t b2, gd_t c0, gd_t q]
    exact two m0 (o_does h _ _) hk
  rw [if_neg w8]
  by_cases w9 : w = 9
  · rw [if_pos w9, gd_t b1, gd_t b2, gd_t c0, gd_t q]
    exact two m0 (o_event h _ _) hk
  rw [if_neg w9]
  by_cases w10 : w = 10
  · rw [if_pos w10, gd_t b1, gd_t b2, gd_t c0, gd_t q]
    exact two m0 (o_report h _ _) hk
  rw [if_neg w10]
  by_cases w11 : w = 11
  · rw [if_pos w11, gd_t b1, gd_t c0, gd_t q]
    exact two m0 (o_sent h _) hk
  rw [if_neg w11]
  by_cases w12 : w = 12
  · rw [if_pos w12, gd_t b1, gd_t c0, gd_t q]
    exact two m0 (o_host h _) hk
  rw [if_neg w12]
  by_cases w13 : w = 13
  · rw [if_pos w13, gd_t b1, gd_t b2, gd_t c0, gd_t q]
    exact two m0 (o_strokes h _ _) hk
  rw [if_neg w13]
  by_cases w14 : w = 14
  · rw [if_pos w14, gd_t b1, gd_t b2, gd_t c0, gd_t q]
    exact two m0 (o_chord h _ _) hk
  rw [if_neg w14]
  by_cases w15 : w = 15
  · rw [if_pos w15, gd_t b1, gd_t b2, gd_t c0, gd_t q]
    exact two m0 (o_macro h _ _) hk
  rw [if_neg w15]
  by_cases w16 : w = 16
  · rw [if_pos w16, gd_t b1, gd_t b2, gd_t c0, gd_t q]
    exact two m0 (o_ghosts h _ _) hk
  rw [if_neg w16]
  by_cases w17 : w = 17
  · rw [if_pos w17, gd_t b1, gd_t b2, gd_t c0, gd_t q]
    exact two m0 (o_ahead h _ _) hk
  rw [if_neg w17]
  by_cases w18 : w = 18
  · rw [if_pos w18, gd_t b1, gd_t c0, gd_t q]
    exact two m0 (o_hold h _) hk
  rw [if_neg w18]
  by_cases w19 : w = 19
  · rw [if_pos w19, gd_t b1, gd_t c0, gd_t q]
    exact two m0 (o_restore h _) hk
  rw [if_neg w19]
  by_cases w20 : w = 20
  · rw [if_pos w20, gd_t b1, gd_t c0, gd_t q]
    exact two m0 (o_count h _) hk
  rw [if_neg w20]
  exfalso
  obtain ⟨j, hj, rfl⟩ := nI_of (x := w) (by rw [i_lt, i_0]; omega)
  rw [nI_toInt hj] at hw
  rcases (show j = 0 ∨ j = 1 ∨ j = 2 ∨ j = 3 ∨ j = 4 ∨ j = 5 ∨ j = 6 ∨ j = 7 ∨ j = 8 ∨ j = 9 ∨ j = 10 ∨ j = 11 ∨ j = 12 ∨ j = 13 ∨ j = 14 ∨ j = 15 ∨ j = 16 ∨ j = 17 ∨ j = 18 ∨ j = 19 ∨ j = 20 by omega) with rfl | rfl | rfl | rfl | rfl | rfl | rfl | rfl | rfl | rfl | rfl | rfl | rfl | rfl | rfl | rfl | rfl | rfl | rfl | rfl | rfl
  · exact w0 (by decide)
  · exact w1 (by decide)
  · exact w2 (by decide)
  · exact w3 (by decide)
  · exact w4 (by decide)
  · exact w5 (by decide)
  · exact w6 (by decide)
  · exact w7 (by decide)
  · exact w8 (by decide)
  · exact w9 (by decide)
  · exact w10 (by decide)
  · exact w11 (by decide)
  · exact w12 (by decide)
  · exact w13 (by decide)
  · exact w14 (by decide)
  · exact w15 (by decide)
  · exact w16 (by decide)
  · exact w17 (by decide)
  · exact w18 (by decide)
  · exact w19 (by decide)
  · exact w20 (by decide)
theorem loop_pure (h : q0 = some (g, d)) {L : Nat} {xs : Nat → Int32} (hL : L ≤ 6) : ∃ dz, fL_law_L18 10000 L xs 0 0 (0, 328, 0, g, d) = some ((), dz) := by
  generalize hF : (fun (K18 : Nat × Nat × Int32 × Gs × Ds → Option (Unit × Ds)) (a : Nat × Nat × Int32 × Gs × Ds) => fL_law_B18 10000 L xs 0 0 K18 a.1 a.2.1 a.2.2.1 a.2.2.2.1 a.2.2.2.2) = F
  have ap : ∀ K y1 y2 y3 g d, F K (y1, y2, y3, g, d) = fL_law_B18 10000 L xs 0 0 K y1 y2 y3 g d := fun _ _ _ _ _ _ => by rw [← hF]
  have s1 : lp F 10000 (0, 328, 0, g, d) = fL_law_B18 10000 L xs 0 0 (lp F 9999) 0 328 0 g d := (lp_s (n := 9999)).trans (ap _ _ _ _ _ _)
  have s2 : ∀ x, lp F 9999 (0, 328, 0 + 6, g, x) = fL_law_B18 10000 L xs 0 0 (lp F 9998) 0 328 (0 + 6) g x := fun x => (lp_s (n := 9998)).trans (ap _ _ _ _ _ _)
  have e : fL_law_L18 10000 L xs 0 0 (0, 328, 0, g, d) = lp F 10000 (0, 328, 0, g, d) := by rw [← hF]; rfl
  rw [e, s1]
  rcases Nat.lt_or_ge L 6 with hl | hl
  · have lt : Int32.ofNat L - 6 < 0 := by
      rcases (show L = 0 ∨ L = 1 ∨ L = 2 ∨ L = 3 ∨ L = 4 ∨ L = 5 by omega) with rfl | rfl | rfl | rfl | rfl | rfl <;> decide
    exact ⟨d, head_out h lt⟩
  · obtain rfl : L = 6 := by omega
    refine law_op h (lp F 9999) (fun x => ⟨x, ?_⟩)
    unfold fL_law_J771
    rw [bd_t, s2]
    exact head_out h (by decide)
end OPS
theorem law_pure {L : Nat} {xs : Nat → Int32} (hL : L ≤ 6) : ∃ N dz, fL_law_E N L xs 0 0 g00 d00 = some ((), dz) := by
  obtain ⟨g, d, h⟩ := q_ex
  have h' := h
  unfold q0 at h'
  obtain ⟨ga, da, e1, h'⟩ := cb_s h'
  obtain ⟨g1, d1, e2, h'⟩ := cb_s h'
  have hh : g1 = g ∧ d1 = d := by
    have := Option.some.inj h'
    exact ⟨congrArg Prod.fst this, congrArg Prod.snd this⟩
  rw [hh.1, hh.2] at e2
  have hga := q_ga
  rw [e1] at hga
  simp only [Bool.and_eq_true, beq_iff_eq] at hga
  obtain ⟨na, sa⟩ := hga
  have e1' : fX11_init 10000 (gN g00) (nG g00 10 0 10) (nD g00 d00) = some (ga, da) := e1
  have e2' : fX12_init 10000 (gN ga) (nG ga 11 0 33) (nD ga da) = some (g, d) := by rw [na]; exact e2
  have n1 : gN (nG ga 11 0 33) = gN ga + 1 := rfl
  have n2 : gS (nG ga 11 0 33) = gS ga + 33 := rfl
  obtain ⟨dz, hz⟩ := loop_pure h (xs := xs) hL
  refine ⟨10000, dz, ?_⟩
  unfold fL_law_E
  rw [gd_t (by decide), gd_t (by decide), bd_t, bd_t, bd_t, gd_t (by decide), e1', cb_t, gd_t (by rw [na, sa]; decide), gd_t (by rw [na, sa]; decide), gd_t (by rw [na]; decide), gd_t (by rw [na, sa]; decide), bd_t, bd_t, bd_t, gd_t (by rw [n1, na]; decide), e2', cb_t, gd_t (by rw [n1, n2, na, sa, Fn h, Fs h]; decide), gd_t (gl h), na]
  exact hz
