theorem i_lt {a b : Int32} : a < b ↔ a.toInt < b.toInt := Int32.lt_iff_toInt_lt
theorem i_le {a b : Int32} : a ≤ b ↔ a.toInt ≤ b.toInt := Int32.le_iff_toInt_le
theorem i_0 : (0 : Int32).toInt = 0 := by decide
theorem i_m1 : (-1 : Int32).toInt = -1 := by decide
theorem i_nlt {a : Int32} (h : ¬ a < 0) : (-1 : Int32) < a := by
  rw [i_lt, i_0] at h
  rw [i_lt, i_m1]
  omega
theorem chk_t {g : Gs} {r k n : Nat} (hn : gN g = n) (hr : r < n) (hk : gK g r = k) : chk g r k := ⟨by rw [hn]; exact hr, hk⟩
section OPS
variable {g : Gs} {d : Ds}
theorem kKM (h : q0 = some (g, d)) : chk g 0 10 := chk_t (Fn h) (by decide) (Fk h 0 (by decide))
theorem kBo (h : q0 = some (g, d)) : chk g 117 0 := chk_t (Fn h) (by decide) (Fk h 117 (by decide))
theorem kCo (h : q0 = some (g, d)) : chk g 227 1 := chk_t (Fn h) (by decide) (Fk h 227 (by decide))
theorem kMo (h : q0 = some (g, d)) : chk g 328 11 := chk_t (Fn h) (by decide) (Fk h 328 (by decide))
theorem kNo (h : q0 = some (g, d)) : chk g 336 102 := chk_t (Fn h) (by decide) (Fk h 336 (by decide))
theorem rBo (h : q0 = some (g, d)) : gR g 0 4 = some 117 := Fr h (0, 4, 117) (by decide +kernel)
theorem rCo (h : q0 = some (g, d)) : gR g 0 6 = some 227 := Fr h (0, 6, 227) (by decide +kernel)
theorem rSc (h : q0 = some (g, d)) : gR g 227 1 = some 228 := Fr h (227, 1, 228) (by decide +kernel)
theorem rNo (h : q0 = some (g, d)) : gR g 328 17 = some 336 := Fr h (328, 17, 336) (by decide +kernel)
theorem lNo (h : q0 = some (g, d)) : gL g 336 = 9178 := Fl h 336 (by decide)
theorem o_keys (h : q0 = some (g, d)) : fX0_keys 10000 g 117 d = some (0, d) := by
  have i0 : dI d 117 0 = 0 := Fi h (117, 0, 0) (by decide +kernel)
  have i1 : dI d 117 1 = 0 := Fi h (117, 1, 0) (by decide +kernel)
  simp only [fX0_keys, gd_t (kBo h), i0, i1]
  rfl
theorem o_hasKey (h : q0 = some (g, d)) (a : Int32) : fX0_hasKey 10000 g 117 a d = some (0, d) := by
  have j : fX0_hasKey_J16 10000 g 117 a d = some (0, d) := rfl
  unfold fX0_hasKey
  by_cases ha : a < 0
  · rw [if_pos ha, j]
  · rw [if_neg ha]
    simp only [gd_t (kBo h), o_keys h, cb_t, if_pos (Int32.not_lt.mp ha), j]
theorem o_keysM (h : q0 = some (g, d)) : fX12_keysMany 10000 g 328 d = some (0, d) := by
  have i0 : dI d 336 0 = 0 := Fw h (0, 0) (by decide +kernel)
  have i1 : dI d 336 1 = 0 := Fw h (1, 0) (by decide +kernel)
  have x0 : ¬ ((0 : Int32) < 0 ∨ gL g 336 ≤ (0 : Int32).toNatClampNeg) := by rw [lNo h]; decide
  have x1 : ¬ ((1 : Int32) < 0 ∨ gL g 336 ≤ (1 : Int32).toNatClampNeg) := by rw [lNo h]; decide
  simp only [fX12_keysMany, gd_t (kMo h), rNo h, ob_t, gd_t (kNo h), gd_t x0, gd_t x1]
  show some (dI d 336 0 * dI d 336 1, d) = _
  rw [i0, i1]
  rfl
theorem in_no {a b c : Int32} (x : Ds) (h : a < b ∨ c < a) : fX12_in 10000 g a b c x = some (0, x) := by
  have j1 : fX12_in_J14 10000 g a b c x = some (0, x) := rfl
  unfold fX12_in
  by_cases h1 : a < b
  · rw [if_pos h1, j1]
  · rw [if_neg h1, if_pos (h.resolve_left h1), j1]
theorem in_yes {a b c : Int32} (x : Ds) (h1 : ¬ a < b) (h2 : ¬ c < a) : fX12_in 10000 g a b c x = some (1, x) := by
  unfold fX12_in
  rw [if_neg h1, if_neg h2]
  rfl
theorem in_e (a : Int32) (x : Ds) : fX12_in 10000 g a 0 (0 - 1) x = some (0, x) := in_no x (by
  by_cases ha : a < 0
  · exact Or.inl ha
  · exact Or.inr (i_nlt ha))
theorem o_isKey (h : q0 = some (g, d)) (a : Int32) : fX12_isKey 10000 g 328 a d = some (0, d) := by
  simp only [fX12_isKey, gd_t (kMo h), o_keysM h, cb_t, in_e]
  rfl
theorem o_back (h : q0 = some (g, d)) (a : Int32) : Eq2 (fX11_back 10000 g 0 a d) (fX12_back 10000 g 328 a) := by
  have i0 : dI d 0 1 = 0 := Fi h (0, 1, 0) (by decide +kernel)
  have i1 : dI d 328 2 = 0 := Fi h (328, 2, 0) (by decide +kernel)
  by_cases ha : a < 0
  · exact ⟨-1, d, d, by unfold fX11_back; rw [if_pos ha]; rfl, by unfold fX12_back; rw [if_pos ha]; rfl⟩
  · by_cases hb : a ≤ 0
    · refine ⟨0 - a, sI d 0 1 (0 - a), sI (sI d 0 1 (0 - a)) 328 2 (0 - a), by unfold fX11_back; rw [if_neg ha, gd_t (kKM h), i0, if_pos hb, bd_t, sI_at, if_pos rfl], ?_⟩
      have i2 : ∀ v, dI (sI d 0 1 v) 328 2 = 0 := fun v => by rw [← i1]; rfl
      unfold fX12_back
      rw [if_neg ha, gd_t (kMo h), i2, if_pos hb, bd_t, sI_at, if_pos rfl]
    · exact ⟨-1, d, d, by unfold fX11_back; rw [if_neg ha, gd_t (kKM h), i0, if_neg hb]; rfl, by unfold fX12_back; rw [if_neg ha, gd_t (kMo h), i1, if_neg hb]; rfl⟩
theorem o_press (h : q0 = some (g, d)) (a b : Int32) : Eq2 (fX11_press 10000 g 0 a b d) (fX12_press 10000 g 328 a b) :=
  ⟨0, d, d, by simp only [fX11_press, gd_t (kKM h), rCo h, ob_t, gd_t (kCo h), rSc h, rBo h, gd_t (kBo h), o_hasKey h, cb_t, ↓reduceIte]; rfl, by simp only [fX12_press, gd_t (kMo h), o_isKey h, cb_t, ↓reduceIte]; rfl⟩
theorem o_key (h : q0 = some (g, d)) (a b : Int32) : Eq2 (fX11_key 10000 g 0 a b d) (fX12_key 10000 g 328 a b) :=
  ⟨-1, d, d, by simp only [fX11_key, gd_t (kKM h), ob_t, rBo h, gd_t (kBo h), o_hasKey h, cb_t, ↓reduceIte], by simp only [fX12_key, gd_t (kMo h), o_isKey h, cb_t, ↓reduceIte]⟩
theorem o_does (h : q0 = some (g, d)) (a b : Int32) : Eq2 (fX11_does 10000 g 0 a b d) (fX12_does 10000 g 328 a b) :=
  ⟨-2, d, d, by simp only [fX11_does, gd_t (kKM h), ob_t, rBo h, gd_t (kBo h), o_hasKey h, cb_t, ↓reduceIte], by simp only [fX12_does, gd_t (kMo h), o_isKey h, cb_t, ↓reduceIte]; rfl⟩
theorem o_strokes (h : q0 = some (g, d)) (a b : Int32) : Eq2 (fX11_strokes 10000 g 0 a b d) (fX12_strokes 10000 g 328 a b) :=
  ⟨-2, d, d, by simp only [fX11_strokes, gd_t (kKM h), ob_t, rBo h, gd_t (kBo h), o_hasKey h, cb_t, ↓reduceIte], by simp only [fX12_strokes, gd_t (kMo h), o_isKey h, cb_t, ↓reduceIte]⟩
theorem o_deed (h : q0 = some (g, d)) (a b c : Int32) : Eq2 (fX11_deed 10000 g 0 a b c d) (fX12_deed 10000 g 328 a b c) := by
  refine ⟨-1, d, d, by simp only [fX11_deed, gd_t (kKM h), ob_t, rBo h, gd_t (kBo h), o_hasKey h, cb_t, ↓reduceIte], ?_⟩
  unfold fX12_deed
  by_cases h1 : a < -1
  · simp only [in_no d (Or.inl h1), cb_t, ↓reduceIte]; rfl
  · by_cases h2 : 3 < a
    · simp only [in_no d (Or.inr h2), cb_t, ↓reduceIte]; rfl
    · simp only [in_yes d h1 h2, cb_t, gd_t (kMo h), o_isKey h, ↓reduceIte]; rfl
theorem o_tick (h : q0 = some (g, d)) (a : Int32) : Eq2 (fX11_tick 10000 g 0 a d) (fX12_tick 10000 g 328 a) := by
  refine ⟨-1, d, d, ?_, ?_⟩
  · unfold fX11_tick
    by_cases h1 : a < 1
    · rw [if_pos h1]; rfl
    · by_cases h2 : 50 < a
      · rw [if_neg h1, if_pos h2]; rfl
      · rw [if_neg h1, if_neg h2]
        simp only [gd_t (kKM h), rBo h, ob_t, gd_t (kBo h), o_keys h, cb_t, ↓reduceIte]; rfl
  · unfold fX12_tick
    by_cases h1 : a < 1
    · simp only [in_no d (Or.inl h1), cb_t, ↓reduceIte]; rfl
    · by_cases h2 : 50 < a
      · simp only [in_no d (Or.inr h2), cb_t, ↓reduceIte]; rfl
      · simp only [in_yes d h1 h2, cb_t, gd_t (kMo h), o_keysM h, ↓reduceIte]; rfl
theorem o_ahead (h : q0 = some (g, d)) (a b : Int32) : Eq2 (fX11_ahead 10000 g 0 a b d) (fX12_ahead 10000 g 328 a b) := by
  refine ⟨-1, d, d, ?_, ?_⟩
  · unfold fX11_ahead
    by_cases h1 : a < 1
    · rw [if_pos h1]; rfl
    · rw [if_neg h1]
      by_cases h2 : 120 < a
      · rw [if_pos h2]; rfl
      · rw [if_neg h2]
        by_cases h3 : b < 0
        · rw [if_pos h3]; rfl
        · rw [if_neg h3]
          by_cases h4 : 4 < b
          · rw [if_pos h4]; rfl
          · rw [if_neg h4]
            simp only [gd_t (kKM h), rBo h, ob_t, gd_t (kBo h), o_keys h, cb_t, ↓reduceIte]; rfl
  · unfold fX12_ahead
    by_cases h1 : a < 1
    · simp only [in_no d (Or.inl h1), cb_t, ↓reduceIte]; rfl
    · by_cases h2 : 120 < a
      · simp only [in_no d (Or.inr h2), cb_t, ↓reduceIte]; rfl
      · simp only [in_yes d h1 h2, cb_t]
        rw [if_neg (by decide)]
        by_cases h3 : b < 0
        · simp only [in_no d (Or.inl h3), cb_t, ↓reduceIte]; rfl
        · by_cases h4 : 4 < b
          · simp only [in_no d (Or.inr h4), cb_t, ↓reduceIte]; rfl
          · simp only [in_yes d h3 h4, cb_t, gd_t (kMo h), o_keysM h, ↓reduceIte]; rfl
theorem rQu (h : q0 = some (g, d)) : gR g 227 2 = some 234 := Fr h (227, 2, 234) (by decide +kernel)
theorem rDo (h : q0 = some (g, d)) : gR g 227 3 = some 236 := Fr h (227, 3, 236) (by decide +kernel)
theorem rRe (h : q0 = some (g, d)) : gR g 227 4 = some 242 := Fr h (227, 4, 242) (by decide +kernel)
theorem rWi (h : q0 = some (g, d)) : gR g 0 5 = some 225 := Fr h (0, 5, 225) (by decide +kernel)
theorem kQu (h : q0 = some (g, d)) : chk g 234 4 := chk_t (Fn h) (by decide) (Fk h 234 (by decide))
theorem kDo (h : q0 = some (g, d)) : chk g 236 3 := chk_t (Fn h) (by decide) (Fk h 236 (by decide))
theorem kRe (h : q0 = some (g, d)) : chk g 242 5 := chk_t (Fn h) (by decide) (Fk h 242 (by decide))
theorem kWi (h : q0 = some (g, d)) : chk g 225 9 := chk_t (Fn h) (by decide) (Fk h 225 (by decide))
theorem o_event (h : q0 = some (g, d)) (a b : Int32) : Eq2 (fX11_event 10000 g 0 a b d) (fX12_event 10000 g 328 a b) := by
  have i0 : dI d 234 1 = 0 := Fi h (234, 1, 0) (by decide +kernel)
  have i1 : dI d 336 (557 : Int32).toNatClampNeg = 0 := Fw h (557, 0) (by decide +kernel)
  have x0 : ¬ ((557 : Int32) < 0 ∨ gL g 336 ≤ (557 : Int32).toNatClampNeg) := by rw [lNo h]; decide
  by_cases h1 : a = -1
  · exact ⟨0, d, d, by simp only [fX11_event, gd_t (kKM h), rCo h, ob_t, gd_t (kCo h), rQu h, if_pos h1, gd_t (kQu h), i0], by simp only [fX12_event, if_pos h1, gd_t (kMo h), rNo h, ob_t, gd_t (kNo h), gd_t x0, i1]⟩
  · refine ⟨-1, d, d, ?_, by simp only [fX12_event, if_neg h1, gd_t (kMo h), rNo h, ob_t, gd_t (kNo h), gd_t x0, i1, in_e, cb_t, ↓reduceIte]; rfl⟩
    simp only [fX11_event, gd_t (kKM h), rCo h, ob_t, gd_t (kCo h), rQu h, if_neg h1, gd_t (kQu h), i0]
    by_cases h2 : a < 0
    · rw [if_pos h2]; rfl
    · rw [if_neg h2, if_neg h2]; rfl
theorem o_rowOf (h : q0 = some (g, d)) (a : Int32) : fX5_rowOf 10000 g 242 a d = some (-1, d) := by
  have i0 : dI d 242 4 = 0 := Fi h (242, 4, 0) (by decide +kernel)
  unfold fX5_rowOf
  by_cases h1 : a < 0
  · rw [if_pos h1]; rfl
  · rw [if_neg h1]
    by_cases h2 : 40 ≤ a
    · rw [if_pos h2]; rfl
    · rw [if_neg h2, gd_t (kRe h), i0, if_neg h1]; rfl
theorem o_kept (h : q0 = some (g, d)) : fX12_reportsKept 10000 g 328 d = some (0, d) := by
  have i1 : dI d 336 (555 : Int32).toNatClampNeg = 0 := Fw h (555, 0) (by decide +kernel)
  have x0 : ¬ ((555 : Int32) < 0 ∨ gL g 336 ≤ (555 : Int32).toNatClampNeg) := by rw [lNo h]; decide
  simp only [fX12_reportsKept, gd_t (kMo h), rNo h, ob_t, gd_t (kNo h), gd_t x0, i1]
  rfl
theorem o_report (h : q0 = some (g, d)) (a b : Int32) : Eq2 (fX11_report 10000 g 0 a b d) (fX12_report 10000 g 328 a b) :=
  ⟨-1, d, d, by simp only [fX11_report, gd_t (kKM h), rCo h, ob_t, gd_t (kCo h), rRe h, gd_t (kRe h), o_rowOf h, cb_t, ↓reduceIte], by simp only [fX12_report, gd_t (kMo h), o_kept h, cb_t, in_e, ↓reduceIte]; rfl⟩
theorem o_chord (h : q0 = some (g, d)) (a b : Int32) : Eq2 (fX11_chord 10000 g 0 a b d) (fX12_chord 10000 g 328 a b) := by
  have i0 : dI d 117 12 = 0 := Fi h (117, 12, 0) (by decide +kernel)
  have i1 : dI d 336 (10 : Int32).toNatClampNeg = 0 := Fw h (10, 0) (by decide +kernel)
  have x0 : ¬ ((10 : Int32) < 0 ∨ gL g 336 ≤ (10 : Int32).toNatClampNeg) := by rw [lNo h]; decide
  by_cases h1 : a = -1
  · exact ⟨0, d, d, by simp only [fX11_chord, gd_t (kKM h), rBo h, ob_t, if_pos h1, gd_t (kBo h), i0], by simp only [fX12_chord, if_pos h1, gd_t (kMo h), rNo h, ob_t, gd_t (kNo h), gd_t x0, i1]⟩
  · refine ⟨-1, d, d, ?_, by simp only [fX12_chord, if_neg h1, gd_t (kMo h), rNo h, ob_t, gd_t (kNo h), gd_t x0, i1, in_e, cb_t, ↓reduceIte]; rfl⟩
    simp only [fX11_chord, gd_t (kKM h), rBo h, ob_t, gd_t (kBo h), if_neg h1, i0]
    by_cases h2 : a < 0
    · rw [if_pos h2]; rfl
    · rw [if_neg h2, if_neg h2]; rfl
theorem o_macro (h : q0 = some (g, d)) (a b : Int32) : Eq2 (fX11_macro 10000 g 0 a b d) (fX12_macro 10000 g 328 a b) := by
  have i0 : dI d 117 16 = 0 := Fi h (117, 16, 0) (by decide +kernel)
  have i1 : dI d 336 (11 : Int32).toNatClampNeg = 0 := Fw h (11, 0) (by decide +kernel)
  have x0 : ¬ ((11 : Int32) < 0 ∨ gL g 336 ≤ (11 : Int32).toNatClampNeg) := by rw [lNo h]; decide
  refine ⟨-1, d, d, ?_, by simp only [fX12_macro, gd_t (kMo h), rNo h, ob_t, gd_t (kNo h), gd_t x0, i1, in_e, cb_t, ↓reduceIte]⟩
  unfold fX11_macro
  by_cases h2 : a < 0
  · rw [if_pos h2]; rfl
  · rw [if_neg h2]
    simp only [gd_t (kKM h), rBo h, ob_t, gd_t (kBo h), i0, if_neg h2]
    rfl
/-! feed: four bytes, five times -/
theorem app_step (c0 : chk g 0 10) (r0 : gR g 0 0 = some 1) (c1 : chk g 1 100) (l1 : gL g 1 = 2000) (K : Int32 × Ds → Option (Unit × Ds)) (a y : Int32) (hy : ¬ y < 0) (k : Nat) (hk : k < 2000) (d : Ds) (hd : dI d 0 1 = nI k) : ∃ dd, fX11_appendFour_B3 10000 g 0 a K y d = K (y + (-8), dd) ∧ dI dd 0 1 = nI (k + 1) ∧ dI dd 328 2 = dI d 328 2 := by
  have h1 : ¬ (2000 : Int32) ≤ nI k := nI_ge (a := k) (b := 2000) hk (by decide)
  have h2 : ¬ (nI k < 0 ∨ gL g 1 ≤ (nI k).toNatClampNeg) := by rw [l1]; exact nI_in hk (by decide)
  simp only [fX11_appendFour_B3, if_neg hy, gd_t c0, hd, if_neg h1, r0, ob_t, gd_t c1, gd_t h2, bd_t]
  refine ⟨_, rfl, ?_, rfl⟩
  rw [sI_at, if_pos rfl]
  show dI d 0 1 + 1 = _
  rw [hd, nI_1]
theorem app4 (c0 : chk g 0 10) (r0 : gR g 0 0 = some 1) (c1 : chk g 1 100) (l1 : gL g 1 = 2000) (a : Int32) (k : Nat) (hk : k + 4 ≤ 2000) (d : Ds) (hd : dI d 0 1 = nI k) : ∃ dd, fX11_appendFour 10000 g 0 a d = some ((), dd) ∧ dI dd 0 1 = nI (k + 4) ∧ dI dd 328 2 = dI d 328 2 := by
  generalize hF : (fun (K3 : Int32 × Ds → Option (Unit × Ds)) (z : Int32 × Ds) => fX11_appendFour_B3 10000 g 0 a K3 z.1 z.2) = F
  obtain ⟨d1, e1, f1, g1⟩ := app_step c0 r0 c1 l1 (lp F 9999) a 24 (by decide) k (by omega) d hd
  obtain ⟨d2, e2, f2, g2⟩ := app_step c0 r0 c1 l1 (lp F 9998) a (24 + (-8)) (by decide) (k + 1) (by omega) d1 f1
  obtain ⟨d3, e3, f3, g3⟩ := app_step c0 r0 c1 l1 (lp F 9997) a (24 + (-8) + (-8)) (by decide) (k + 2) (by omega) d2 f2
  obtain ⟨d4, e4, f4, g4⟩ := app_step c0 r0 c1 l1 (lp F 9996) a (24 + (-8) + (-8) + (-8)) (by decide) (k + 3) (by omega) d3 f3
  have e5 : fX11_appendFour_B3 10000 g 0 a (lp F 9995) (24 + (-8) + (-8) + (-8) + (-8)) d4 = some ((), d4) := by
    unfold fX11_appendFour_B3
    rw [if_pos (by decide)]
    rfl
  have st : ∀ n K2 y x, F K2 (y, x) = fX11_appendFour_B3 10000 g 0 a K2 y x → lp F (n + 1) (y, x) = F (lp F n) (y, x) := fun n K2 y x _ => lp_s
  have ap : ∀ K2 y x, F K2 (y, x) = fX11_appendFour_B3 10000 g 0 a K2 y x := fun K2 y x => by rw [← hF]
  refine ⟨d4, ?_, f4, by rw [g4, g3, g2, g1]⟩
  show lp (fun (K3 : Int32 × Ds → Option (Unit × Ds)) (z : Int32 × Ds) => fX11_appendFour_B3 10000 g 0 a K3 z.1 z.2) 10000 (24, d) = _
  rw [hF]
  have s1 : lp F 10000 (24, d) = fX11_appendFour_B3 10000 g 0 a (lp F 9999) 24 d := (lp_s (n := 9999)).trans (ap _ _ _)
  have s2 : ∀ y x, lp F 9999 (y, x) = fX11_appendFour_B3 10000 g 0 a (lp F 9998) y x := fun y x => (lp_s (n := 9998)).trans (ap _ _ _)
  have s3 : ∀ y x, lp F 9998 (y, x) = fX11_appendFour_B3 10000 g 0 a (lp F 9997) y x := fun y x => (lp_s (n := 9997)).trans (ap _ _ _)
  have s4 : ∀ y x, lp F 9997 (y, x) = fX11_appendFour_B3 10000 g 0 a (lp F 9996) y x := fun y x => (lp_s (n := 9996)).trans (ap _ _ _)
  have s5 : ∀ y x, lp F 9996 (y, x) = fX11_appendFour_B3 10000 g 0 a (lp F 9995) y x := fun y x => (lp_s (n := 9995)).trans (ap _ _ _)
  rw [s1, e1, s2, e2, s3, e3, s4, e4, s5, e5]
theorem lay_step (c0 : chk g 328 11) (r0 : gR g 328 1 = some 329) (c1 : chk g 329 100) (l1 : gL g 329 = 2000) (K : Int32 × Ds → Option (Unit × Ds)) (a y : Int32) (hy : ¬ y < 0) (k : Nat) (hk : k < 2000) (d : Ds) (hd : dI d 328 2 = nI k) : ∃ dd, fX12_lays_B3 10000 g 328 a K y d = K (y + (-8), dd) ∧ dI dd 328 2 = nI (k + 1) := by
  have h2 : ¬ (nI k < 0 ∨ gL g 329 ≤ (nI k).toNatClampNeg) := by rw [l1]; exact nI_in hk (by decide)
  simp only [fX12_lays_B3, if_neg hy, gd_t c0, hd, r0, ob_t, gd_t c1, gd_t h2, bd_t]
  refine ⟨_, rfl, ?_⟩
  rw [sI_at, if_pos rfl]
  show dI d 328 2 + 1 = _
  rw [hd, nI_1]
theorem lay4 (c0 : chk g 328 11) (r0 : gR g 328 1 = some 329) (c1 : chk g 329 100) (l1 : gL g 329 = 2000) (a : Int32) (k : Nat) (hk : k + 4 ≤ 2000) (d : Ds) (hd : dI d 328 2 = nI k) : ∃ dd, fX12_lays 10000 g 328 a d = some ((), dd) ∧ dI dd 328 2 = nI (k + 4) := by
  generalize hF : (fun (K3 : Int32 × Ds → Option (Unit × Ds)) (z : Int32 × Ds) => fX12_lays_B3 10000 g 328 a K3 z.1 z.2) = F
  obtain ⟨d1, e1, f1⟩ := lay_step c0 r0 c1 l1 (lp F 9999) a 24 (by decide) k (by omega) d hd
  obtain ⟨d2, e2, f2⟩ := lay_step c0 r0 c1 l1 (lp F 9998) a (24 + (-8)) (by decide) (k + 1) (by omega) d1 f1
  obtain ⟨d3, e3, f3⟩ := lay_step c0 r0 c1 l1 (lp F 9997) a (24 + (-8) + (-8)) (by decide) (k + 2) (by omega) d2 f2
  obtain ⟨d4, e4, f4⟩ := lay_step c0 r0 c1 l1 (lp F 9996) a (24 + (-8) + (-8) + (-8)) (by decide) (k + 3) (by omega) d3 f3
  have e5 : fX12_lays_B3 10000 g 328 a (lp F 9995) (24 + (-8) + (-8) + (-8) + (-8)) d4 = some ((), d4) := by
    unfold fX12_lays_B3
    rw [if_pos (by decide)]
  have ap : ∀ K2 y x, F K2 (y, x) = fX12_lays_B3 10000 g 328 a K2 y x := fun K2 y x => by rw [← hF]
  refine ⟨d4, ?_, f4⟩
  show lp (fun (K3 : Int32 × Ds → Option (Unit × Ds)) (z : Int32 × Ds) => fX12_lays_B3 10000 g 328 a K3 z.1 z.2) 10000 (24, d) = _
  rw [hF]
  have s1 : lp F 10000 (24, d) = fX12_lays_B3 10000 g 328 a (lp F 9999) 24 d := (lp_s (n := 9999)).trans (ap _ _ _)
  have s2 : ∀ y x, lp F 9999 (y, x) = fX12_lays_B3 10000 g 328 a (lp F 9998) y x := fun y x => (lp_s (n := 9998)).trans (ap _ _ _)
  have s3 : ∀ y x, lp F 9998 (y, x) = fX12_lays_B3 10000 g 328 a (lp F 9997) y x := fun y x => (lp_s (n := 9997)).trans (ap _ _ _)
  have s4 : ∀ y x, lp F 9997 (y, x) = fX12_lays_B3 10000 g 328 a (lp F 9996) y x := fun y x => (lp_s (n := 9996)).trans (ap _ _ _)
  have s5 : ∀ y x, lp F 9996 (y, x) = fX12_lays_B3 10000 g 328 a (lp F 9995) y x := fun y x => (lp_s (n := 9995)).trans (ap _ _ _)
  rw [s1, e1, s2, e2, s3, e3, s4, e4, s5, e5]
theorem o_feed (h : q0 = some (g, d)) (a b c e f : Int32) : Eq2 (fX11_feed 10000 g 0 a b c e f d) (fX12_feed 10000 g 328 a b c e f) := by
  have c0 := kKM h
  have r0 : gR g 0 0 = some 1 := Fr h (0, 0, 1) (by decide +kernel)
  have c1 : chk g 1 100 := chk_t (Fn h) (by decide) (Fk h 1 (by decide))
  have l1 : gL g 1 = 2000 := Fl h 1 (by decide)
  have m0 := kMo h
  have s0 : gR g 328 1 = some 329 := Fr h (328, 1, 329) (by decide +kernel)
  have m1 : chk g 329 100 := chk_t (Fn h) (by decide) (Fk h 329 (by decide))
  have n1 : gL g 329 = 2000 := Fl h 329 (by decide)
  have i0 : dI d 0 1 = nI 0 := Fi h (0, 1, 0) (by decide +kernel)
  have i1 : dI d 328 2 = nI 0 := Fi h (328, 2, 0) (by decide +kernel)
  obtain ⟨d1, e1, f1, g1⟩ := app4 c0 r0 c1 l1 a 0 (by omega) d i0
  obtain ⟨d2, e2, f2, g2⟩ := app4 c0 r0 c1 l1 b 4 (by omega) d1 f1
  obtain ⟨d3, e3, f3, g3⟩ := app4 c0 r0 c1 l1 c 8 (by omega) d2 f2
  obtain ⟨d4, e4, f4, g4⟩ := app4 c0 r0 c1 l1 e 12 (by omega) d3 f3
  obtain ⟨d5, e5, f5, g5⟩ := app4 c0 r0 c1 l1 f 16 (by omega) d4 f4
  have j0 : dI d5 328 2 = nI 0 := by rw [g5, g4, g3, g2, g1, i1]
  obtain ⟨x1, y1, z1⟩ := lay4 m0 s0 m1 n1 a 0 (by omega) d5 j0
  obtain ⟨x2, y2, z2⟩ := lay4 m0 s0 m1 n1 b 4 (by omega) x1 z1
  obtain ⟨x3, y3, z3⟩ := lay4 m0 s0 m1 n1 c 8 (by omega) x2 z2
  obtain ⟨x4, y4, z4⟩ := lay4 m0 s0 m1 n1 e 12 (by omega) x3 z3
  obtain ⟨x5, y5, z5⟩ := lay4 m0 s0 m1 n1 f 16 (by omega) x4 z4
  refine ⟨nI 20, d5, x5, ?_, ?_⟩
  · simp only [fX11_feed, gd_t c0, i0]
    rw [if_pos (by decide)]
    simp only [e1, e2, e3, e4, e5, cv_t, f5]
  · simp only [fX12_feed, gd_t m0, j0]
    rw [if_pos (by decide)]
    simp only [y1, y2, y3, y4, y5, cv_t, z5]
/-! what is closed, for every number of its range; the others by hand -/
theorem of_rng {P : Int32 → Prop} {n : Nat} (hn : n < 2 ^ 31) (h : ∀ w, w < n → P (Int32.ofNat w)) {x : Int32} (h0 : ¬ x.toInt < 0) (h1 : x.toInt < n) : P x := by
  obtain ⟨j, hj, rfl⟩ := nI_of (x := x) (by rw [i_lt, i_0]; exact h0)
  rw [nI_toInt hj] at h1
  exact h j (by omega)
theorem all_ck {n a : Nat} {A : Int32 → Option (Int32 × Ds)} {C : Int32 → Ds → Option (Int32 × Ds)} (h : (List.range n).all (fun w => ck (A (Int32.ofNat (a + w))) (C (Int32.ofNat (a + w)))) = true) {w : Nat} (h1 : a ≤ w) (h2 : w < a + n) : Eq2 (A (Int32.ofNat w)) (C (Int32.ofNat w)) := by
  have h3 := List.all_eq_true.mp h (w - a) (List.mem_range.mpr (by omega))
  rw [Nat.add_sub_cancel' h1] at h3
  exact ck_s h3
theorem o_read (h : q0 = some (g, d)) : Eq2 (fX11_read 10000 g 0 d) (fX12_read 10000 g 328) := ck_s (onq_s q_read h)
theorem o_place (h : q0 = some (g, d)) : Eq2 (fX11_place 10000 g 0 d) (fX12_place 10000 g 328) := ck_s (onq_s q_place h)
theorem o_host (h : q0 = some (g, d)) (a : Int32) : Eq2 (fX11_host 10000 g 0 a d) (fX12_host 10000 g 328 a) := by
  by_cases h1 : a.toInt < 0 ∨ 3 < a.toInt
  · exact ⟨-2, d, d, by simp only [fX11_host, gd_t (kKM h), rCo h, ob_t, gd_t (kCo h), rRe h, if_pos h1], by simp only [fX12_host, if_pos h1]⟩
  · exact of_rng (P := fun x => Eq2 (fX11_host 10000 g 0 x d) (fX12_host 10000 g 328 x)) (n := 4) (by decide) (fun w hw => all_ck (A := fun x => fX11_host 10000 g 0 x d) (C := fun x => fX12_host 10000 g 328 x) (onq_s q_host h) (Nat.zero_le w) (by omega)) (fun z => h1 (Or.inl z)) (by omega)
theorem o_count (h : q0 = some (g, d)) (a : Int32) : Eq2 (fX11_count 10000 g 0 a d) (fX12_count 10000 g 328 a) := by
  by_cases h1 : a.toInt < 0 ∨ 21 < a.toInt
  · have h2 : a.toInt < 0 ∨ 12 < a.toInt := by omega
    have h3 : a.toInt < 13 ∨ 21 < a.toInt := by omega
    exact ⟨-1, d, d, by simp only [fX11_count, if_pos h2, gd_t (kKM h), fX11_setting, if_pos h3, cb_t], by simp only [fX12_count, if_pos h1]⟩
  · refine of_rng (P := fun x => Eq2 (fX11_count 10000 g 0 x d) (fX12_count 10000 g 328 x)) (n := 22) (by decide) (fun w hw => ?_) (fun z => h1 (Or.inl z)) (by omega)
    rcases Nat.lt_or_ge w 8 with h4 | h4
    · exact all_ck (A := fun x => fX11_count 10000 g 0 x d) (C := fun x => fX12_count 10000 g 328 x) (onq_s q_counta h) (Nat.zero_le w) (by omega)
    · rcases Nat.lt_or_ge w 16 with h5 | h5
      · exact all_ck (A := fun x => fX11_count 10000 g 0 x d) (C := fun x => fX12_count 10000 g 328 x) (onq_s q_countb h) h4 (by omega)
      · exact all_ck (A := fun x => fX11_count 10000 g 0 x d) (C := fun x => fX12_count 10000 g 328 x) (onq_s q_countc h) h5 (by omega)
theorem o_restore (h : q0 = some (g, d)) (a : Int32) : Eq2 (fX11_restore 10000 g 0 a d) (fX12_restore 10000 g 328 a) := by
  by_cases h1 : a < 0
  · exact ⟨0, d, d, by unfold fX11_restore; rw [if_pos h1]; rfl, by simp only [fX12_restore, in_no d (Or.inl h1), cb_t, ↓reduceIte]; rfl⟩
  · by_cases h2 : 3 ≤ a
    · have h3 : 2 < a := by rw [i_le] at h2; rw [i_lt]; exact Int.lt_of_lt_of_le (by decide) h2
      exact ⟨0, d, d, by unfold fX11_restore; rw [if_neg h1, if_pos h2]; rfl, by simp only [fX12_restore, in_no d (Or.inr h3), cb_t, ↓reduceIte]; rfl⟩
    · have h4 : a.toInt < 3 := by
        have := Int32.not_le.mp h2
        rw [i_lt] at this
        exact this
      exact of_rng (P := fun x => Eq2 (fX11_restore 10000 g 0 x d) (fX12_restore 10000 g 328 x)) (n := 3) (by decide) (fun w hw => all_ck (A := fun x => fX11_restore 10000 g 0 x d) (C := fun x => fX12_restore 10000 g 328 x) (onq_s q_restore h) (Nat.zero_le w) (by omega)) (by rw [i_lt, i_0] at h1; exact h1) h4
theorem o_hold (h : q0 = some (g, d)) (a : Int32) : Eq2 (fX11_hold 10000 g 0 a d) (fX12_hold 10000 g 328 a) := by
  by_cases h1 : a < 0
  · exact ⟨0, d, d, by unfold fX11_hold; rw [if_pos h1]; rfl, by simp only [fX12_hold, in_no d (Or.inl h1), cb_t, ↓reduceIte]⟩
  · by_cases h2 : a < 3
    · refine of_rng (P := fun x => Eq2 (fX11_hold 10000 g 0 x d) (fX12_hold 10000 g 328 x)) (n := 3) (by decide) (fun w hw => ?_) (by rw [i_lt, i_0] at h1; exact h1) (by rw [i_lt] at h2; exact h2)
      rcases (show w = 0 ∨ w = 1 ∨ w = 2 by omega) with rfl | rfl | rfl
      · exact all_ck (A := fun x => fX11_hold 10000 g 0 x d) (C := fun x => fX12_hold 10000 g 328 x) (onq_s q_hold0 h) (Nat.le_refl 0) (by omega)
      · exact all_ck (A := fun x => fX11_hold 10000 g 0 x d) (C := fun x => fX12_hold 10000 g 328 x) (onq_s q_hold1 h) (Nat.le_refl 1) (by omega)
      · exact all_ck (A := fun x => fX11_hold 10000 g 0 x d) (C := fun x => fX12_hold 10000 g 328 x) (onq_s q_hold2 h) (Nat.le_refl 2) (by omega)
    · have h3 : 2 < a := by
        rw [i_lt] at h2 ⊢
        have e3 : (3 : Int32).toInt = 3 := by decide
        have e2 : (2 : Int32).toInt = 2 := by decide
        omega
      exact ⟨0, d, d, by unfold fX11_hold; rw [if_neg h1, if_neg h2]; rfl, by simp only [fX12_hold, in_no d (Or.inr h3), cb_t, ↓reduceIte]⟩
theorem o_sent (h : q0 = some (g, d)) (a : Int32) : Eq2 (fX11_sent 10000 g 0 a d) (fX12_sent 10000 g 328 a) := by
  by_cases h0 : a = 0
  · subst h0
    exact all_ck (A := fun x => fX11_sent 10000 g 0 x d) (C := fun x => fX12_sent 10000 g 328 x) (w := 0) (onq_s q_sent h) (Nat.le_refl 0) (by omega)
  · by_cases h1 : a = 1
    · subst h1
      exact all_ck (A := fun x => fX11_sent 10000 g 0 x d) (C := fun x => fX12_sent 10000 g 328 x) (w := 1) (onq_s q_sent h) (Nat.zero_le 1) (by omega)
    · have hg := onq_s q_gather h
      unfold b_gather at hg
      dsimp only at hg
      cases e1 : fX3_gather 10000 g 236 (-1) d with
      | none => rw [e1] at hg; cases hg
      | some z =>
        rw [e1] at hg
        simp only [Bool.and_eq_true, beq_iff_eq] at hg
        obtain ⟨hz, hg⟩ := hg
        cases e2 : fX12_laysSent 10000 g 328 z.2 with
        | none => rw [e2] at hg; cases hg
        | some w =>
          rw [e2] at hg
          simp only [beq_iff_eq] at hg
          have e1' : fX3_gather 10000 g 236 (-1) d = some ((), z.2) := e1
          have e2' : fX12_laysSent 10000 g 328 z.2 = some ((), w.2) := e2
          refine ⟨-1, z.2, w.2, ?_, ?_⟩
          · simp only [fX11_sent, gd_t (kKM h), rCo h, ob_t, gd_t (kCo h), rDo h, gd_t (kDo h), e1', cv_t, if_neg h0, if_neg h1, hz]
            by_cases h2 : a < 2
            · rw [if_pos h2]; rfl
            · have h3 : ¬ (a - 2) < 0 := by
                rw [i_lt] at h2 ⊢
                have e3 : (2 : Int32).toInt = 2 := by decide
                rw [e3] at h2
                have hr := Int32.toInt_le a
                rw [Int32.toInt_sub, e3, i_0]
                have hb : (a.toInt - 2).bmod (2 ^ 32) = a.toInt - 2 := Int.bmod_eq_of_le (by omega) (by have := Int32.toInt_lt a; omega)
                rw [hb]
                omega
              rw [if_neg h2, if_neg h3]; rfl
          · simp only [fX12_sent, gd_t (kMo h), e2', cv_t, if_neg h0, if_neg h1, hg, in_e, cb_t, ↓reduceIte]
            rfl
theorem shr0 (x : Int32) : (x.toUInt32 >>> ((0 : Int32).toUInt32 &&& Int32.toUInt32 31)).toInt32 = x := by
  have e : ((0 : Int32).toUInt32 &&& Int32.toUInt32 31) = 0 := by decide
  rw [e]
  simp
theorem o_ghosts (h : q0 = some (g, d)) (a b : Int32) : Eq2 (fX11_ghosts 10000 g 0 a b d) (fX12_ghosts 10000 g 328 a b) := by
  by_cases h0 : a = 0
  · subst h0
    by_cases h1 : b.toInt < 0 ∨ 2 < b.toInt
    · have hf := onq_s q_follow h
      unfold b_follow at hf
      dsimp only at hf
      cases e1 : fX9_follow 10000 g 225 117 0 d with
      | none => rw [e1] at hf; cases hf
      | some z =>
        have e1' : fX9_follow 10000 g 225 117 0 d = some ((), z.2) := e1
        have i0 : ∀ x, fX12_in 10000 g 0 0 (((1 : Int32) <<< ((0 : Int32) &&& 31)) - 1) x = some (1, x) := fun x => in_yes x (by decide) (by decide)
        rw [e1] at hf
        simp only [Bool.and_eq_true, beq_iff_eq] at hf
        have x0 : ¬ ((0 : Int32) < 0 ∨ gL g 336 ≤ (0 : Int32).toNatClampNeg) := by rw [lNo h]; decide
        have x1 : ¬ ((1 : Int32) < 0 ∨ gL g 336 ≤ (1 : Int32).toNatClampNeg) := by rw [lNo h]; decide
        have kk : fX12_keysMany 10000 g 328 z.2 = some (0, z.2) := by
          simp only [fX12_keysMany, gd_t (kMo h), rNo h, ob_t, gd_t (kNo h), gd_t x0, gd_t x1]
          show some (dI z.2 336 0 * dI z.2 336 1, z.2) = _
          rw [hf.1, hf.2]
          rfl
        refine ⟨-1, z.2, z.2, ?_, ?_⟩
        · simp only [fX11_ghosts, gd_t (kKM h), rBo h, ob_t, gd_t (kBo h), o_keys h, cb_t, shr0, rWi h, gd_t (kWi h), e1', cv_t, if_pos h1, ↓reduceIte]
        · have h2 : b < 0 ∨ 2 < b := by
            rw [i_lt, i_lt, i_0]
            exact h1
          simp only [fX12_ghosts, gd_t (kMo h), kk, cb_t, i0, in_no z.2 h2]
          rw [if_neg (by decide)]
          simp only [↓reduceIte]
          rfl
    · exact of_rng (P := fun x => Eq2 (fX11_ghosts 10000 g 0 0 x d) (fX12_ghosts 10000 g 328 0 x)) (n := 3) (by decide) (fun w hw => ck_s (List.all_eq_true.mp (onq_s q_ghosts h) w (List.mem_range.mpr hw))) (fun z => h1 (Or.inl z)) (by omega)
  · refine ⟨-1, d, d, ?_, ?_⟩
    · simp only [fX11_ghosts, gd_t (kKM h), rBo h, ob_t, gd_t (kBo h), o_keys h, cb_t, shr0, if_neg h0]
    · have h2 : a < 0 ∨ (((1 : Int32) <<< ((0 : Int32) &&& 31)) - 1) < a := by
        have e : ((1 : Int32) <<< ((0 : Int32) &&& 31)) - 1 = 0 := by decide
        rw [e]
        by_cases h3 : a < 0
        · exact Or.inl h3
        · refine Or.inr ?_
          rcases Int32.lt_or_eq_of_le (Int32.not_lt.mp h3) with h4 | h4
          · exact h4
          · exact absurd h4.symm h0
      simp only [fX12_ghosts, gd_t (kMo h), o_keysM h, cb_t, in_no d h2, ↓reduceIte]
      rfl

end OPS
