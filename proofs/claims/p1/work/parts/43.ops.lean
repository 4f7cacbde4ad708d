theorem i_lt {a b : Int32} : a < b ↔ a.toInt < b.toInt := Int32.lt_iff_toInt_lt
theorem i_le {a b : Int32} : a ≤ b ↔ a.toInt ≤ b.toInt := Int32.le_iff_toInt_le
theorem i_0 : (0 : Int32).toInt = 0 := by decide
theorem i_m1 : (-1 : Int32).toInt = -1 := by decide
theorem i_nlt {a : Int32} (h : ¬ a < 0) : (-1 : Int32) < a := by
  rw [i_lt, i_0] at h
  rw [i_lt, i_m1]
  omega
theorem chk_t {g : Gs} {r k n : Nat} (hn : gN g = n) (hr : r < n) (hk : gK g r = k) : chk g r k := ⟨by rw [hn]; exact hr, hk⟩
section OPS
variable {g : Gs} {d : Ds}
theorem kKM (h : q0 = some (g, d)) : chk g 0 10 := chk_t (Fn h) (by decide) (Fk h 0 (by decide))
theorem kBo (h : q0 = some (g, d)) : chk g 117 0 := chk_t (Fn h) (by decide) (Fk h 117 (by decide))
theorem kCo (h : q0 = some (g, d)) : chk g 227 1 := chk_t (Fn h) (by decide) (Fk h 227 (by decide))
theorem kMo (h : q0 = some (g, d)) : chk g 328 11 := chk_t (Fn h) (by decide) (Fk h 328 (by decide))
theorem kNo (h : q0 = some (g, d)) : chk g 336 102 := chk_t (Fn h) (by decide) (Fk h 336 (by decide))
theorem rBo (h : q0 = some (g, d)) : gR g 0 4 = some 117 := Fr h (0, 4, 117) (by decide +kernel)
theorem rCo (h : q0 = some (g, d)) : gR g 0 6 = some 227 := Fr h (0, 6, 227) (by decide +kernel)
theorem rSc (h : q0 = some (g, d)) : gR g 227 1 = some 228 := Fr h (227, 1, 228) (by decide +kernel)
theorem rNo (h : q0 = some (g, d)) : gR g 328 17 = some 336 := Fr h (328, 17, 336) (by decide +kernel)
theorem lNo (h : q0 = some (g, d)) : gL g 336 = 9178 := Fl h 336 (by decide)
/-- an index of the row 'now' is within -/
theorem ixN (h : q0 = some (g, d)) (n : Nat) (hn : n < 9178) : ¬ (nI n < 0 ∨ gL g 336 ≤ (nI n).toNatClampNeg) := by
  rw [lNo h]
  exact nI_in hn (by omega)
theorem o_keys (h : q0 = some (g, d)) : fX0_keys 10000 g 117 d = some (0, d) := by
  have i0 : dI d 117 0 = 0 := Fi h (117, 0, 0) (by decide +kernel)
  have i1 : dI d 117 1 = 0 := Fi h (117, 1, 0) (by decide +kernel)
  simp only [fX0_keys, gd_t (kBo h), i0, i1]
  rfl
theorem o_hasKey (h : q0 = some (g, d)) (a : Int32) : fX0_hasKey 10000 g 117 a d = some (0, d) := by
  have j : fX0_hasKey_J16 10000 g 117 a d = some (0, d) := rfl
  unfold fX0_hasKey
  by_cases ha : a < 0
  · rw [if_pos ha, j]
  · rw [if_neg ha]
    simp only [gd_t (kBo h), o_keys h, cb_t, if_pos (Int32.not_lt.mp ha), j]
theorem o_keysM (h : q0 = some (g, d)) : fX12_keysMany 10000 g 328 d = some (0, d) := by
  have i0 : dI d 336 0 = 0 := Fw h (0, 0) (by decide +kernel)
  have i1 : dI d 336 1 = 0 := Fw h (1, 0) (by decide +kernel)
  simp only [fX12_keysMany, gd_t (kMo h), rNo h, ob_t, gd_t (kNo h)]
  rw [gd_t (ixN h 0 (by omega)), gd_t (ixN h 1 (by omega))]
  show some (dI d 336 0 * dI d 336 1, d) = _
  rw [i0, i1]
  rfl
theorem in_no {a b c : Int32} (x : Ds) (h : a < b ∨ c < a) : fX12_in 10000 g a b c x = some (0, x) := by
  have j1 : fX12_in_J14 10000 g a b c x = some (0, x) := rfl
  unfold fX12_in
  by_cases h1 : a < b
  · rw [if_pos h1, j1]
  · rw [if_neg h1, if_pos (h.resolve_left h1), j1]
theorem in_yes {a b c : Int32} (x : Ds) (h1 : ¬ a < b) (h2 : ¬ c < a) : fX12_in 10000 g a b c x = some (1, x) := by
  unfold fX12_in
  rw [if_neg h1, if_neg h2]
  rfl
theorem in_e (a : Int32) (x : Ds) : fX12_in 10000 g a 0 (0 - 1) x = some (0, x) := in_no x (by
  by_cases ha : a < 0
  · exact Or.inl ha
  · exact Or.inr (i_nlt ha))
theorem o_isKey (h : q0 = some (g, d)) (a : Int32) : fX12_isKey 10000 g 328 a d = some (0, d) := by
  simp only [fX12_isKey, gd_t (kMo h), o_keysM h, cb_t, in_e]
  rfl
theorem o_back (h : q0 = some (g, d)) (a : Int32) : Eq2 (fX11_back 10000 g 0 a d) (fX12_back 10000 g 328 a) := by
  have i0 : dI d 0 1 = 0 := Fi h (0, 1, 0) (by decide +kernel)
  have i1 : dI d 328 2 = 0 := Fi h (328, 2, 0) (by decide +kernel)
  by_cases ha : a < 0
  · exact ⟨-1, d, d, by unfold fX11_back; rw [if_pos ha]; rfl, by unfold fX12_back; rw [if_pos ha]; rfl⟩
  · by_cases hb : a ≤ 0
    · refine ⟨0 - a, _, _, by unfold fX11_back; rw [if_neg ha, gd_t (kKM h), i0, if_pos hb, bd_t, sI_at, if_pos rfl], ?_⟩
      have i2 : ∀ v, dI (sI d 0 1 v) 328 2 = 0 := fun v => by rw [← i1]; rfl
      unfold fX12_back
      rw [if_neg ha, gd_t (kMo h), i2, if_pos hb, bd_t, sI_at, if_pos rfl]
    · exact ⟨-1, d, d, by unfold fX11_back; rw [if_neg ha, gd_t (kKM h), i0, if_neg hb]; rfl, by unfold fX12_back; rw [if_neg ha, gd_t (kMo h), i1, if_neg hb]; rfl⟩
theorem o_press (h : q0 = some (g, d)) (a b : Int32) : Eq2 (fX11_press 10000 g 0 a b d) (fX12_press 10000 g 328 a b) :=
  ⟨0, d, d, by simp only [fX11_press, gd_t (kKM h), rCo h, ob_t, gd_t (kCo h), rSc h, rBo h, gd_t (kBo h), o_hasKey h, cb_t, ↓reduceIte]; rfl, by simp only [fX12_press, gd_t (kMo h), o_isKey h, cb_t, ↓reduceIte]; rfl⟩
theorem o_key (h : q0 = some (g, d)) (a b : Int32) : Eq2 (fX11_key 10000 g 0 a b d) (fX12_key 10000 g 328 a b) :=
  ⟨-1, d, d, by simp only [fX11_key, gd_t (kKM h), ob_t, rBo h, gd_t (kBo h), o_hasKey h, cb_t, ↓reduceIte], by simp only [fX12_key, gd_t (kMo h), o_isKey h, cb_t, ↓reduceIte]⟩
theorem o_does (h : q0 = some (g, d)) (a b : Int32) : Eq2 (fX11_does 10000 g 0 a b d) (fX12_does 10000 g 328 a b) :=
  ⟨-2, d, d, by simp only [fX11_does, gd_t (kKM h), ob_t, rBo h, gd_t (kBo h), o_hasKey h, cb_t, ↓reduceIte], by simp only [fX12_does, gd_t (kMo h), o_isKey h, cb_t, ↓reduceIte]; rfl⟩
theorem o_strokes (h : q0 = some (g, d)) (a b : Int32) : Eq2 (fX11_strokes 10000 g 0 a b d) (fX12_strokes 10000 g 328 a b) :=
  ⟨-2, d, d, by simp only [fX11_strokes, gd_t (kKM h), ob_t, rBo h, gd_t (kBo h), o_hasKey h, cb_t, ↓reduceIte], by simp only [fX12_strokes, gd_t (kMo h), o_isKey h, cb_t, ↓reduceIte]⟩
theorem o_deed (h : q0 = some (g, d)) (a b c : Int32) : Eq2 (fX11_deed 10000 g 0 a b c d) (fX12_deed 10000 g 328 a b c) := by
  refine ⟨-1, d, d, by simp only [fX11_deed, gd_t (kKM h), ob_t, rBo h, gd_t (kBo h), o_hasKey h, cb_t, ↓reduceIte], ?_⟩
  unfold fX12_deed
  by_cases h1 : a < -1
  · simp only [in_no d (Or.inl h1), cb_t, ↓reduceIte]; rfl
  · by_cases h2 : 3 < a
    · simp only [in_no d (Or.inr h2), cb_t, ↓reduceIte]; rfl
    · simp only [in_yes d h1 h2, cb_t, gd_t (kMo h), o_isKey h, ↓reduceIte]; rfl
theorem o_tick (h : q0 = some (g, d)) (a : Int32) : Eq2 (fX11_tick 10000 g 0 a d) (fX12_tick 10000 g 328 a) := by
  refine ⟨-1, d, d, ?_, ?_⟩
  · unfold fX11_tick
    by_cases h1 : a < 1
    · rw [if_pos h1]; rfl
    · by_cases h2 : 50 < a
      · rw [if_neg h1, if_pos h2]; rfl
      · rw [if_neg h1, if_neg h2]
        simp only [gd_t (kKM h), rBo h, ob_t, gd_t (kBo h), o_keys h, cb_t, ↓reduceIte]; rfl
  · unfold fX12_tick
    by_cases h1 : a < 1
    · simp only [in_no d (Or.inl h1), cb_t, ↓reduceIte]; rfl
    · by_cases h2 : 50 < a
      · simp only [in_no d (Or.inr h2), cb_t, ↓reduceIte]; rfl
      · simp only [in_yes d h1 h2, cb_t, gd_t (kMo h), o_keysM h, ↓reduceIte]; rfl
theorem o_ahead (h : q0 = some (g, d)) (a b : Int32) : Eq2 (fX11_ahead 10000 g 0 a b d) (fX12_ahead 10000 g 328 a b) := by
  refine ⟨-1, d, d, ?_, ?_⟩
  · unfold fX11_ahead
    by_cases h1 : a < 1
    · rw [if_pos h1]; rfl
    · rw [if_neg h1]
      by_cases h2 : 120 < a
      · rw [if_pos h2]; rfl
      · rw [if_neg h2]
        by_cases h3 : b < 0
        · rw [if_pos h3]; rfl
        · rw [if_neg h3]
          by_cases h4 : 4 < b
          · rw [if_pos h4]; rfl
          · rw [if_neg h4]
            simp only [gd_t (kKM h), rBo h, ob_t, gd_t (kBo h), o_keys h, cb_t, ↓reduceIte]; rfl
  · unfold fX12_ahead
    by_cases h1 : a < 1
    · simp only [in_no d (Or.inl h1), cb_t, ↓reduceIte]; rfl
    · by_cases h2 : 120 < a
      · simp only [in_no d (Or.inr h2), cb_t, ↓reduceIte]; rfl
      · simp only [in_yes d h1 h2, cb_t]
        rw [if_neg (by decide)]
        by_cases h3 : b < 0
        · simp only [in_no d (Or.inl h3), cb_t, ↓reduceIte]; rfl
        · by_cases h4 : 4 < b
          · simp only [in_no d (Or.inr h4), cb_t, ↓reduceIte]; rfl
          · simp only [in_yes d h3 h4, cb_t, gd_t (kMo h), o_keysM h, ↓reduceIte]; rfl
end OPS
