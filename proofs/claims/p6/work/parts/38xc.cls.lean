/-! chords and codes of the class -/
theorem tld_mono {ck : Nat → Int32} {v : Int32} {a : Nat} (h : tld ck v a = true) : ∀ m, tld ck v (a + m) = true := by
  intro m
  induction m with
  | zero => exact h
  | succ m ih =>
    show (tld ck v (a + m) || ck (a + m) == v) = true
    rw [ih, Bool.true_or]
theorem tld_hit {ck : Nat → Int32} {v : Int32} {j b : Nat} (h : ck j = v) (hb : j < b) : tld ck v b = true := by
  have : tld ck v (j + 1) = true := by
    show (tld ck v j || ck j == v) = true
    rw [h]
    simp
  have := tld_mono this (b - (j + 1))
  rwa [show j + 1 + (b - (j + 1)) = b by omega] at this
section CHORD
variable {t : Nat → Int32} {n : Nat} {d0 d : Ds} {T c m : Nat} {w : Int32 × Nat} {ck : Nat → Int32}
theorem chordOf_e {g : Gs} (hS : Shp g) {x : Int32} {V : Nat → Int32} (hc : c ≤ 4) (hD : DR V d c m ck) : pc (fX0_chordOf 10000 g 9 x d) (fun u d' => d' = d ∧ (¬ u = -1 ↔ tld ck x (2 * c) = true)) := by
  have e1 : (1 : Int32).toInt = 1 := by decide
  have em : (-1 : Int32).toInt = -1 := by decide
  unfold fX0_chordOf fX0_chordOf_L2
  refine pc_lp (fun a => a.2 = d ∧ ∃ j : Nat, j ≤ c ∧ a.1.toInt = (j : Int) ∧ tld ck x (2 * j) = false) ?_ 10000 (0, d) ⟨rfl, 0, Nat.zero_le _, (by decide : (0 : Int32).toInt = ((0 : Nat) : Int)), rfl⟩
  rintro K ⟨y2, dd⟩ ⟨e, j, hj, hy, hf⟩ hK
  dsimp only at e hy hK ⊢
  subst e
  have h12 := hD.2.2.1
  unfold fX0_chordOf_B2
  have ny : ¬ y2 = -1 := fun z => by rw [z, em] at hy; omega
  refine pc_gd (fun _ => pc_if (fun q => ?_) (fun q => ?_))
  · have q2 := Int32.le_iff_toInt_le.mp q
    have : j = c := by omega
    subst this
    exact pc_some ⟨rfl, ⟨fun z => absurd rfl z, fun z => by rw [hf] at z; exact absurd z (by decide)⟩⟩
  · have q2 := Int32.lt_iff_toInt_lt.mp (nle q)
    have hl : j < c := by omega
    obtain ⟨k1, k2⟩ := hD.2.2.2.2.1 j hl
    refine pc_ob (fun r e => ?_)
    have := gq hS (e := 12) (by decide +kernel) e
    subst this
    refine pc_gd (fun _ => pc_gd (fun _ => ?_))
    rw [tn hy, k1]
    refine pc_if (fun z => ?_) (fun z1 => ?_)
    · unfold fX0_chordOf_J30
      exact pc_some ⟨rfl, ⟨fun _ => tld_hit z (by omega), fun _ => ny⟩⟩
    · refine pc_ob (fun r e => ?_)
      have := gq hS (e := 13) (by decide +kernel) e
      subst this
      refine pc_gd (fun _ => pc_gd (fun _ => ?_))
      rw [k2]
      refine pc_if (fun z => ?_) (fun z2 => ?_)
      · unfold fX0_chordOf_J30
        exact pc_some ⟨rfl, ⟨fun _ => tld_hit z (by omega), fun _ => ny⟩⟩
      · refine pc_bd (fun u e => hK _ ⟨rfl, j + 1, by omega, ?_, ?_⟩)
        · dsimp only
          rw [e, z_add hy e1 (by omega) (by omega)]
          omega
        · rw [show 2 * (j + 1) = 2 * j + 1 + 1 by omega]
          show (tld ck x (2 * j) || ck (2 * j) == x || ck (2 * j + 1) == x) = false
          rw [hf, beq_false_of_ne z1, beq_false_of_ne z2]
          rfl
theorem takeChordKey_e {g : Gs} (hS : Shp g) {x : Int32} (hc : c ≤ 4) (hC : CT t n d) (hx : XC d (T, 0)) (hw : NT d w) (hD : DR (VS t n) d c m ck) : pc (fX7_takeChordKey 10000 g 2 x d) (fun u d' => CP d d' u (mS (KS t n) 2 (T, 0)) (cNt (VS t n) c ck x T w) ∧ dI d' 2 4 = VS t n T) := by
  have j38 : ∀ {dd : Ds} {w0 : Int32 × Nat}, SF d dd → XC dd (T, 0) → NT dd w0 → nNu (VS t n) 0 (kyN (VS t n)) T w0 = cNt (VS t n) c ck x T w → pc (fX7_takeChordKey_J38 10000 g 2 x dd) (fun u d' => CP d d' u (mS (KS t n) 2 (T, 0)) (cNt (VS t n) c ck x T w) ∧ dI d' 2 4 = VS t n T) := by
    intro dd w0 sf xx ww e0
    unfold fX7_takeChordKey_J38
    refine pc_gd (fun _ => pc_ob (fun r e => ?_))
    have := gq hS (e := 9) (by decide +kernel) e
    subst this
    refine pc_gd (fun _ => pc_cb (P := fun u d' => d' = dd ∧ u = VS t n 1 * VS t n 2) (by
      unfold fX0_keys
      have h3 := hD.f sf.drf
      exact pc_gd (fun _ => pc_some ⟨rfl, by rw [h3.1, h3.2.1]⟩)) (fun u12 d10 r => ?_))
    obtain ⟨e, hu⟩ := r
    subst e
    rw [hu]
    refine pc_cb (takeNumber_e hS (hC.tf sf.tf) sf xx ww) (fun u19 d17 r => pc_gd (fun _ => pc_some ?_))
    rw [← e0]
    exact r
  have j29 : (VS t n T = x ∨ tld ck (VS t n T) (2 * c) = true) → pc (fX7_takeChordKey_J29 10000 g 2 x d) (fun u d' => CP d d' u (mS (KS t n) 2 (T, 0)) (cNt (VS t n) c ck x T w) ∧ dI d' 2 4 = VS t n T) := by
    intro q
    unfold fX7_takeChordKey_J29
    refine pc_gd (fun _ => pc_cv (noteLater_e hx.1 hx.2.2.1 SF.rf hx hw) (fun d9 r => ?_))
    obtain ⟨a1, a2, a3, _⟩ := r
    refine j38 a2 a1 a3 ?_
    unfold cNt
    rw [if_pos q]
  unfold fX7_takeChordKey
  refine pc_gd (fun _ => pc_ob (fun r e => ?_))
  have := gq hS (e := 3) (by decide +kernel) e
  subst this
  refine pc_gd (fun _ => pc_cb (numberAt_e hS hC hx.1 hx.2.2.1) (fun u d4 r => ?_))
  obtain ⟨e, hu⟩ := r
  subst e
  dsimp only at hu
  rw [hu]
  refine pc_if (fun q => j29 (Or.inl q)) (fun q1 => pc_ob (fun r e => ?_))
  have := gq hS (e := 9) (by decide +kernel) e
  subst this
  refine pc_gd (fun _ => pc_cb (chordOf_e hS hc hD) (fun u25 d23 r => ?_))
  obtain ⟨e, hu⟩ := r
  subst e
  refine pc_if (fun q => ?_) (fun q => j29 (Or.inr (hu.mp q)))
  refine j38 SF.rf hx hw ?_
  unfold cNt
  rw [if_neg (fun z => z.elim q1 (fun z => hu.mpr z q))]
theorem addChord_e {g : Gs} (hS : Shp g) {N : Nat} {a b : Int32} {r : Nat} {V : Nat → Int32} (hc : c < 4) (hD : DR V d c m ck) : pc (fX0_addChord N g 9 a b r d) (fun _ d' => QF d d' ∧ DR V d' (c + 1) m (ckU ck c a b)) := by
  have e4 : (4 : Int32).toInt = 4 := by decide
  have e1 : (1 : Int32).toInt = 1 := by decide
  obtain ⟨h0, h1, h12, h16, hk, hx⟩ := hD
  unfold fX0_addChord
  refine pc_gd (fun _ => pc_if (fun q => ?_) (fun q => pc_ob (fun r3 e => ?_)))
  · have := Int32.le_iff_toInt_le.mp q
    omega
  have := gq hS (e := 12) (by decide +kernel) e
  subst this
  refine pc_gd (fun _ => pc_gd (fun _ => pc_bd (fun d6 e6 => pc_ob (fun r7 e => ?_))))
  have := gq hS (e := 13) (by decide +kernel) e
  subst this
  refine pc_gd (fun _ => pc_gd (fun _ => pc_bd (fun d10 e10 => pc_ob (fun r11 _ => pc_gd (fun _ => pc_gd (fun _ => pc_ob (fun r14 _ => pc_gd (fun hc14 => pc_cv (copy_e hS hc14) (fun d16 r => pc_bd (fun d18 e18 => ?_)))))))))) 
  unfold fX0_addChord_J51
  obtain ⟨q16, f16⟩ := r
  have q6 := QF.rf.i e6 (by decide)
  have q10 := q6.i e10 (by decide)
  have qq : QF d d16 := ⟨fun j => (q16.1 j).trans (q10.1 j), q10.2.tr q16.2⟩
  have n12 : (dI d 9 12).toNatClampNeg = c := tn h12
  have n12' : (dI d6 9 12).toNatClampNeg = c := by rw [rdq e6 (Or.inl (by decide))]; exact n12
  rw [n12] at e6
  rw [n12'] at e10
  have k9 : ∀ j, dI d10 9 j = dI d 9 j := fun j => by rw [rdq e10 (Or.inl (by decide)), rdq e6 (Or.inl (by decide))]
  have c9 : ∀ j, j = 0 ∨ j = 1 ∨ j = 2 ∨ j = 4 ∨ j = 12 ∨ j = 16 → dI d16 9 j = dI d 9 j := fun j hj => (f16.1 j hj).trans (k9 j)
  refine pc_some ⟨qq.i e18 (by decide), ?_, ?_, ?_, ?_, fun j hj => ?_, ?_, ?_, fun i hi => ?_⟩
  · rw [rdq e18 (Or.inr (by decide)), c9 0 (by decide)]
    exact h0
  · rw [rdq e18 (Or.inr (by decide)), c9 1 (by decide)]
    exact h1
  · rw [e18, sI_rd, if_pos ⟨rfl, rfl⟩, c9 12 (by decide), z_add h12 e1 (by omega) (by omega)]
    omega
  · rw [rdq e18 (Or.inr (by decide)), c9 16 (by decide)]
    exact h16
  · have v12 : dI d18 12 j = if j = c then a else dI d 12 j := by
      rw [rdq e18 (Or.inl (by decide)), (f16.2 j).1, rdq e10 (Or.inl (by decide)), e6, sI_rd]
      by_cases z : j = c
      · rw [if_pos ⟨rfl, z⟩, if_pos z]
      · rw [if_neg (fun y => z y.2), if_neg z]
    have v13 : dI d18 13 j = if j = c then b else dI d 13 j := by
      rw [rdq e18 (Or.inl (by decide)), (f16.2 j).2.1, e10, sI_rd]
      by_cases z : j = c
      · rw [if_pos ⟨rfl, z⟩, if_pos z]
      · rw [if_neg (fun y => z y.2), if_neg z, rdq e6 (Or.inl (by decide))]
    rw [v12, v13]
    unfold ckU
    by_cases z : j = c
    · subst z
      rw [if_pos rfl, if_pos rfl, if_pos rfl, if_neg (by omega), if_pos rfl]
      exact ⟨rfl, rfl⟩
    · rw [if_neg z, if_neg z, if_neg (by omega), if_neg (by omega), if_neg (by omega), if_neg (by omega)]
      exact hk j (by omega)
  · rw [rdq e18 (Or.inr (by decide)), c9 2 (by decide), show ckU ck c a b 100 = ck 100 from (if_neg (by omega)).trans (if_neg (by omega))]
    exact hx.1
  · rw [rdq e18 (Or.inr (by decide)), c9 4 (by decide), show ckU ck c a b 101 = ck 101 from (if_neg (by omega)).trans (if_neg (by omega))]
    exact hx.2.1
  · obtain ⟨y1, y2, y3⟩ := hx.2.2 i hi
    have s0 : ckU ck c a b (200 + 9 * i) = ck (200 + 9 * i) := (if_neg (by omega)).trans (if_neg (by omega))
    rw [s0]
    refine ⟨?_, y2, fun j hj => ?_⟩
    · rw [rdq e18 (Or.inl (by decide)), (f16.2 i).2.2.1, rdq e10 (Or.inl (by decide)), rdq e6 (Or.inl (by decide))]
      exact y1
    · rw [rdq e18 (Or.inl (by decide)), (f16.2 _).2.2.2, rdq e10 (Or.inl (by decide)), rdq e6 (Or.inl (by decide)), show ckU ck c a b (200 + 9 * i + 1 + j) = ck (200 + 9 * i + 1 + j) from (if_neg (by omega)).trans (if_neg (by omega))]
      exact y3 j hj
theorem takeChord_e {g : Gs} (hS : Shp g) (hc : c < 4) (hC : CT t n d) (hx : XC d (T, 0)) (hw : NT d w) (hD : DR (VS t n) d c m ck) : pc (fX7_takeChord 10000 g 2 d) (fun u d' => CQ d (fun d' => DR (VS t n) d' (c + 1) m (ckU ck c (VS t n T) (VS t n (T + 1)))) d' u (dS (KS t n) (mS (KS t n) 2 (mS (KS t n) 2 (T, 0)))) (cDt (KS t n) (VS t n) (T + 2) (cNt (VS t n) c ck (VS t n T) (T + 1) (cNt (VS t n) c ck (-1) T w)))) := by
  unfold fX7_takeChord
  refine pc_gd (fun _ => pc_seqQ (K := KS t n) TF.rf (takeChordKey_e hS (by omega) hC hx hw hD) (fun q => by rw [mS_n q, dS_n q]) (fun d2 m1 m2 a b w2 n2 => ?_))
  rw [m1, n2]
  refine pc_bd (fun u6 e6 => ?_)
  subst e6
  refine pc_seqQ (K := KS t n) b.tf (takeChordKey_e hS (by omega) (hC.tf b.tf) a w2 (hD.f b.drf)) (fun q => dS_n q) (fun d7 m1' m2' a' b' w7 n7 => ?_)
  rw [m1', n7]
  refine pc_bd (fun u11 e11 => pc_ob (fun r e => ?_))
  subst e11
  have := gq hS (e := 3) (by decide +kernel) e
  subst this
  have t7 := b.tf.tr b'.tf
  have hD7 := (hD.f b.drf).f b'.drf
  obtain ⟨w0, hw0⟩ : ∃ w0, cNt (VS t n) c ck (VS t n T) (T + 1) (cNt (VS t n) c ck (-1) T w) = w0 := ⟨_, rfl⟩
  rw [hw0] at w7 ⊢
  have j72 : ∀ {dd : Ds}, SF d7 dd → XC dd (T + 1 + 1, 0) → NT dd (if KS t n (T + 2) = 31 ∨ KS t n (T + 2) = 32 ∨ KS t n (T + 2) = 39 then w0 else nT 5 (T + 2) w0) → pc (fX7_takeChord_J72 10000 g 2 (VS t n T) (VS t n (T + 1)) dd) (fun u d' => CQ d (fun d' => DR (VS t n) d' (c + 1) m (ckU ck c (VS t n T) (VS t n (T + 1)))) d' u (dS (KS t n) (T + 1 + 1, 0)) (cDt (KS t n) (VS t n) (T + 2) w0)) := by
    intro dd sf xx ww
    unfold fX7_takeChord_J72
    refine pc_gd (fun _ => pc_cb (takeDeed_e hS ((hC.tf t7).tf sf.tf) SF.rf xx ww) (fun u22 d20 r => ?_))
    obtain ⟨x20, s20, hu⟩ := r
    have t20 := (t7.tr sf.tf).tr s20.tf
    rcases hu with ⟨hu, y0, w20⟩ | ⟨hu, y0⟩ <;> rw [hu]
    · refine pc_if (fun q => absurd q (by decide)) (fun _ => ?_)
      refine pc_ob (fun r e => ?_)
      have := gq hS (e := 9) (by decide +kernel) e
      subst this
      refine pc_ob (fun r26 _ => pc_gd (fun _ => pc_cv (addChord_e hS hc ((hD7.f sf.drf).f s20.drf)) (fun d28 r => ?_)))
      exact pc_some ⟨x20.q r.1, t20.tr r.1.2, Or.inl ⟨rfl, y0, w20.q r.1, r.2⟩⟩
    · exact pc_if (fun _ => pc_some ⟨x20, t20, Or.inr ⟨rfl, y0⟩⟩) (fun q => absurd rfl q)
  refine pc_gd (fun _ => pc_cb (wordAt_e hS (hC.tf t7) a'.1 a'.2.2.1) (fun u d14 r => ?_))
  obtain ⟨e, hu⟩ := r
  subst e
  dsimp only at hu
  rw [hu]
  have good : (KS t n (T + 2) = 31 ∨ KS t n (T + 2) = 32 ∨ KS t n (T + 2) = 39) → pc (fX7_takeChord_J72 10000 g 2 (VS t n T) (VS t n (T + 1)) d14) (fun u d' => CQ d (fun d' => DR (VS t n) d' (c + 1) m (ckU ck c (VS t n T) (VS t n (T + 1)))) d' u (dS (KS t n) (T + 1 + 1, 0)) (cDt (KS t n) (VS t n) (T + 2) w0)) := fun q => j72 SF.rf a' (by rw [if_pos q]; exact w7)
  refine pc_gd (fun _ => pc_gd (fun _ => pc_if (fun q => good (Or.inl ((wd_i (by decide) (by decide)).mp q))) (fun q1 => pc_gd (fun _ => pc_if (fun q => good (Or.inr (Or.inl ((wd_i (by decide) (by decide)).mp q)))) (fun q2 => pc_gd (fun _ => pc_if (fun q => good (Or.inr (Or.inr ((wd_i (by decide) (by decide)).mp q)))) (fun q3 => ?_)))))))
  refine pc_cv (noteLater_e a'.1 a'.2.2.1 SF.rf a' w7) (fun d9 r => ?_)
  obtain ⟨a1, a2, a3, _⟩ := r
  refine j72 a2 a1 ?_
  rw [if_neg (fun z => z.elim (fun z => q1 ((wd_i (by decide) (by decide)).mpr z)) (fun z => z.elim (fun z => q2 ((wd_i (by decide) (by decide)).mpr z)) (fun z => q3 ((wd_i (by decide) (by decide)).mpr z))))]
  exact a3
end CHORD
