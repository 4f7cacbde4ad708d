/-! a text read by the class -/
section GE
variable {K : Nat → Int32} {x : Nat × Int32}
theorem pS_ge : x.1 ≤ (pS x).1 := by
  unfold pS
  split
  · split
    · exact Nat.le_refl _
    · exact Nat.le_succ _
  · exact Nat.le_refl _
theorem mS_ge {k : Int32} : x.1 ≤ (mS K k x).1 := by
  unfold mS
  split
  · split
    · exact pS_ge
    · exact Nat.le_refl _
  · exact Nat.le_refl _
theorem lmS_ge : x.1 ≤ (lmS K x).1 := by
  unfold lmS
  split
  · split
    · exact pS_ge
    · exact Nat.le_refl _
  · exact Nat.le_refl _
theorem dS_ge : x.1 ≤ (dS K x).1 := by
  unfold dS
  split
  · split
    · exact Nat.le_refl _
    · split
      · exact pS_ge
      · split
        · exact Nat.le_trans (Nat.le_trans (Nat.le_trans pS_ge mS_ge) lmS_ge) mS_ge
        · split
          · exact Nat.le_trans (Nat.le_trans pS_ge mS_ge) mS_ge
          · exact Nat.le_trans pS_ge mS_ge
  · exact Nat.le_refl _
theorem iS_ge : ∀ k {x : Nat × Int32}, x.1 ≤ (iS K k x).1 := by
  intro k
  induction k with
  | zero =>
    intro x
    unfold iS
    split <;> exact Nat.le_refl _
  | succ k ih =>
    intro x
    unfold iS
    split
    · exact Nat.le_trans pS_ge ih
    · exact Nat.le_refl _
theorem lS_ge {c : Int32} : x.1 ≤ (lS K c x).1 := by
  unfold lS
  split
  · exact Nat.le_refl _
  · split
    · exact Nat.le_trans (Nat.le_trans mS_ge mS_ge) dS_ge
    · split
      · exact Nat.le_trans mS_ge mS_ge
      · split
        · exact Nat.le_trans mS_ge (iS_ge 7)
        · exact mS_ge
theorem tS_gt {a b T : Nat} (h : (tS K a b T).2 = 0) : T < (tS K a b T).1 ∧ ¬ ((K T).toInt ≤ 20 ∨ 30 < (K T).toInt) ∧ ¬ (K T = 29 ∧ a = 4 ∨ K T = 30 ∧ b = 4) ∧ pS (T, 0) = (T + 1, 0) ∧ tS K a b T = mS K 4 (lS K (K T) (T + 1, 0)) := by
  unfold tS at h ⊢
  by_cases q : (K T).toInt ≤ 20 ∨ 30 < (K T).toInt
  · rw [if_pos q] at h
    exact absurd h (show ¬ (1 : Int32) = 0 by decide)
  · rw [if_neg q] at h ⊢
    by_cases q2 : K T = 29 ∧ a = 4 ∨ K T = 30 ∧ b = 4
    · rw [if_pos q2] at h
      exact absurd h (show ¬ (2 : Int32) = 0 by decide)
    · rw [if_neg q2] at h ⊢
      have hp : (pS (T, 0)).2 = 0 := by
        by_cases z : (pS (T, 0)).2 = 0
        · exact z
        · rw [lS_n z, mS_n z] at h
          exact h
      have e : pS (T, 0) = (T + 1, 0) := by
        unfold pS at hp ⊢
        rw [if_pos rfl] at hp ⊢
        by_cases z : T = 400
        · rw [if_pos z] at hp
          exact absurd hp (show ¬ (2 : Int32) = 0 by decide)
        · rw [if_neg z]
      rw [e]
      exact ⟨Nat.lt_of_lt_of_le (Nat.lt_succ_self T) (Nat.le_trans (lS_ge (x := (T + 1, 0))) mS_ge), q, q2, rfl, rfl⟩
end GE
/-- what is noted, which chords are told behind i lines -/
def sm (K V : Nat → Int32) : Nat → (Int32 × Nat) × (Nat → Int32)
  | 0 => (nNu V 1 6 2 (nNu V 1 4 1 (0, 0)), ck0)
  | i + 1 => if (sx K i).1.2 = 0 ∧ ¬ K (sx K i).1.1 = 0 then (lNt K V (sx K i).2.1 (sm K V i).2 (sx K i).1.1 (sm K V i).1, ckN K V (sx K i).1.1 (sx K i).2.1 (sx K i).2.2 (sm K V i).2) else sm K V i
/-- the verdict and its token -/
def vd (K V : Nat → Int32) (i : Nat) : Int32 × Nat := if (sx K i).1.2 = 0 then (sm K V i).1 else ((sx K i).1.2, (sx K i).1.1)
theorem sm_st {K V : Nat → Int32} {i : Nat} (h : stp2 K (sx K i)) : ∀ m, sm K V (i + m) = sm K V i := by
  intro m
  induction m with
  | zero => rfl
  | succ m ih =>
    show (if (sx K (i + m)).1.2 = 0 ∧ ¬ K (sx K (i + m)).1.1 = 0 then _ else sm K V (i + m)) = sm K V i
    rw [sx_st h m, if_neg h]
    exact ih
theorem vd_un {K V : Nat → Int32} {i j : Nat} (h : stp2 K (sx K i)) (k : stp2 K (sx K j)) : vd K V i = vd K V j := by
  unfold vd
  rcases Nat.le_total i j with q | q
  · have a := sm_st (V := V) h (j - i)
    rw [show i + (j - i) = j by omega] at a
    rw [sx_un h k, a]
  · have a := sm_st (V := V) k (i - j)
    rw [show j + (i - j) = i by omega] at a
    rw [sx_un h k, a]
section RT
variable {d : Ds}
theorem tell_q {g : Gs} (hS : Shp g) {N : Nat} {r : Nat} {a b c : Int32} (h : chk g r 2) : pc (fX2_tell N g r a b c d) (fun _ d' => QF d d' ∧ DRF d d') := by
  have nx : ∀ {e : Nat}, e < 347 → tkd e ≠ 2 → r ≠ e := fun he hk => chk_ne hS h he hk
  have n2 : r ≠ 2 := nx (by decide) (by decide +kernel)
  have n3 : r ≠ 3 := nx (by decide) (by decide +kernel)
  have n4 : r ≠ 4 := nx (by decide) (by decide +kernel)
  have n5 : r ≠ 5 := nx (by decide) (by decide +kernel)
  have n6 : r ≠ 6 := nx (by decide) (by decide +kernel)
  have n9 : r ≠ 9 := nx (by decide) (by decide +kernel)
  have n12 : r ≠ 12 := nx (by decide) (by decide +kernel)
  have n13 : r ≠ 13 := nx (by decide) (by decide +kernel)
  have n15 : r ≠ 15 := nx (by decide) (by decide +kernel)
  have n16 : r ≠ 16 := nx (by decide) (by decide +kernel)
  unfold fX2_tell
  exact pc_gd (fun _ => pc_bd (fun d2 e2 => pc_bd (fun d3 e3 => pc_bd (fun d4 e4 => pc_some ⟨((QF.rf.i e2 (by omega)).i e3 (by omega)).i e4 (by omega), ((DRF.rf.i e2 (by omega)).i e3 (by omega)).i e4 (by omega)⟩))))
theorem QF.tr {d dd d' : Ds} (h : QF d dd) (h2 : QF dd d') : QF d d' := ⟨fun j => (h2.1 j).trans (h.1 j), h.2.tr h2.2⟩
theorem clear_e {g : Gs} (hS : Shp g) : pc (fX0_clear 10000 g 9 d) (fun _ d' => QF d d' ∧ dI d' 9 12 = 0 ∧ dI d' 9 16 = 0 ∧ dI d' 9 2 = 0 ∧ dI d' 9 4 = 2) := by
  unfold fX0_clear
  refine pc_gd (fun _ => pc_bd (fun d2 e2 => pc_bd (fun d3 e3 => pc_bd (fun d4 e4 => pc_bd (fun d5 e5 => pc_bd (fun d6 e6 => pc_bd (fun d7 e7 => pc_bd (fun d8 e8 => pc_bd (fun d9 e9 => pc_bd (fun d10 e10 => pc_bd (fun d11 e11 => ?_)))))))))))
  have q11 : QF d d11 := (((((((((QF.rf.i e2 (by decide)).i e3 (by decide)).i e4 (by decide)).i e5 (by decide)).i e6 (by decide)).i e7 (by decide)).i e8 (by decide)).i e9 (by decide)).i e10 (by decide)).i e11 (by decide)
  have v2 : dI d11 9 2 = 0 := by rw [rdq e11 (Or.inr (by decide)), rdq e10 (Or.inr (by decide)), rdq e9 (Or.inr (by decide)), rdq e8 (Or.inr (by decide)), rdq e7 (Or.inr (by decide)), rdq e6 (Or.inr (by decide)), rdq e5 (Or.inr (by decide)), e4, sI_rd, if_pos ⟨rfl, rfl⟩]
  have v4 : dI d11 9 4 = 2 := by rw [rdq e11 (Or.inr (by decide)), rdq e10 (Or.inr (by decide)), rdq e9 (Or.inr (by decide)), rdq e8 (Or.inr (by decide)), rdq e7 (Or.inr (by decide)), e6, sI_rd, if_pos ⟨rfl, rfl⟩]
  unfold fX0_clear_L55
  refine pc_lp (fun a => QF d a.2 ∧ DRF d11 a.2) ?_ 10000 (0, d11) ⟨q11, DRF.rf⟩
  rintro K ⟨y1, dd⟩ ⟨hq, hf⟩ hK
  dsimp only at hq hf hK ⊢
  unfold fX0_clear_B55
  refine pc_gd (fun _ => pc_ob (fun r13 _ => pc_gd (fun _ => pc_if (fun _ => pc_bd (fun d16 e16 => pc_bd (fun d17 e17 => pc_some ⟨(hq.i e16 (by decide)).i e17 (by decide), ?_, ?_, ?_, ?_⟩))) (fun _ => pc_gd (fun _ => pc_ob (fun r19 _ => ?_))))))
  · rw [rdq e17 (Or.inr (by decide)), e16, sI_rd, if_pos ⟨rfl, rfl⟩]
  · rw [e17, sI_rd, if_pos ⟨rfl, rfl⟩]
  · rw [rdq e17 (Or.inr (by decide)), rdq e16 (Or.inr (by decide)), hf.1 2 (by decide)]
    exact v2
  · rw [rdq e17 (Or.inr (by decide)), rdq e16 (Or.inr (by decide)), hf.1 4 (by decide)]
    exact v4
  · have j81 : ∀ {v : Int32}, pc (fX0_clear_J81 10000 g 9 K y1 v r19 dd) (fun _ d' => QF d d' ∧ dI d' 9 12 = 0 ∧ dI d' 9 16 = 0 ∧ dI d' 9 2 = 0 ∧ dI d' 9 4 = 2) := by
      intro v
      unfold fX0_clear_J81
      exact pc_gd (fun hc => pc_cv (tell_q hS hc) (fun d22 r => pc_bd (fun u24 _ => hK _ ⟨hq.tr r.1, hf.tr r.2⟩)))
    exact pc_if (fun _ => j81) (fun _ => j81)
theorem readTape_e {g : Gs} (hS : Shp g) {x2 : Int32} {n : Nat} {t : Nat → Int32} (ht : t = fun j => dI d 1 j) (hx : x2.toInt = (n : Int)) (h2 : n ≤ 2000) : pc (fX7_readTape 10000 g 2 1 x2 d) (fun u d' => ∃ i, stp2 (KS t n) (sx (KS t n) i) ∧ u = (vd (KS t n) (VS t n) i).1 ∧ dI d' 2 5 = u ∧ (u = 0 → dI d' 2 7 = -1) ∧ (¬ u = 0 → (dI d' 2 7).toInt = ((ps t n (vd (KS t n) (VS t n) i).2 : Nat) : Int)) ∧ (u = 0 → DR (VS t n) d' (sx (KS t n) i).2.1 (sx (KS t n) i).2.2 (sm (KS t n) (VS t n) i).2)) := by
  have e0 : (0 : Int32).toInt = 0 := by decide
  have e1 : (1 : Int32).toInt = 1 := by decide
  have e400 : (400 : Int32).toInt = 400 := by decide
  unfold fX7_readTape
  refine pc_gd (fun _ => pc_ob (fun r e => ?_))
  have := gq hS (e := 3) (by decide +kernel) e
  subst this
  refine pc_gd (fun _ => pc_cv (cut_e hS hx h2) (fun d4 hC => pc_ob (fun r e => ?_)))
  have := gq hS (e := 9) (by decide +kernel) e
  subst this
  rw [← ht] at hC
  refine pc_gd (fun _ => pc_cv (clear_e hS) (fun d8 r => ?_))
  obtain ⟨q8, h12, h16, h2, h4⟩ := r
  refine pc_bd (fun d10 e10 => pc_bd (fun d11 e11 => pc_bd (fun d12 e12 => ?_)))
  have s12 : SF d8 d12 := ((SF.rf.i e10 (by omega)).i e11 (by omega)).i e12 (by omega)
  have C12 : CT t n d12 := (hC.tf q8.2).tf s12.tf
  have x12 : XC d12 (0, 0) := by
    refine ⟨?_, ?_, Nat.zero_le _, fun z => absurd rfl z⟩
    · rw [rdq e12 (Or.inr (by decide)), rdq e11 (Or.inr (by decide)), e10, sI_rd, if_pos ⟨rfl, rfl⟩]
      rfl
    · rw [rdq e12 (Or.inr (by decide)), e11, sI_rd, if_pos ⟨rfl, rfl⟩]
  have w12 : NT d12 (0, 0) := ⟨by rw [e12, sI_rd, if_pos ⟨rfl, rfl⟩], fun z => absurd rfl z⟩
  have k12 : dI d12 9 12 = 0 := by rw [s12.1 9 12 (by omega)]; exact h12
  have k16 : dI d12 9 16 = 0 := by rw [s12.1 9 16 (by omega)]; exact h16
  have k2 : dI d12 9 2 = ck0 100 := by rw [s12.1 9 2 (by omega)]; exact h2
  have k4 : dI d12 9 4 = ck0 101 := by rw [s12.1 9 4 (by omega)]; exact h4
  refine pc_cb (takeBoard_e (ck := ck0) hS C12 x12 w12 k12 k16 k2 k4) (fun u15 d13 r => ?_)
  have j76 : ∀ {dd : Ds} {i : Nat} {y3 : Int32}, CQ d12 (fun d' => DR (VS t n) d' (sx (KS t n) i).2.1 (sx (KS t n) i).2.2 (sm (KS t n) (VS t n) i).2) dd y3 (sx (KS t n) i).1 (sm (KS t n) (VS t n) i).1 → stp2 (KS t n) (sx (KS t n) i) → pc (fX7_readTape_J76 10000 g 2 1 x2 dd) (fun u d' => ∃ i, stp2 (KS t n) (sx (KS t n) i) ∧ u = (vd (KS t n) (VS t n) i).1 ∧ dI d' 2 5 = u ∧ (u = 0 → dI d' 2 7 = -1) ∧ (¬ u = 0 → (dI d' 2 7).toInt = ((ps t n (vd (KS t n) (VS t n) i).2 : Nat) : Int)) ∧ (u = 0 → DR (VS t n) d' (sx (KS t n) i).2.1 (sx (KS t n) i).2.2 (sm (KS t n) (VS t n) i).2)) := by
    intro dd i y3 r hs
    obtain ⟨hX, hT, hu⟩ := r
    have j99 : ∀ {de : Ds}, CT t n de → dI de 2 5 = (vd (KS t n) (VS t n) i).1 → (¬ (vd (KS t n) (VS t n) i).1 = 0 → (dI de 2 6).toInt = ((vd (KS t n) (VS t n) i).2 : Int) ∧ (vd (KS t n) (VS t n) i).2 ≤ 400) → ((vd (KS t n) (VS t n) i).1 = 0 → DR (VS t n) de (sx (KS t n) i).2.1 (sx (KS t n) i).2.2 (sm (KS t n) (VS t n) i).2) → pc (fX7_readTape_J99 10000 g 2 1 x2 de) (fun u d' => ∃ i, stp2 (KS t n) (sx (KS t n) i) ∧ u = (vd (KS t n) (VS t n) i).1 ∧ dI d' 2 5 = u ∧ (u = 0 → dI d' 2 7 = -1) ∧ (¬ u = 0 → (dI d' 2 7).toInt = ((ps t n (vd (KS t n) (VS t n) i).2 : Nat) : Int)) ∧ (u = 0 → DR (VS t n) d' (sx (KS t n) i).2.1 (sx (KS t n) i).2.2 (sm (KS t n) (VS t n) i).2)) := by
      intro de hCe h5 h6 hDe
      unfold fX7_readTape_J99
      refine pc_gd (fun _ => pc_if (fun q => ?_) (fun q => pc_ob (fun r e => ?_)))
      · unfold fX7_readTape_J122
        refine pc_gd (fun _ => pc_bd (fun d27 e27 => pc_gd (fun _ => pc_some ⟨i, hs, ?_, rfl, fun _ => ?_, fun z => ?_, fun z => (hDe (h5.symm.trans q)).f (DRF.rf.i e27 (by omega))⟩)))
        · rw [rdq e27 (Or.inr (by decide))]
          exact h5
        · rw [e27, sI_rd, if_pos ⟨rfl, rfl⟩]
        · rw [rdq e27 (Or.inr (by decide))] at z
          exact absurd q z
      · have := gq hS (e := 3) (by decide +kernel) e
        subst this
        have nz : ¬ (vd (KS t n) (VS t n) i).1 = 0 := fun z => q (h5.trans z)
        obtain ⟨h6, h4⟩ := h6 nz
        refine pc_gd (fun _ => pc_cb (placeAt_e hS hCe h6 h4) (fun u25 d23 r => ?_))
        obtain ⟨e, hu⟩ := r
        subst e
        unfold fX7_readTape_J122
        refine pc_gd (fun _ => pc_bd (fun d27 e27 => pc_gd (fun _ => pc_some ⟨i, hs, ?_, rfl, fun z => ?_, fun _ => ?_, fun z => ?_⟩)))
        · rw [rdq e27 (Or.inr (by decide))]
          exact h5
        · rw [rdq e27 (Or.inr (by decide))] at z
          exact absurd z q
        · rw [e27, sI_rd, if_pos ⟨rfl, rfl⟩]
          exact hu
        · rw [rdq e27 (Or.inr (by decide))] at z
          exact absurd z q
    unfold fX7_readTape_J76
    refine pc_gd (fun _ => pc_if (fun q => ?_) (fun q => ?_))
    · have q0 : (sx (KS t n) i).1.2 = 0 := hX.2.1.symm.trans q
      have ev : vd (KS t n) (VS t n) i = (sm (KS t n) (VS t n) i).1 := if_pos q0
      have hN : NT dd (sm (KS t n) (VS t n) i).1 ∧ DR (VS t n) dd (sx (KS t n) i).2.1 (sx (KS t n) i).2.2 (sm (KS t n) (VS t n) i).2 := by
        rcases hu with ⟨_, _, h, h'⟩ | ⟨_, h⟩
        · exact ⟨h, h'⟩
        · exact absurd q0 h
      obtain ⟨hN, hDD⟩ := hN
      refine pc_bd (fun d29 e29 => pc_bd (fun d30 e30 => ?_))
      have sf : SF dd d30 := (SF.rf.i e29 (by omega)).i e30 (by omega)
      refine j99 ((C12.tf hT).tf sf.tf) ?_ (fun z => ?_) (fun _ => hDD.f sf.drf)
      · rw [rdq e30 (Or.inr (by decide)), e29, sI_rd, if_pos ⟨rfl, rfl⟩, ev]
        exact hN.1
      · rw [ev] at z ⊢
        have := hN.2 z
        rw [e30, sI_rd, if_pos ⟨rfl, rfl⟩, rdq e29 (Or.inr (by decide))]
        exact this
    · have q0 : ¬ (sx (KS t n) i).1.2 = 0 := fun z => q (hX.2.1.trans z)
      have ev : vd (KS t n) (VS t n) i = ((sx (KS t n) i).1.2, (sx (KS t n) i).1.1) := if_neg q0
      refine j99 (C12.tf hT) (by rw [ev]; exact hX.2.1) (fun _ => ?_) (fun z => absurd (show (sx (KS t n) i).1.2 = 0 by rw [ev] at z; exact z) q0)
      rw [ev]
      exact ⟨hX.2.2.2 q0, hX.2.2.1⟩
  unfold fX7_readTape_L39
  refine pc_lp (fun (a : Int32 × Int32 × Ds) => ∃ i : Nat, i ≤ 401 ∧ a.2.1.toInt = (i : Int) ∧ CQ d12 (fun d' => DR (VS t n) d' (sx (KS t n) i).2.1 (sx (KS t n) i).2.2 (sm (KS t n) (VS t n) i).2) a.2.2 a.1 (sx (KS t n) i).1 (sm (KS t n) (VS t n) i).1 ∧ ((sx (KS t n) i).1.2 = 0 → i ≤ (sx (KS t n) i).1.1)) ?_ 10000 (u15, 0, d13) ⟨0, by decide, (by decide : (0 : Int32).toInt = ((0 : Nat) : Int)), r, fun _ => Nat.zero_le _⟩
  rintro K ⟨y3, y4, dd⟩ ⟨i, hi, hy4, hQ, hge⟩ hK
  dsimp only at hy4 hQ hK ⊢
  unfold fX7_readTape_B39
  have hQ' := hQ
  obtain ⟨hX, hT, hu⟩ := hQ
  refine pc_if (fun q => ?_) (fun q4 => pc_if (fun q => ?_) (fun q3 => ?_))
  · have q2 := Int32.lt_iff_toInt_lt.mp q
    refine j76 (i := i) hQ' (fun z => ?_)
    have := hge z.1
    have := hX.2.2.1
    omega
  · refine j76 (i := i) hQ' (fun z => ?_)
    rcases hu with ⟨hu, _⟩ | ⟨_, hu⟩
    · exact absurd (q.symm.trans hu) (by decide)
    · exact hu z.1
  · have q42 := Int32.le_iff_toInt_le.mp (nlt q4)
    rcases hu with ⟨hu, y0, hw, hD⟩ | ⟨hu, _⟩
    · refine pc_gd (fun _ => pc_ob (fun r e => ?_))
      have := gq hS (e := 3) (by decide +kernel) e
      subst this
      have CC := C12.tf hT
      refine pc_gd (fun _ => pc_cb (kindAt_e hS CC hX.1 hX.2.2.1) (fun u37 d35 r => ?_))
      obtain ⟨e, hk⟩ := r
      subst e
      refine pc_if (fun q => ?_) (fun q => ?_)
      · exact j76 (i := i) hQ' (fun z => z.2 (hk.2.2.1.mp q))
      · have k0 : ¬ KS t n (sx (KS t n) i).1.1 = 0 := fun z => q (hk.2.2.1.mpr z)
        have eX : (sx (KS t n) i).1 = ((sx (KS t n) i).1.1, 0) := Prod.ext rfl y0
        have X2 : XC d35 ((sx (KS t n) i).1.1, 0) := by rw [← eX]; exact hX
        obtain ⟨c4, m4⟩ := sx_c i y0
        refine pc_cb (takeLine_e hS c4 m4 CC X2 hw hD) (fun u41 d39 r => pc_bd (fun u42 e42 => ?_))
        have ex : sx (KS t n) (i + 1) = (tS (KS t n) (sx (KS t n) i).2.1 (sx (KS t n) i).2.2 (sx (KS t n) i).1.1, (sx (KS t n) i).2.1 + (if KS t n (sx (KS t n) i).1.1 = 29 then 1 else 0), (sx (KS t n) i).2.2 + (if KS t n (sx (KS t n) i).1.1 = 30 then 1 else 0)) := if_pos ⟨y0, k0⟩
        have em : sm (KS t n) (VS t n) (i + 1) = (lNt (KS t n) (VS t n) (sx (KS t n) i).2.1 (sm (KS t n) (VS t n) i).2 (sx (KS t n) i).1.1 (sm (KS t n) (VS t n) i).1, ckN (KS t n) (VS t n) (sx (KS t n) i).1.1 (sx (KS t n) i).2.1 (sx (KS t n) i).2.2 (sm (KS t n) (VS t n) i).2) := if_pos ⟨y0, k0⟩
        refine hK _ ⟨i + 1, by omega, ?_, ?_, fun z => ?_⟩
        · dsimp only
          rw [e42, z_add hy4 e1 (by omega) (by omega)]
          omega
        · rw [ex, em]
          exact ⟨r.1, hT.tr r.2.1, r.2.2⟩
        · rw [ex] at z ⊢
          have := (tS_gt z).1
          have := hge y0
          dsimp only
          omega
    · exact absurd hu q3
end RT
