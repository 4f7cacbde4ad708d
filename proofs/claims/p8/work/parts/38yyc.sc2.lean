/-! what both hold of the scan -/
def rwN (f : Nat → Int32) : Nat := (f 0).toInt.toNat
def clN (f : Nat → Int32) : Nat := (f 1).toInt.toNat
def SEE (f : Nat → Int32) : Int32 := if f 2 = 1 then f 352 else seF (rwN f) (clN f) (f 352) (rwN f * clN f) (rwN f * clN f)
def BAR (f : Nat → Int32) : Int32 := if f 2 = 1 then 0 else baF (rwN f) (clN f) (SEE f) (rwN f * clN f)
theorem SEE_cg {f f' : Nat → Int32} (h : ∀ j, j < 555 → f' j = f j) : SEE f' = SEE f := by
  unfold SEE rwN clN
  rw [h 0 (by decide), h 1 (by decide), h 2 (by decide), h 352 (by decide)]
theorem BAR_cg {f f' : Nat → Int32} (h : ∀ j, j < 555 → f' j = f j) : BAR f' = BAR f := by
  unfold BAR
  rw [SEE_cg h]
  unfold rwN clN
  rw [h 0 (by decide), h 1 (by decide), h 2 (by decide)]
theorem SEE_c4 {f f' : Nat → Int32} (h0 : f' 0 = f 0) (h1 : f' 1 = f 1) (h2 : f' 2 = f 2) (h3 : f' 352 = f 352) : SEE f' = SEE f := by
  unfold SEE rwN clN
  rw [h0, h1, h2, h3]
theorem BAR_c4 {f f' : Nat → Int32} (h0 : f' 0 = f 0) (h1 : f' 1 = f 1) (h2 : f' 2 = f 2) (h3 : f' 352 = f 352) : BAR f' = BAR f := by
  unfold BAR
  rw [SEE_c4 h0 h1 h2 h3]
  unfold rwN clN
  rw [h0, h1, h2]
theorem SEE_rc {f : Nat → Int32} {r c : Nat} (hr : rwN f = r) (hc : clN f = c) : SEE f = if f 2 = 1 then f 352 else seF r c (f 352) (r * c) (r * c) := by
  unfold SEE
  rw [hr, hc]
theorem BAR_rc {f : Nat → Int32} {r c : Nat} (hr : rwN f = r) (hc : clN f = c) : BAR f = if f 2 = 1 then 0 else baF r c (SEE f) (r * c) := by
  unfold BAR
  rw [hr, hc]
/-- the course c of the class, and a row of the model's with its floats -/
def SQf (d : Ds) (c : Nat) (f : Nat → Int32) (st : Nat → UInt32) : Prop := dI d c 5 = f 354 ∧ dI d (c + 1) 3 = f 353 ∧ dI d (c + 1) 1 = SEE f ∧ dI d (c + 1) 2 = BAR f ∧ (∀ k, k < 24 → dI d (c + 2) k = f (355 + k) ∧ dF d (c + 3) k = st k ∧ dI d (c + 4) k = f (459 + k) ∧ dI d (c + 5) k = f (483 + k) ∧ dI d (c + 6) k = f (507 + k)) ∧ (∀ k, k < rwN f * clN f → 0 ≤ (f (355 + k)).toInt ∧ (f (355 + k)).toInt < (f 4).toInt) ∧ (∀ k, k < 24 → bN (f 353) k = true → f (531 + k) = f (507 + k)) ∧ ∀ k, k < 24 → SteOk (st k)
theorem BQf.n24 {f : Nat → Int32} {d : Ds} (h : BQf f d) : rwN f * clN f ≤ 24 := by
  obtain ⟨r, c, hR, hr, hc, _, _⟩ := bq_rc h
  unfold rwN clN
  rw [hr, hc]
  exact hR.n.1
theorem SQf.cg {d d' : Ds} {c c' : Nat} {f f' : Nat → Int32} {st st' : Nat → UInt32} (h : SQf d c f st) (h5 : dI d' c' 5 = dI d c 5) (h1 : ∀ j, j < 4 → ¬ j = 0 → dI d' (c' + 1) j = dI d (c + 1) j) (hk : ∀ k, k < 24 → dI d' (c' + 2) k = dI d (c + 2) k ∧ dF d' (c' + 3) k = dF d (c + 3) k ∧ dI d' (c' + 4) k = dI d (c + 4) k ∧ dI d' (c' + 5) k = dI d (c + 5) k ∧ dI d' (c' + 6) k = dI d (c + 6) k) (hf : ∀ j, j < 555 → f' j = f j) (hs : ∀ k, k < 24 → st' k = st k) (hn : rwN f * clN f ≤ 24) : SQf d' c' f' st' := by
  obtain ⟨p1, p2, p3, p4, p5, p6, p7, p8⟩ := h
  refine ⟨?_, ?_, ?_, ?_, fun k hk' => ?_, fun k hk' => ?_, fun k hk' => ?_, fun k hk' => ?_⟩
  · rw [h5, p1, hf 354 (by decide)]
  · rw [h1 3 (by decide) (by decide), p2, hf 353 (by decide)]
  · rw [h1 1 (by decide) (by decide), p3, SEE_cg hf]
  · rw [h1 2 (by decide) (by decide), p4, BAR_cg hf]
  · obtain ⟨q1, q2, q3, q4, q5⟩ := hk k hk'
    obtain ⟨s1, s2, s3, s4, s5⟩ := p5 k hk'
    rw [q1, q2, q3, q4, q5, hf (355 + k) (by omega), hf (459 + k) (by omega), hf (483 + k) (by omega), hf (507 + k) (by omega), hs k hk']
    exact ⟨s1, s2, s3, s4, s5⟩
  · have e : rwN f' * clN f' = rwN f * clN f := by
      unfold rwN clN
      rw [hf 0 (by decide), hf 1 (by decide)]
    rw [e] at hk'
    rw [hf (355 + k) (by omega), hf 4 (by decide)]
    exact p6 k hk'
  · rw [hf 353 (by decide), hf (531 + k) (by omega), hf (507 + k) (by omega)]
    exact p7 k hk'
  · rw [hs k hk']
    exact p8 k hk'
theorem SQf.cy {d d' : Ds} {c c' : Nat} {f f' : Nat → Int32} {st st' : Nat → UInt32} (h : SQf d c f st) (hS : SCC d c d' c') (hf : ∀ j, j < 555 → f' j = f j) (hs : ∀ k, k < 24 → st' k = st k) (hn : rwN f * clN f ≤ 24) : SQf d' c' f' st' := h.cg hS.1 (fun j hj _ => hS.2.1 j hj) hS.2.2 hf hs hn
def SQ (d : Ds) : Prop := SQf d 227 (fun j => dI d 336 j) (fun k => dF d 338 k) ∧ ∀ s, s < 3 → ¬ dI d 346 s = 0 → SQf d (268 + 20 * s) (fun j => dI d 344 (9178 * s + j)) (fun k => dF d 345 (24 * s + k))
/-- cells that the relation reads -/
def scR (r : Nat) : Prop := 227 ≤ r ∧ r ≤ 233 ∨ 267 ≤ r ∧ r ≤ 327 ∨ r = 336 ∨ r = 338 ∨ r = 344 ∨ r = 345 ∨ r = 346
theorem SQf.id {d d' : Ds} {c : Nat} {f f' : Nat → Int32} {st st' : Nat → UInt32} (h : SQf d c f st) (hI : ∀ r j, c ≤ r ∧ r ≤ c + 6 → dI d' r j = dI d r j) (hF : ∀ r j, c ≤ r ∧ r ≤ c + 6 → dF d' r j = dF d r j) (hf : ∀ j, j < 555 → f' j = f j) (hs : ∀ k, k < 24 → st' k = st k) (hn : rwN f * clN f ≤ 24) : SQf d' c f' st' :=
  h.cg (hI c 5 (by omega)) (fun j _ _ => hI _ j (by omega)) (fun k _ => ⟨hI _ k (by omega), hF _ k (by omega), hI _ k (by omega), hI _ k (by omega), hI _ k (by omega)⟩) hf hs hn
/-- a held board has as many keys -/
theorem hn_s {d : Ds} (h : RR d) {s : Nat} (hs : s < 3) (z : ¬ dI d 346 s = 0) : rwN (fun j => dI d 344 (9178 * s + j)) * clN (fun j => dI d 344 (9178 * s + j)) ≤ 24 := by
  have e : rwN (fun j => dI d 344 (9178 * s + j)) * clN (fun j => dI d 344 (9178 * s + j)) = rwN (fun j => dI d 336 j) * clN (fun j => dI d 336 j) := by
    unfold rwN clN
    dsimp only
    rw [h.2.2.2.2.2.1 s hs z 0 (by decide), h.2.2.2.2.2.1 s hs z 1 (by decide)]
  rw [e]
  exact h.2.2.2.2.1.n24
theorem sq_same {d d' : Ds} (hR : RR d) (h : SQ d) (hI : ∀ r j, scR r → dI d' r j = dI d r j) (hF : ∀ r j, scR r → dF d' r j = dF d r j) : SQ d' := by
  unfold scR at hI hF
  refine ⟨h.1.id (fun r j q => hI r j (by omega)) (fun r j q => hF r j (by omega)) (fun j _ => hI 336 j (by omega)) (fun k _ => hF 338 k (by omega)) hR.2.2.2.2.1.n24, fun s hs z => ?_⟩
  rw [hI 346 s (by omega)] at z
  exact (h.2 s hs z).id (fun r j q => hI r j (by omega)) (fun r j q => hF r j (by omega)) (fun j _ => hI 344 _ (by omega)) (fun k _ => hF 345 _ (by omega)) (hn_s hR hs z)
theorem sq_P {d d' : Ds} (hR : RR d) (h : SQ d) (k : FQP d d') : SQ d' := sq_same hR h (fun r j q => k.1 r j (by unfold scR at q; unfold fp_P; simp only [Bool.not_eq_false', Bool.or_eq_true, Bool.and_eq_true, decide_eq_true_eq, beq_iff_eq]; omega)) (fun r j q => k.2 r j (by unfold scR at q; unfold fp_P; simp only [Bool.not_eq_false', Bool.or_eq_true, Bool.and_eq_true, decide_eq_true_eq, beq_iff_eq]; omega))
/-! many ticks -/
def tkCount (n : Nat) (x : Int32) : Nat := if 1 ≤ x.toInt ∧ x.toInt ≤ 50 ∧ ¬ n = 0 then x.toInt.toNat else 0
def tkM (n : Nat) (bo se ba : Int32) (a : SA) : Nat → SA
  | 0 => a
  | m + 1 => tkS n bo se ba (tkM n bo se ba a m)
theorem tkM_ps {n k : Nat} {bo se ba : Int32} {a : SA} (h : SteOk (a.2.2.2.2.2.2 k)) : ∀ m, SteOk ((tkM n bo se ba a m).2.2.2.2.2.2 k) := by
  intro m
  induction m with
  | zero => exact h
  | succ m ih =>
    show SteOk (if k < n then stS (bN se k) ((tkM n bo se ba a m).2.2.2.2.2.2 k) else (tkM n bo se ba a m).2.2.2.2.2.2 k)
    split
    · exact PS_st ih
    · exact ih
section TCK
variable {d : Ds} {x1 : Int32} {n : Nat}
theorem tickC_z {g : Gs} (hS : Shp g) {a : SA} {bo se ba : Int32} (hm : (dI d 117 0 * dI d 117 1).toInt = (n : Int)) (hn : n ≤ 24) (hbo : dI d 117 4 = bo) (hse : dI d 228 1 = se) (hba : dI d 228 2 = ba) (hA : AGC d a) : pc (fX11_tick 10000 g 0 x1 d) (fun _ d' => AGC d' (tkM n bo se ba a (tkCount n x1)) ∧ (∀ r j, ¬ (227 ≤ r ∧ r ≤ 246) → dI d' r j = dI d r j) ∧ (∀ r j, ¬ r = 230 → ¬ (234 ≤ r ∧ r ≤ 246) → dF d' r j = dF d r j) ∧ ∀ j, ¬ j = 3 → dI d' 228 j = dI d 228 j) := by
  have e1 : (1 : Int32).toInt = 1 := by decide
  have e0 : (0 : Int32).toInt = 0 := by decide
  have e50 : (50 : Int32).toInt = 50 := by decide
  have no : ¬ (1 ≤ x1.toInt ∧ x1.toInt ≤ 50 ∧ ¬ n = 0) → pc (fX11_tick_J21 10000 g 0 x1 d) (fun _ d' => AGC d' (tkM n bo se ba a (tkCount n x1)) ∧ (∀ r j, ¬ (227 ≤ r ∧ r ≤ 246) → dI d' r j = dI d r j) ∧ (∀ r j, ¬ r = 230 → ¬ (234 ≤ r ∧ r ≤ 246) → dF d' r j = dF d r j) ∧ ∀ j, ¬ j = 3 → dI d' 228 j = dI d 228 j) := by
    intro h
    have e : tkCount n x1 = 0 := if_neg h
    rw [e]
    unfold fX11_tick_J21
    exact pc_some ⟨hA, fun _ _ _ => rfl, fun _ _ _ _ => rfl, fun _ _ => rfl⟩
  unfold fX11_tick
  refine pc_if (fun c => no ?_) (fun c1 => pc_if (fun c => no ?_) (fun c2 => pc_gd (fun _ => pc_ob (fun r e => ?_))))
  · have := Int32.lt_iff_toInt_lt.mp c
    omega
  · have := Int32.lt_iff_toInt_lt.mp c
    omega
  have := gq hS (e := 117) (by decide +kernel) e
  subst this
  refine pc_gd (fun _ => pc_cb keys_y (fun u8 d6 r => ?_))
  obtain ⟨e, hu⟩ := r
  subst e
  have l1 := Int32.le_iff_toInt_le.mp (nlt c1)
  have l2 := Int32.le_iff_toInt_le.mp (nlt c2)
  refine pc_if (fun c => no (fun z => z.2.2 ?_)) (fun c3 => pc_ob (fun r e => ?_))
  · rw [hu] at c
    rw [c, e0] at hm
    omega
  have := gq hS (e := 227) (by decide +kernel) e
  subst this
  have n0 : ¬ n = 0 := by
    intro z
    subst z
    exact c3 (Int32.toInt_inj.mp (by rw [hu, hm, e0]; rfl))
  have eT : tkCount n x1 = x1.toInt.toNat := if_pos ⟨by omega, by omega, n0⟩
  rw [eT]
  refine pc_gd (fun _ => pc_ob (fun r12 _ => pc_gd (fun _ => pc_bd (fun u14 _ => ?_))))
  unfold fX11_tick_L36
  refine pc_lp (fun (w : Int32 × Int32 × Ds) => ∃ i : Nat, (i : Int) ≤ x1.toInt ∧ w.2.1.toInt = (i : Int) ∧ AGC w.2.2 (tkM n bo se ba a i) ∧ (∀ r j, ¬ (227 ≤ r ∧ r ≤ 246) → dI w.2.2 r j = dI d6 r j) ∧ (∀ r j, ¬ r = 230 → ¬ (234 ≤ r ∧ r ≤ 246) → dF w.2.2 r j = dF d6 r j) ∧ ∀ j, ¬ j = 3 → dI w.2.2 228 j = dI d6 228 j) ?_ 10000 (u14, 0, d6) ⟨0, by omega, (by decide : (0 : Int32).toInt = ((0 : Nat) : Int)), hA, fun _ _ _ => rfl, fun _ _ _ _ => rfl, fun _ _ => rfl⟩
  rintro K ⟨y2, y3, dd⟩ ⟨i, hi, hy, hA, hf, hF, h28⟩ hK
  dsimp only at hy hA hf hF h28 hK ⊢
  unfold fX11_tick_B36
  refine pc_if (fun c => ?_) (fun c => ?_)
  · have := Int32.le_iff_toInt_le.mp c
    have ei : x1.toInt.toNat = i := by omega
    rw [ei]
    exact pc_gd (fun _ => pc_ob (fun _ _ => pc_gd (fun _ => pc_ob (fun _ _ => pc_gd (fun _ => pc_some ⟨hA, hf, hF, h28⟩)))))
  · have := Int32.lt_iff_toInt_lt.mp (nle c)
    refine pc_gd (fun _ => pc_ob (fun r e => ?_))
    have := gq hS (e := 227) (by decide +kernel) e
    subst this
    refine pc_gd (fun _ => pc_cv (passTick_z hS (n := n) (bo := bo) (se := se) (ba := ba) (by rw [hf 117 0 (by decide), hf 117 1 (by decide)]; exact hm) hn (by rw [hf 117 4 (by decide)]; exact hbo) (by rw [h28 1 (by decide)]; exact hse) (by rw [h28 2 (by decide)]; exact hba) hA) (fun d24 r => pc_bd (fun u e => hK _ ⟨i + 1, by omega, ?_, r.1, fun r' j h => (r.2.1 r' j h).trans (hf r' j h), fun r' j h h' => (r.2.2.1 r' j h h').trans (hF r' j h h'), fun j h => (r.2.2.2 j h).trans (h28 j h)⟩)))
    dsimp only
    rw [e, z_add hy e1 (by omega) (by omega)]
    omega
theorem tickM_z {g : Gs} (hS : Shp g) {b B : Nat → Int} {a : SA} {bo se ba : Int32} {r c : Nat} (hlb : LeB b B 336 2125050) (hW : RWf (rw_ d)) (hB : Bnd b d) (hRC : RC r c) (hr : (dI d 336 0).toInt = (r : Int)) (hc : (dI d 336 1).toInt = (c : Int)) (hbo : dI d 336 4 = bo) (hb9 : bo.toInt ≤ 9) (hse : se = if dI d 336 2 = 1 then dI d 336 352 else seF r c (dI d 336 352) (r * c) (r * c)) (hba : ba = if dI d 336 2 = 1 then 0 else baF r c se (r * c)) (hA : AGM d a) (hU : UNL (r * c) bo d) (hD : DAT d) : pc (fX12_tick 10000 g 328 x1 d) (fun _ d' => AGM d' (tkM (r * c) bo se ba a (tkCount (r * c) x1)) ∧ UNL (r * c) bo d' ∧ DAT d') := by
  have hx0 : cls 328 = 11 := by decide +kernel
  have e1 : (1 : Int32).toInt = 1 := by decide
  have e0 : (0 : Int32).toInt = 0 := by decide
  have e50 : (50 : Int32).toInt = 50 := by decide
  have hmul := mul_rc hRC hr hc
  have hI : Inv m_sX12_tick__11 b d d := Inv.rf hB
  have no : ¬ (1 ≤ x1.toInt ∧ x1.toInt ≤ 50 ∧ ¬ r * c = 0) → pc (fX12_tick_J17 10000 g 328 x1 d) (fun _ d' => AGM d' (tkM (r * c) bo se ba a (tkCount (r * c) x1)) ∧ UNL (r * c) bo d' ∧ DAT d') := by
    intro h
    have e : tkCount (r * c) x1 = 0 := if_neg h
    rw [e]
    unfold fX12_tick_J17
    exact pc_some ⟨hA, hU, hD⟩
  unfold fX12_tick
  refine pc_cb inM_y (fun u3 d1 r' => ?_)
  obtain ⟨e, hu⟩ := r'
  subst e
  rw [e1, e50] at hu
  rcases hu with ⟨hu, h⟩ | ⟨hu, l1, l2⟩ <;> rw [hu]
  · exact pc_if (fun _ => no (fun z => h ⟨z.1, z.2.1⟩)) (fun z => absurd rfl z)
  · refine pc_if (fun z => absurd z (by decide)) (fun _ => pc_gd (fun _ => pc_cb (manyM_y hS) (fun u8 d6 r' => ?_)))
    obtain ⟨e, hu8⟩ := r'
    subst e
    refine pc_if (fun z => no (fun w => w.2.2 ?_)) (fun c8 => ?_)
    · rw [hu8] at z
      rw [z, e0] at hmul
      omega
    have n0 : ¬ r * c = 0 := by
      intro z
      exact c8 (Int32.toInt_inj.mp (by rw [hu8, hmul, z, e0]; rfl))
    have eT : tkCount (r * c) x1 = x1.toInt.toNat := if_pos ⟨l1, l2, n0⟩
    have hR : 1 ≤ (dI d6 336 9).toInt := by
      rcases hW.2.2 with z | z
      · exfalso
        have z2 : (dI d6 336 0).toInt * (dI d6 336 1).toInt = 0 := z
        apply c8
        apply Int32.toInt_inj.mp
        rw [hu8, Int32.toInt_mul, z2]
        decide
      · exact z
    rw [eT]
    refine pc_ob (fun r' e => pc_gd (fun _ => pc_gd (fun _ => pc_bd (fun u13 _ => ?_))))
    unfold fX12_tick_L30
    refine pc_lp (fun (w : Int32 × Int32 × Ds) => ∃ i : Nat, (i : Int) ≤ x1.toInt ∧ w.2.1.toInt = (i : Int) ∧ AGM w.2.2 (tkM (r * c) bo se ba a i) ∧ UNL (r * c) bo w.2.2 ∧ DAT w.2.2 ∧ RWf (rw_ w.2.2) ∧ 1 ≤ (dI w.2.2 336 9).toInt ∧ (∀ j, j < 353 → dI w.2.2 336 j = dI d6 336 j) ∧ ∃ b1, Inv m_sX12_tick__11 b1 d6 w.2.2 ∧ LeB b1 B 336 (42501 * (50 - (i : Int)))) ?_ 10000 (u13, 0, d6) ⟨0, by omega, (by decide : (0 : Int32).toInt = ((0 : Nat) : Int)), hA, hU, hD, hW, hR, fun _ _ => rfl, b, hI, hlb.w (by decide)⟩
    rintro K ⟨y2, y3, dd⟩ ⟨i, hi, hy, hA, hU, hD, hW, hR, hlo, b1, hI, hl⟩ hK
    dsimp only at hy hA hU hD hW hR hlo hI hl hK ⊢
    unfold fX12_tick_B30
    refine pc_if (fun c => ?_) (fun c => ?_)
    · have := Int32.le_iff_toInt_le.mp c
      have ei : x1.toInt.toNat = i := by omega
      rw [ei]
      exact pc_gd (fun _ => pc_ob (fun _ _ => pc_gd (fun _ => pc_gd (fun _ => pc_some ⟨hA, hU, hD⟩))))
    · have c2 := Int32.lt_iff_toInt_lt.mp (nle c)
      refine pc_gd (fun _ => pc_cv (pc_and (pc_of_ok (sX12_ticks_w hS hx0 (hl.use (k' := 42501) ⟨by decide, by omega⟩) hR hW hI.1)) (ticks_z hS (bo := bo) (se := se) (ba := ba) (hl.use (k' := 42501) ⟨by decide, by omega⟩) hW hI.1 hRC (by rw [hlo 0 (by decide)]; exact hr) (by rw [hlo 1 (by decide)]; exact hc) (by rw [hlo 4 (by decide)]; exact hbo) hb9 (by rw [hlo 2 (by decide), hlo 352 (by decide)]; exact hse) (by rw [hlo 2 (by decide)]; exact hba) hA hU hD)) (fun d20 r' => pc_bd (fun u e => hK _ ⟨i + 1, by omega, ?_, r'.2.1, r'.2.2.1, r'.2.2.2, r'.1.2.1, r'.1.2.2, fun j hj => ((MS.fr r'.1.1 (by decide +kernel)).2.1 j hj).trans (hlo j hj), _, Inv.call hI r'.1.1 (by decide +kernel), (LeB.rest (k' := 42501) hl ⟨by decide, by omega⟩).w (by omega)⟩)))
      dsimp only
      rw [e, z_add hy e1 (by omega) (by omega)]
      omega
theorem mq_tick {g : Gs} (hS : Shp g) : pc (fX12_tick 10000 g 328 x1 d) (fun _ d' => FQM d d') := by
  unfold fX12_tick fX12_tick_J17
  refine pc_cb inM_y (fun u3 d1 r => ?_)
  obtain ⟨e, _⟩ := r
  subst e
  refine pc_if (fun _ => pc_some FQM.rf) (fun _ => pc_gd (fun _ => pc_cb (manyM_y hS) (fun u8 d6 r => ?_)))
  obtain ⟨e, _⟩ := r
  subst e
  refine pc_if (fun _ => pc_some FQM.rf) (fun _ => pc_ob (fun r _ => pc_gd (fun _ => pc_gd (fun _ => pc_bd (fun u13 _ => ?_)))))
  unfold fX12_tick_L30
  refine pc_lp (fun (w : Int32 × Int32 × Ds) => FQM d6 w.2.2) ?_ 10000 (u13, 0, d6) FQM.rf
  rintro K ⟨y2, y3, dd⟩ h hK
  dsimp only at h hK ⊢
  unfold fX12_tick_B30
  exact pc_if (fun _ => pc_gd (fun _ => pc_ob (fun _ _ => pc_gd (fun _ => pc_gd (fun _ => pc_some h))))) (fun _ => pc_gd (fun _ => pc_cv (wM_fX12_ticks (d0 := d6) 10000 g dd hS h) (fun d20 r => pc_bd (fun u e => hK _ r))))
theorem tick_0 {g : Gs} (hS : Shp g) (hz : dI d 336 0 * dI d 336 1 = 0) : pc (fX12_tick 10000 g 328 x1 d) (fun _ d' => d' = d) := by
  unfold fX12_tick fX12_tick_J17
  refine pc_cb inM_y (fun u3 d1 r => ?_)
  obtain ⟨e, _⟩ := r
  subst e
  refine pc_if (fun _ => pc_some rfl) (fun _ => pc_gd (fun _ => pc_cb (manyM_y hS) (fun u8 d6 r => ?_)))
  obtain ⟨e, hu⟩ := r
  subst e
  exact pc_if (fun _ => pc_some rfl) (fun z => absurd (hu.trans hz) z)
end TCK
theorem sq_tick {g : Gs} (hS : Shp g) {d0 d3 d6 : Ds} {u v x1 : Int32} {b0 b B : Nat → Int} (h : RR d0) (q : SQ d0) (hBn : Bnd b0 d0) (hu : fX11_tick 10000 g 0 x1 d0 = some (u, d3)) (I1 : Inv m_sX11_tick__10 b d0 d3) (hW : RWf (rw_ d3)) (hlb : LeB b B 336 2125050) (hv : fX12_tick 10000 g 328 x1 d3 = some (v, d6)) (I2 : Inv m_sX12_tick__11 B d3 d6) : SQ d6 := by
  have mM : MS d0 d3 := MS.fr I1 (by decide +kernel)
  have nM : MS d3 d6 := MS.fr I2 (by decide +kernel)
  have hB := h.2.2.2.2.1
  obtain ⟨r, c, hR, hr, hc, a0, a1⟩ := bq_rc hB
  have a2 : dI d0 117 2 = dI d0 336 2 := hB.2.2.1
  have a4 : dI d0 117 4 = dI d0 336 4 := hB.2.2.2.1
  have rwe : rwN (fun j => dI d0 336 j) = r := by unfold rwN; rw [hr]; rfl
  have cle : clN (fun j => dI d0 336 j) = c := by unfold clN; rw [hc]; rfl
  have hn := hR.n.1
  obtain ⟨q1, q2⟩ := q
  obtain ⟨p1, p2, p3, p4, p5, p6, p7, p8⟩ := q1
  rw [rwe, cle] at p6
  have hmul : (dI d0 336 0 * dI d0 336 1).toInt = ((r * c : Nat) : Int) := mul_rc hR hr hc
  obtain ⟨a, ha⟩ : ∃ a : SA, a = (dI d0 336 354, dI d0 336 353, (fun k => dI d0 336 (355 + k)), (fun k => dI d0 336 (459 + k)), (fun k => dI d0 336 (483 + k)), (fun k => dI d0 336 (507 + k)), fun k => dF d0 338 k) := ⟨_, rfl⟩
  have hAC : AGC d0 a := by
    rw [ha]
    refine ⟨p1, p2, fun k hk => ?_⟩
    obtain ⟨s1, s2, s3, s4, s5⟩ := p5 k hk
    exact ⟨s1, s3, s4, s5, s2⟩
  have C := tickC_z (x1 := x1) hS (n := r * c) (by rw [show dI d0 117 0 = dI d0 336 0 from a0, show dI d0 117 1 = dI d0 336 1 from a1]; exact hmul) hn a4 p3 p4 hAC u d3 hu
  obtain ⟨cA, cI, cF, c28⟩ := C
  have m3 : ∀ j, dI d3 336 j = dI d0 336 j := fun j => cI 336 j (by decide)
  have f3 : ∀ j, dF d3 338 j = dF d0 338 j := fun j => cF 338 j (by decide) (by decide)
  have eSE : SEE (fun j => dI d0 336 j) = if dI d3 336 2 = 1 then dI d3 336 352 else seF r c (dI d3 336 352) (r * c) (r * c) := by
    unfold SEE
    rw [rwe, cle, m3, m3]
  have eBA : BAR (fun j => dI d0 336 j) = if dI d3 336 2 = 1 then 0 else baF r c (SEE (fun j => dI d0 336 j)) (r * c) := by
    unfold BAR
    rw [rwe, cle, m3]
  have b9 : (dI d0 336 4).toInt ≤ 9 ∨ r * c = 0 := by
    rcases hB.2.2.2.2.1 with ⟨z, _⟩ | ⟨_, _, z⟩
    · right
      have z0 : dI d0 336 0 = 0 := z
      rw [z0] at hr
      have : r = 0 := by
        have e0 : (0 : Int32).toInt = 0 := by decide
        omega
      rw [this, Nat.zero_mul]
    · exact Or.inl z.2
  have D : AGM d6 (tkM (r * c) (dI d0 336 4) (SEE (fun j => dI d0 336 j)) (BAR (fun j => dI d0 336 j)) a (tkCount (r * c) x1)) ∧ UNL (r * c) (dI d0 336 4) d6 ∧ DAT d6 := by
    have hAM : AGM d3 a := by
      rw [ha]
      refine ⟨⟨m3 _, m3 _, fun k hk => ⟨m3 _, m3 _, m3 _, m3 _⟩⟩, fun k hk => f3 k⟩
    have hUN : UNL (r * c) (dI d0 336 4) d3 := fun k hk => by
      rw [m3]
      exact p6 k hk
    have hDT : DAT d3 := fun k hk => by
      rw [m3, m3, m3]
      exact p7 k hk
    rcases b9 with b9 | b9
    · exact tickM_z (x1 := x1) hS hlb hW I1.1 hR (by rw [m3]; exact hr) (by rw [m3]; exact hc) (m3 4) b9 eSE eBA hAM hUN hDT v d6 hv
    · have e : tkCount (r * c) x1 = 0 := if_neg (fun z => z.2.2 b9)
      have ed : d6 = d3 := by
        refine tick_0 hS (Int32.toInt_inj.mp ?_) v d6 hv
        rw [m3, m3, hmul, b9]
        rfl
      rw [e, ed]
      exact ⟨hAM, hUN, hDT⟩
  obtain ⟨dA, dU, dD⟩ := D
  have mq := mq_tick hS v d6 hv
  have cR : ∀ rr j, rr < 328 → dI d6 rr j = dI d3 rr j ∧ dF d6 rr j = dF d3 rr j := fun rr j hr' => ⟨mq.1 rr j (by unfold fp_M; simp only [Bool.or_eq_false_iff, beq_eq_false_iff_ne]; omega), mq.2 rr j (by unfold fp_M; simp only [Bool.or_eq_false_iff, beq_eq_false_iff_ne]; omega)⟩
  have lo6 : ∀ j, j < 353 → dI d6 336 j = dI d0 336 j := fun j hj => (nM.2.1 j hj).trans (m3 j)
  have eS6 : SEE (fun j => dI d6 336 j) = SEE (fun j => dI d0 336 j) := SEE_c4 (lo6 0 (by decide)) (lo6 1 (by decide)) (lo6 2 (by decide)) (lo6 352 (by decide))
  have eB6 : BAR (fun j => dI d6 336 j) = BAR (fun j => dI d0 336 j) := BAR_c4 (lo6 0 (by decide)) (lo6 1 (by decide)) (lo6 2 (by decide)) (lo6 352 (by decide))
  have rw6 : rwN (fun j => dI d6 336 j) * clN (fun j => dI d6 336 j) = r * c := by
    unfold rwN clN
    dsimp only
    rw [lo6 0 (by decide), lo6 1 (by decide), hr, hc]
    rfl
  refine ⟨⟨?_, ?_, ?_, ?_, fun k hk => ?_, fun k hk => ?_, dD, fun k hk => ?_⟩, fun s hs z => ?_⟩
  · rw [(cR 227 5 (by decide)).1, cA.1]
    exact dA.1.1.symm
  · rw [(cR 228 3 (by decide)).1, cA.2.1]
    exact dA.1.2.1.symm
  · rw [(cR 228 1 (by decide)).1, c28 1 (by decide), eS6]
    exact p3
  · rw [(cR 228 2 (by decide)).1, c28 2 (by decide), eB6]
    exact p4
  · obtain ⟨s1, s2, s3, s4, s5⟩ := cA.2.2 k hk
    obtain ⟨t1, t2, t3, t4⟩ := dA.1.2.2 k hk
    refine ⟨?_, ?_, ?_, ?_, ?_⟩
    · rw [(cR 229 k (by decide)).1, s1]
      exact t1.symm
    · rw [(cR 230 k (by decide)).2, s5]
      exact (dA.2 k hk).symm
    · rw [(cR 231 k (by decide)).1, s2]
      exact t2.symm
    · rw [(cR 232 k (by decide)).1, s3]
      exact t3.symm
    · rw [(cR 233 k (by decide)).1, s4]
      exact t4.symm
  · rw [rw6] at hk
    show 0 ≤ (dI d6 336 (355 + k)).toInt ∧ (dI d6 336 (355 + k)).toInt < (dI d6 336 4).toInt
    rw [lo6 4 (by decide)]
    exact dU k hk
  · show SteOk (dF d6 338 k)
    rw [dA.2 k hk]
    refine tkM_ps ?_ _
    rw [ha]
    exact p8 k hk
  · have z0 : ¬ dI d0 346 s = 0 := by rw [nM.2.2.2, mM.2.2.2] at z; exact z
    refine (q2 s hs z0).id (fun r' j w => ?_) (fun r' j w => ?_) (fun j _ => ?_) (fun k _ => ?_) (hn_s h hs z0)
    · rw [(cR r' j (by omega)).1, cI r' j (by omega)]
    · rw [(cR r' j (by omega)).2, cF r' j (by omega) (by omega)]
    · show dI d6 344 _ = dI d0 344 _
      rw [nM.2.2.1, mM.2.2.1]
    · show dF d6 345 _ = dF d0 345 _
      rw [mq.2 345 _ (by decide), cF 345 _ (by decide) (by decide)]
