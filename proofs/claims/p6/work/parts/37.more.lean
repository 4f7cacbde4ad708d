/-! what is held, restored, told on ahead: the counters' bounds are those of the course -/
def HUf (b : Nat → Int) : Prop := ∀ p q, p ≠ 400 → p ≠ 247 → q ≠ 400 → q ≠ 247 → b p = b q
theorem slot_own {g : Gs} (hS : Shp g) {r r7 j : Nat} (h : cls r = 47) (hj : j < 3) (e : gR g r j = some r7) : own r7 ≠ 247 := by
  have hr := un_47 h
  subst hr
  have key : ∀ j, j < 3 → rfr 267 j ≠ 0 ∧ own (rfr 267 j - 1) ≠ 247 := by decide +kernel
  obtain ⟨k1, k2⟩ := key j hj
  rw [hS.2.2 267 j k1] at e
  cases e
  exact k2
theorem sX11_hold_w {g : Gs} (hS : Shp g) {b : Nat → Int} {x0 : Nat} (hx0 : cls x0 = 10) {x1 : Int32} {d : Ds} (hu : HUf b) (hB : Bnd b d) : ok (fX11_hold 10000 g x0 x1 d) (fun u d' => Inv m_sX11_hold__10 b d d' ∧ u = if 0 ≤ x1.toInt ∧ x1.toInt < 3 then 1 else 0) := by
  have hI : Inv m_sX11_hold__10 b d d := Inv.rf hB
  have e0 : (0 : Int32).toInt = 0 := by decide
  have e3 : (3 : Int32).toInt = 3 := by decide
  unfold fX11_hold
  refine ok_if (fun c1 => ?_) (fun c1 => ?_)
  · have c2 := Int32.lt_iff_toInt_lt.mp c1
    unfold fX11_hold_J9
    exact ok_some ⟨hI, by rw [if_neg (by omega)]⟩
  · have h3 := Int32.le_iff_toInt_le.mp (nlt c1)
    refine ok_if (fun c4 => ?_) (fun c4 => ?_)
    · have c5 := Int32.lt_iff_toInt_lt.mp c4
      have h5 : iv x1 0 2 := ⟨by omega, by omega⟩
      refine ok_gd (kd_10 hS hx0) ?_
      obtain ⟨r4, e6, k7⟩ := sh_10_8 hS hx0
      refine ok_ob e6 ?_
      refine ok_gd (kd_47 hS k7) ?_
      refine ok_gd (ixg h5 (ln_47 hS k7) (by decide)) ?_
      obtain ⟨r7, e8, k9⟩ := sh_47 hS k7 (ixn h5 (by decide))
      refine ok_ob e8 ?_
      obtain ⟨r8, e10, k11, k11o⟩ := sh_10_6 hS hx0
      refine ok_ob e10 ?_
      refine ok_gd (kd_1 hS k9) ?_
      refine ok_cv (sX1_copyFrom__1_1 hS k9 k11 (Int.le_of_eq (hu _ _ (own_ne _) (by rw [k11o]; decide) (own_ne _) (slot_own hS k7 (ixn h5 (by decide)) e8))) hI.1) (fun d10 r => ?_)
      have h15 := Inv.call hI r.1 (by decide +kernel)
      refine ok_bd (fun d12 e16 => ?_)
      have h17 := Inv.set e16 h15 (by rw [hx0]; exact trivial) (mO hx0 (by decide) (by decide +kernel)) (nO hx0 (by decide) (by decide +kernel))
      exact ok_some ⟨h17, by rw [if_pos (by omega)]⟩
    · have c5 := Int32.le_iff_toInt_le.mp (nlt c4)
      unfold fX11_hold_J9
      exact ok_some ⟨hI, by rw [if_neg (by omega)]⟩
theorem sX11_restore_w {g : Gs} (hS : Shp g) {b : Nat → Int} {x0 : Nat} (hx0 : cls x0 = 10) {x1 : Int32} {d : Ds} (hu : HUf b) (hB : Bnd b d) : ok (fX11_restore 10000 g x0 x1 d) (fun u d' => Inv m_sX11_restore__10 b d d' ∧ True) := by
  have hI : Inv m_sX11_restore__10 b d d := Inv.rf hB
  unfold fX11_restore
  have j20 : ok (fX11_restore_J20 10000 g x0 x1 d) (fun u d' => Inv m_sX11_restore__10 b d d' ∧ True) := by
    unfold fX11_restore_J20
    exact ok_some ⟨hI, trivial⟩
  refine ok_if (fun c1 => j20) (fun c1 => ?_)
  have h3 := iv.w (c := 0) (e := 2147483647) (le_r (nlt c1) (by decide : iv (0 : Int32) 0 0) (ivT _)) (by decide)
  refine ok_if (fun c4 => j20) (fun c4 => ?_)
  have h6 := iv.w (c := 0) (e := 2) (lt_l (nle c4) h3 (by decide : iv (3 : Int32) 3 3)) (by decide)
  refine ok_gd (kd_10 hS hx0) ?_
  refine ok_cb (sX11_isIn hS (iv.w h6 (by decide)) hI.1) (fun u d' r => ?_)
  rw [r.1]
  refine ok_if (fun _ => j20) (fun _ => ?_)
  obtain ⟨r8, e13, k14, k14o⟩ := sh_10_6 hS hx0
  refine ok_ob e13 ?_
  obtain ⟨r9, e15, k16⟩ := sh_10_8 hS hx0
  refine ok_ob e15 ?_
  refine ok_gd (kd_47 hS k16) ?_
  refine ok_gd (ixg h6 (ln_47 hS k16) (by decide)) ?_
  obtain ⟨r12, e17, k18⟩ := sh_47 hS k16 (ixn h6 (by decide))
  refine ok_ob e17 ?_
  refine ok_gd (kd_1 hS k14) ?_
  refine ok_cv (sX1_copyFrom__1_1 hS k14 k18 (Int.le_of_eq (hu _ _ (own_ne _) (slot_own hS k16 (ixn h6 (by decide)) e17) (own_ne _) (by rw [k14o]; decide))) hI.1) (fun d14 r2 => ?_)
  exact ok_some ⟨Inv.call hI r2.1 (by decide +kernel), trivial⟩
theorem okv_in {a b : Int} {c j : Nat} {v : Int32} (h1 : ¬ (c = 1 ∧ j = 5)) (h5 : ¬ (c = 5 ∧ j = 4)) (hc : c ≠ 55 ∧ c ≠ 61 ∧ c ≠ 63) (hv : okv a c j v) : okv b c j v := by
  unfold okv at hv ⊢
  split at hv
  all_goals first
    | exact hv
    | (simp only [okv1] at hv ⊢; split at hv <;> first | exact hv | trivial | (exfalso; exact h1 ⟨rfl, rfl⟩))
    | (simp only [okv5] at hv ⊢; split at hv <;> first | exact hv | trivial | (exfalso; exact h5 ⟨rfl, rfl⟩))
    | (exfalso; omega)
/-- the preview's counters are the course's -/
theorem pv_low {b : Nat → Int} {d : Ds} {p1 p5 : Nat} (hB : Bnd b d) (hp : ∀ r, r < 347 → own r = 247 → (cls r = 1 → r = p1) ∧ (cls r = 5 → r = p5) ∧ cls r ≠ 55 ∧ cls r ≠ 61 ∧ cls r ≠ 63) {k : Int} (h1 : 0 ≤ (dI d p1 5).toInt ∧ 64 * (dI d p1 5).toInt ≤ k) (h5 : iv (dI d p5 4) 0 k) : Bnd (fun q => if q = 247 then k else b q) d := by
  refine ⟨fun r j hr hj => ?_, hB.2.1, hB.2.2.1, ?_⟩
  · have h := hB.1 r j hr hj
    dsimp only
    by_cases ho : own r = 247
    · rw [if_pos ho]
      obtain ⟨a1, a5, a6⟩ := hp r hr ho
      by_cases z1 : cls r = 1 ∧ j = 5
      · have := a1 z1.1
        subst this
        rw [z1.1, z1.2]
        exact h1
      · by_cases z5 : cls r = 5 ∧ j = 4
        · have := a5 z5.1
          subst this
          rw [z5.1, z5.2]
          exact h5
        · exact okv_in z1 z5 a6 h
    · rw [if_neg ho]
      exact h
  · dsimp only
    rw [if_neg (by decide)]
    exact hB.2.2.2
theorem pv_al : ∀ r, r < 347 → own r = 247 → (cls r = 1 → r = 247) ∧ (cls r = 5 → r = 262) ∧ cls r ≠ 55 ∧ cls r ≠ 61 ∧ cls r ≠ 63 := by decide +kernel
theorem sX11_ahead_w {g : Gs} (hS : Shp g) {b : Nat → Int} {x0 : Nat} (hx0 : cls x0 = 10) {x1 : Int32} {x2 : Int32} {d : Ds} (hc : b 227 + 4903680 ≤ b 247) (hm : b 247 ≤ 2147480000) (hB : Bnd b d) : ok (fX11_ahead 10000 g x0 x1 x2 d) (fun u d' => Inv m_sX11_ahead__10 b d d' ∧ True) := by
  have hI : Inv m_sX11_ahead__10 b d d := Inv.rf hB
  have j30 : ∀ dd, Inv m_sX11_ahead__10 b d dd → ok (fX11_ahead_J30 10000 g x0 x1 x2 dd) (fun u d' => Inv m_sX11_ahead__10 b d d' ∧ True) := by
    intro dd h
    unfold fX11_ahead_J30
    exact ok_some ⟨h, trivial⟩
  unfold fX11_ahead
  refine ok_if (fun _ => j30 _ hI) (fun c1 => ok_if (fun _ => j30 _ hI) (fun c2 => ok_if (fun _ => j30 _ hI) (fun c3 => ok_if (fun _ => j30 _ hI) (fun c4 => ?_))))
  have hx1 : iv x1 1 120 := by
    have a1 := Int32.le_iff_toInt_le.mp (nlt c1)
    have a2 := Int32.le_iff_toInt_le.mp (nlt c2)
    have e1 : (1 : Int32).toInt = 1 := by decide
    have e2 : (120 : Int32).toInt = 120 := by decide
    exact ⟨by omega, by omega⟩
  have hx2 : iv x2 0 4 := by
    have a1 := Int32.le_iff_toInt_le.mp (nlt c3)
    have a2 := Int32.le_iff_toInt_le.mp (nlt c4)
    have e1 : (0 : Int32).toInt = 0 := by decide
    have e2 : (4 : Int32).toInt = 4 := by decide
    exact ⟨by omega, by omega⟩
  refine ok_gd (kd_10 hS hx0) ?_
  obtain ⟨r6, e13, k14⟩ := sh_10_4 hS hx0
  refine ok_ob e13 ?_
  refine ok_gd (kd_13 hS k14) ?_
  refine ok_cb (sX0_keys__13 hS k14 hI.1) (fun u d' r => ?_)
  rw [r.1]
  refine ok_if (fun _ => j30 _ hI) (fun _ => ?_)
  obtain ⟨r12, e18, k19, k19o⟩ := sh_10_7 hS hx0
  refine ok_ob e18 ?_
  obtain ⟨r13, e20, k21, k21o⟩ := sh_10_6 hS hx0
  refine ok_ob e20 ?_
  refine ok_gd (kd_1 hS k19) ?_
  refine ok_cv (sX1_copyFrom__1_1 hS k19 k21 (by rw [k19o, k21o]; omega) hI.1) (fun d15 r => ?_)
  have h25 := Inv.call hI r.1 (by decide +kernel)
  obtain ⟨p, ep, kp, kpo⟩ := sh_1_4 hS k19
  obtain ⟨q, eq, kq, kqo⟩ := sh_1_4 hS k21
  have x5 := r.2.2.1
  have x4 := r.2.2.2 p q ep eq
  have hp1 : r12 = 247 := (pv_al r12 (cls_lt k19 (by decide)) k19o).1 k19
  have hp5 : p = 262 := (pv_al p (cls_lt kp (by decide)) (kpo.trans k19o)).2.1 kp
  subst hp1
  subst hp5
  have y5 := rd_1_5 hB k21
  have y4 := rd_5_4 hB kq
  rw [k21o] at y5
  rw [kqo, k21o] at y4
  have hL := pv_low (k := b 227) h25.1 pv_al (by rw [x5]; exact y5) (by rw [x4]; exact y4)
  refine sX11_ahead_L45__10 (b := fun q => if q = 247 then b 227 else b q) hS ⟨fun q => ?_, ?_, hm⟩ hx0 hx1 hx2 (by decide : iv (0 : Int32) 0 120) ⟨hL, h25.2⟩
  · dsimp only
    split
    · rename_i z
      rw [z]
      omega
    · exact Int.le_refl _
  · dsimp only
    rw [if_pos rfl]
    exact hc
/-! the model's rows that are held -/
def hr_ (d : Ds) (s : Nat) : Nat → Int32 := fun j => dI d 344 (9178 * s + j)
def HD (d : Ds) : Prop := ∀ s : Nat, s < 3 → RWf (hr_ d s)
theorem hl_63 : cls 344 = 63 := by decide +kernel
theorem mo_hl {g : Gs} (hS : Shp g) : gR g 328 30 = some 344 := by
  obtain ⟨r, e, k, -⟩ := sh_11_30 hS mo_11
  have := un_63 k
  subst this
  exact e
theorem RWf_eq {f f' : Nat → Int32} (he : ∀ j, j < 9178 → j < 352 ∨ j = 353 ∨ j = 354 ∨ j = 557 ∨ 1678 ≤ j → f' j = f j) (hQ : fQ f ≤ 2500) (hW : RWf f) : RWf f' := by
  have eQ : fQ f' = fQ f := by show (f' 557).toInt = _; rw [he 557 (by decide) (by decide)]; rfl
  have eN : fTm f' = fTm f := by show (f' 354).toInt = _; rw [he 354 (by decide) (by decide)]; rfl
  have eT : ∀ i : Nat, i < 2500 → fT f' i = fT f i := fun i hi => by show (f' _).toInt = _; rw [he _ (by omega) (by omega)]; rfl
  have eK : ∀ i : Nat, i < 2500 → fK f' i = fK f i := fun i hi => by show f' _ = _; rw [he _ (by omega) (by omega)]; rfl
  have eD : ∀ i : Nat, i < 2500 → fD f' i = fD f i := fun i hi => by show f' _ = _; rw [he _ (by omega) (by omega)]; rfl
  obtain ⟨⟨⟨a1, a2⟩, a3, a4⟩, a5, a6⟩ := hW
  refine ⟨⟨⟨fun i j hij hj d1 d2 hk => ?_, fun i hi d1 => ?_⟩, fun i hi => ?_, ?_⟩, PLf_fn (fun j hj => he j (by omega) (by omega)) a5, ?_⟩
  · rw [eQ] at hj
    rw [eD i (by omega)] at d1
    rw [eD j (by omega)] at d2
    rw [eK i (by omega), eK j (by omega)] at hk
    obtain ⟨l, l1, l2, l3, l4⟩ := a1 i j hij hj d1 d2 hk
    exact ⟨l, l1, l2, by rw [eK l (by omega), eK i (by omega)]; exact l3, by rw [eD l (by omega)]; exact l4⟩
  · rw [eQ] at hi
    rw [eD i (by omega)] at d1
    rcases a2 i hi d1 with ⟨l, l1, l2, l3, l4⟩ | q
    · exact Or.inl ⟨l, l1, by rw [eQ]; exact l2, by rw [eK l (by omega), eK i (by omega)]; exact l3, by rw [eD l (by omega)]; exact l4⟩
    · exact Or.inr (by rw [he 353 (by decide) (by decide), eK i (by omega)]; exact q)
  · rw [eQ] at hi
    rw [eQ, eN, eT i (by omega)]
    exact a3 i hi
  · rw [eQ, eN, eT 0 (by decide)]
    exact a4
  · rw [he 0 (by decide) (by decide), he 1 (by decide) (by decide), he 9 (by decide) (by decide)]
    exact a6
theorem hQ_iv {b : Nat → Int} {d : Ds} (hB : Bnd b d) {s : Nat} (hs : s < 3) : fQ (hr_ d s) ≤ 2500 := by
  have h := hB.1 344 (9178 * s + 557) (by decide) (by rw [nl_63 hl_63]; omega)
  rw [hl_63] at h
  have h2 : okN (b (own 344)) ((9178 * s + 557) % 9178) (dI d 344 (9178 * s + 557)) := h
  rw [show (9178 * s + 557) % 9178 = 557 by omega] at h2
  exact (h2.2.2.2.2.2.2.2.2.2.2.1 rfl).2
/-- what an operation keeps that touches neither -/
theorem hd_frm {M : Nat} {b : Nat → Int} {d0 d : Ds} (h : Inv M b d0 d) (hm : Nat.testBit M 4032 = false) (hd : HD d0) : HD d := by
  intro s hs
  have e : hr_ d s = hr_ d0 s := funext (fun j => h.2.1 344 _ (by rw [hl_63, cdn, if_neg (by decide), if_neg (by decide)]; exact hm))
  rw [e]
  exact hd s hs
theorem rwf_frm {M : Nat} {b : Nat → Int} {d0 d : Ds} (h : Inv M b d0 d) (hB : Bnd b d0) (h0 : Nat.testBit M 3520 = false) (h2 : Nat.testBit M 3522 = false) (h3 : Nat.testBit M 3523 = false) (h10 : Nat.testBit M 3530 = false) (h12 : Nat.testBit M 3532 = false) (hW : RWf (rw_ d0)) : RWf (rw_ d) := by
  have q := q_frm h h2 h3 h10 h12
  have l := lo_frm h h0
  refine RWf_eq (fun j hj hc => ?_) (qQ_iv hB).2 hW
  rcases hc with z | z
  · exact l j z
  · exact q j z
theorem sX12_in_e {g : Gs} {x0 x1 x2 : Int32} {d : Ds} : ok (fX12_in 10000 g x0 x1 x2 d) (fun u d' => d' = d ∧ (u = 0 ∧ (x0.toInt < x1.toInt ∨ x2.toInt < x0.toInt) ∨ u = 1 ∧ x1.toInt ≤ x0.toInt ∧ x0.toInt ≤ x2.toInt)) := by
  unfold fX12_in
  have j14 : x0.toInt < x1.toInt ∨ x2.toInt < x0.toInt → ok (fX12_in_J14 10000 g x0 x1 x2 d) (fun u d' => d' = d ∧ (u = 0 ∧ (x0.toInt < x1.toInt ∨ x2.toInt < x0.toInt) ∨ u = 1 ∧ x1.toInt ≤ x0.toInt ∧ x0.toInt ≤ x2.toInt)) := by
    intro h
    unfold fX12_in_J14
    unfold fX12_in_J15
    refine ok_gd (Or.inl rfl) ?_
    exact ok_some ⟨rfl, Or.inl ⟨rfl, h⟩⟩
  refine ok_if (fun c => j14 (Or.inl (Int32.lt_iff_toInt_lt.mp c))) (fun c1 => ok_if (fun c => j14 (Or.inr (Int32.lt_iff_toInt_lt.mp c))) (fun c2 => ?_))
  unfold fX12_in_J15
  refine ok_gd (Or.inr rfl) ?_
  exact ok_some ⟨rfl, Or.inr ⟨rfl, Int32.le_iff_toInt_le.mp (nlt c1), Int32.le_iff_toInt_le.mp (nlt c2)⟩⟩
theorem sX12_hold_w {g : Gs} (hS : Shp g) {b : Nat → Int} {x0 : Nat} (hx0 : cls x0 = 11) {x1 : Int32} {d : Ds} (hu : b (own 336) = b (own 344)) (hW : RWf (rw_ d)) (hH : HD d) (hB : Bnd b d) : ok (fX12_hold 10000 g x0 x1 d) (fun u d' => (Inv m_sX12_hold__11 b d d' ∧ RWf (rw_ d') ∧ HD d') ∧ u = if 0 ≤ x1.toInt ∧ x1.toInt < 3 then 1 else 0) := by
  have ex := mo_u hx0
  subst ex
  have hI : Inv m_sX12_hold__11 b d d := Inv.rf hB
  have e1 : (1 : Int32).toInt = 1 := by decide
  have e0 : (0 : Int32).toInt = 0 := by decide
  have e2 : (2 : Int32).toInt = 2 := by decide
  unfold fX12_hold
  refine ok_cb sX12_in_e (fun u3 d1 r => ?_)
  obtain ⟨hd, hu3⟩ := r
  rw [hd]
  rcases hu3 with ⟨hu3, c1⟩ | ⟨hu3, c1, c2⟩
  · rw [hu3]
    refine ok_if (fun _ => ?_) (fun z => absurd rfl z)
    exact ok_some ⟨⟨hI, hW, hH⟩, by rw [if_neg (by omega)]⟩
  · rw [hu3]
    refine ok_if (fun z => absurd z (by decide)) (fun _ => ?_)
    have hx1 : iv x1 0 2 := ⟨by omega, by omega⟩
    rw [if_pos (by omega)]
    obtain ⟨s, hs⟩ : ∃ s : Nat, s = x1.toInt.toNat := ⟨_, rfl⟩
    have hs3 : s < 3 := by omega
    unfold fX12_hold_L13
    refine ok_lp (fun a => iv a.1 0 9178 ∧ Inv m_sX12_hold__11 b d a.2 ∧ (∀ r j, ¬ (r = 344 ∧ 9178 * s ≤ j ∧ j < 9178 * s + a.1.toInt.toNat) → dI a.2 r j = dI d r j) ∧ (∀ j : Nat, (j : Int) < a.1.toInt → dI a.2 344 (9178 * s + j) = dI d 336 j)) (fun a => (9178 - a.1.toInt).toNat) ?_ 10000 (0, d) ⟨(by decide : iv (0 : Int32) 0 9178), hI, fun _ _ _ => rfl, fun j hj => absurd hj (by dsimp only; omega)⟩ (by dsimp only; omega)
    rintro K13 ⟨y2, de⟩ ⟨hy, hI, hf, hc⟩ hK
    dsimp only at hy hI hf hc hK ⊢
    have e9 : (9178 : Int32).toInt = 9178 := by decide
    unfold fX12_hold_B13
    refine ok_if (fun c => ?_) (fun c => ?_)
    · have c2 := Int32.le_iff_toInt_le.mp c
      have hy9 : y2.toInt.toNat = 9178 := by have := hy.2; omega
      rw [hy9] at hf
      have hrw : RWf (rw_ de) := by
        have : rw_ de = rw_ d := funext (fun j => hf 336 j (fun z => absurd z.1 (by decide)))
        rw [this]
        exact hW
      have hhd : HD de := by
        intro t ht
        by_cases z : t = s
        · subst z
          exact RWf_eq (f := rw_ d) (fun j hj _ => hc j (by omega)) (qQ_iv hB).2 hW
        · exact RWf_eq (f := hr_ d t) (fun j hj _ => hf 344 _ (fun q => z (by omega))) (hQ_iv hB ht) (hH t ht)
      unfold fX12_hold_L46
      refine ok_lp (fun a => iv a.1 0 24 ∧ Inv m_sX12_hold__11 b d a.2 ∧ RWf (rw_ a.2) ∧ HD a.2) (fun a => (24 - a.1.toInt).toNat) ?_ 10000 (0, de) ⟨(by decide : iv (0 : Int32) 0 24), hI, hrw, hhd⟩ (by dsimp only; omega)
      rintro K46 ⟨y3, df⟩ ⟨hy3, hI, hrw, hhd⟩ hK
      dsimp only at hy3 hI hrw hhd hK ⊢
      unfold fX12_hold_B46
      refine ok_if (fun _ => ?_) (fun c3 => ?_)
      · refine ok_gd (kd_11 hS mo_11) ?_
        obtain ⟨r8, e3, k4⟩ := sh_11_32 hS mo_11
        refine ok_ob e3 ?_
        refine ok_gd (kd_65 hS k4) ?_
        refine ok_gd (ixg hx1 (ln_65 hS k4) (by decide)) ?_
        refine ok_bd (fun d11 e6 => ?_)
        have h7 := Inv.set e6 hI (by rw [k4]; exact (iv.w (by decide +kernel : iv (vp_nar .boolean 1) 1 1) (by decide))) (mA k4 (by decide) (by decide +kernel)) (nA k4 (by decide) (by decide +kernel))
        refine ok_some ⟨⟨h7, ?_, fun t ht => ?_⟩, rfl⟩
        · rw [rw_set e6 (cl_ne k4 now_55 (by decide))]
          exact hrw
        · have : hr_ d11 t = hr_ df t := funext (fun j => rdq e6 (Or.inl (cl_ne k4 hl_63 (by decide))))
          rw [this]
          exact hhd t ht
      · have h8 := iv.w (c := 0) (e := 23) (lt_l (nle c3) hy3 (by decide : iv (24 : Int32) 24 24)) (by decide)
        refine ok_gd (kd_11 hS mo_11) ?_
        obtain ⟨r13, e9, k10⟩ := sh_11_31 hS mo_11
        refine ok_ob e9 ?_
        obtain ⟨r14, e12, k13⟩ := sh_11_19 hS mo_11
        refine ok_ob e12 ?_
        refine ok_gd (kd_57 hS k13) ?_
        refine ok_gd (ixg h8 (ln_57 hS k13) (by decide)) ?_
        refine ok_gd (kd_64 hS k10) ?_
        refine ok_gd (ixg (iv_add (l := 0) (h := 71) (iv_mul (l := 0) (h := 48) (by decide : iv (24 : Int32) 24 24) hx1 (by decide)) h8 (by decide)) (ln_64 hS k10) (by decide)) ?_
        refine ok_bd (fun d19 e15 => ?_)
        have h16 := Inv.setF e15 hI (hI.1.2.1 r14 y3.toNatClampNeg)
        refine ok_bd (fun u20 e17 => ?_)
        have f1 : rw_ d19 = rw_ df := funext (fun j => rdqF e15)
        have f2 : ∀ t, hr_ d19 t = hr_ df t := fun t => funext (fun j => rdqF e15)
        exact hK _ ⟨iv.w (iv_e e17 (iv_add (l := 1) (h := 24) h8 (by decide : iv (1 : Int32) 1 1) (by decide))) (by decide), h16, by dsimp only; rw [f1]; exact hrw, fun t ht => by dsimp only; rw [f2]; exact hhd t ht⟩ (ms_up (H := 24) e17 h8 (by decide : iv (1 : Int32) 1 1) (by decide))
    · have h3 := iv.w (c := 0) (e := 9177) (lt_l (nle c) hy (by decide : iv (9178 : Int32) 9178 9178)) (by decide)
      have k1 := h3.1
      have k2 := h3.2
      have kn := z_nat (x := y2) k1
      obtain ⟨i1, i2, i3⟩ := ix63 hx1 h3
      refine ok_gd (kd_11 hS mo_11) ?_
      refine ok_ob (mo_hl hS) ?_
      refine ok_ob (mo_now hS mo_11) ?_
      refine ok_gd (kd_55 hS now_55) ?_
      refine ok_gd (ixg h3 (ln_55 hS now_55) (by decide)) ?_
      refine ok_gd (kd_63 hS hl_63) ?_
      refine ok_gd (ixg (iv_add (l := 0) (h := 27533) (iv_mul (l := 0) (h := 18356) (by decide : iv (9178 : Int32) 9178 9178) hx1 (by decide)) h3 (by decide)) (ln_63 hS hl_63) (by decide)) ?_
      refine ok_bd (fun d28 e28 => ?_)
      have h28 := Inv.set e28 hI (by rw [hl_63]; exact (okN_w63 (Int.le_of_eq hu) hI.1 now_55 hx1 h3)) (mA hl_63 (by decide) (by decide +kernel)) (nA hl_63 (by decide) (by decide +kernel))
      rw [i1, ← hs] at e28
      refine ok_bd (fun u29 e29 => ?_)
      have q2 := z_add (x := y2) (y := 1) rfl e1 (by omega) (by omega)
      refine hK _ ⟨⟨by dsimp only; rw [e29, q2]; omega, by dsimp only; rw [e29, q2]; omega⟩, h28, fun r j q => ?_, fun j hj => ?_⟩ (by dsimp only; rw [e29, q2]; omega)
      · dsimp only at q ⊢
        rw [e29, q2] at q
        rw [e28, sI_rd, if_neg (fun z => q ⟨z.1, by omega, by omega⟩)]
        exact hf r j (fun z => q ⟨z.1, z.2.1, by omega⟩)
      · dsimp only at hj ⊢
        rw [e29, q2] at hj
        rw [e28, sI_rd]
        by_cases z : j = y2.toNatClampNeg
        · rw [if_pos ⟨rfl, by omega⟩, z]
          exact hf 336 _ (fun z => absurd z.1 (by decide))
        · rw [if_neg (fun q => z (by omega))]
          exact hc j (by omega)
theorem sX12_restore_w {g : Gs} (hS : Shp g) {b : Nat → Int} {x0 : Nat} (hx0 : cls x0 = 11) {x1 : Int32} {d : Ds} (hu : b (own 336) = b (own 344)) (hW : RWf (rw_ d)) (hH : HD d) (hB : Bnd b d) : ok (fX12_restore 10000 g x0 x1 d) (fun u d' => Inv m_sX12_restore__11 b d d' ∧ RWf (rw_ d') ∧ HD d') := by
  have ex := mo_u hx0
  subst ex
  have hI : Inv m_sX12_restore__11 b d d := Inv.rf hB
  have e1 : (1 : Int32).toInt = 1 := by decide
  have e0 : (0 : Int32).toInt = 0 := by decide
  have e2 : (2 : Int32).toInt = 2 := by decide
  have j18 : ok (fX12_restore_J18 10000 g 328 x1 d) (fun u d' => Inv m_sX12_restore__11 b d d' ∧ RWf (rw_ d') ∧ HD d') := by
    unfold fX12_restore_J18
    exact ok_some ⟨hI, hW, hH⟩
  unfold fX12_restore
  refine ok_cb sX12_in_g (fun u3 d1 r => ?_)
  obtain ⟨hd, hu3⟩ := r
  rw [hd]
  rcases hu3 with hu3 | ⟨hu3, c1, c2⟩ <;> rw [hu3]
  · exact ok_if (fun _ => j18) (fun z => absurd rfl z)
  · refine ok_if (fun z => absurd z (by decide)) (fun _ => ?_)
    have hx1 : iv x1 0 2 := ⟨by omega, by omega⟩
    obtain ⟨s, hs⟩ : ∃ s : Nat, s = x1.toInt.toNat := ⟨_, rfl⟩
    have hs3 : s < 3 := by omega
    refine ok_gd (kd_11 hS mo_11) ?_
    obtain ⟨r6, e6, k6⟩ := sh_11_32 hS mo_11
    refine ok_ob e6 ?_
    refine ok_gd (kd_65 hS k6) ?_
    refine ok_gd (ixg hx1 (ln_65 hS k6) (by decide)) ?_
    refine ok_if (fun _ => j18) (fun _ => ?_)
    unfold fX12_restore_L22
    refine ok_lp (fun a => iv a.1 0 9178 ∧ Inv m_sX12_restore__11 b d a.2 ∧ (∀ r j, r ≠ 336 → dI a.2 r j = dI d r j) ∧ (∀ j : Nat, (j : Int) < a.1.toInt → dI a.2 336 j = dI d 344 (9178 * s + j))) (fun a => (9178 - a.1.toInt).toNat) ?_ 10000 (0, d) ⟨(by decide : iv (0 : Int32) 0 9178), hI, fun _ _ _ => rfl, fun j hj => absurd hj (by dsimp only; omega)⟩ (by dsimp only; omega)
    rintro K22 ⟨y2, de⟩ ⟨hy, hI, hf, hc⟩ hK
    dsimp only at hy hI hf hc hK ⊢
    have e9 : (9178 : Int32).toInt = 9178 := by decide
    unfold fX12_restore_B22
    refine ok_if (fun c => ?_) (fun c => ?_)
    · have c2 := Int32.le_iff_toInt_le.mp c
      have hrw : RWf (rw_ de) := RWf_eq (f := hr_ d s) (fun j hj _ => hc j (by omega)) (hQ_iv hB hs3) (hH s hs3)
      have hhd : HD de := by
        intro t ht
        have : hr_ de t = hr_ d t := funext (fun j => hf 344 _ (by decide))
        rw [this]
        exact hH t ht
      unfold fX12_restore_L55
      refine ok_lp (fun a => iv a.1 0 24 ∧ Inv m_sX12_restore__11 b d a.2 ∧ RWf (rw_ a.2) ∧ HD a.2) (fun a => (24 - a.1.toInt).toNat) ?_ 10000 (0, de) ⟨(by decide : iv (0 : Int32) 0 24), hI, hrw, hhd⟩ (by dsimp only; omega)
      rintro K55 ⟨y3, df⟩ ⟨hy3, hI, hrw, hhd⟩ hK
      dsimp only at hy3 hI hrw hhd hK ⊢
      unfold fX12_restore_B55
      refine ok_if (fun _ => ok_some ⟨hI, hrw, hhd⟩) (fun c3 => ?_)
      have h8 := iv.w (c := 0) (e := 23) (lt_l (nle c3) hy3 (by decide : iv (24 : Int32) 24 24)) (by decide)
      refine ok_gd (kd_11 hS mo_11) ?_
      obtain ⟨r13, e9, k10⟩ := sh_11_19 hS mo_11
      refine ok_ob e9 ?_
      obtain ⟨r14, e12, k13⟩ := sh_11_31 hS mo_11
      refine ok_ob e12 ?_
      refine ok_gd (kd_64 hS k13) ?_
      refine ok_gd (ixg (iv_add (l := 0) (h := 71) (iv_mul (l := 0) (h := 48) (by decide : iv (24 : Int32) 24 24) hx1 (by decide)) h8 (by decide)) (ln_64 hS k13) (by decide)) ?_
      refine ok_gd (kd_57 hS k10) ?_
      refine ok_gd (ixg h8 (ln_57 hS k10) (by decide)) ?_
      refine ok_bd (fun d19 e15 => ?_)
      have h16 := Inv.setF e15 hI (hI.1.2.1 r14 _)
      refine ok_bd (fun u20 e17 => ?_)
      have f1 : rw_ d19 = rw_ df := funext (fun j => rdqF e15)
      have f2 : ∀ t, hr_ d19 t = hr_ df t := fun t => funext (fun j => rdqF e15)
      exact hK _ ⟨iv.w (iv_e e17 (iv_add (l := 1) (h := 24) h8 (by decide : iv (1 : Int32) 1 1) (by decide))) (by decide), h16, by dsimp only; rw [f1]; exact hrw, fun t ht => by dsimp only; rw [f2]; exact hhd t ht⟩ (ms_up (H := 24) e17 h8 (by decide : iv (1 : Int32) 1 1) (by decide))
    · have h3 := iv.w (c := 0) (e := 9177) (lt_l (nle c) hy (by decide : iv (9178 : Int32) 9178 9178)) (by decide)
      have k1 := h3.1
      have k2 := h3.2
      have kn := z_nat (x := y2) k1
      obtain ⟨i1, i2, i3⟩ := ix63 hx1 h3
      refine ok_gd (kd_11 hS mo_11) ?_
      refine ok_ob (mo_now hS mo_11) ?_
      refine ok_ob (mo_hl hS) ?_
      refine ok_gd (kd_63 hS hl_63) ?_
      refine ok_gd (ixg (iv_add (l := 0) (h := 27533) (iv_mul (l := 0) (h := 18356) (by decide : iv (9178 : Int32) 9178 9178) hx1 (by decide)) h3 (by decide)) (ln_63 hS hl_63) (by decide)) ?_
      refine ok_gd (kd_55 hS now_55) ?_
      refine ok_gd (ixg h3 (ln_55 hS now_55) (by decide)) ?_
      refine ok_bd (fun d28 e28 => ?_)
      have h28 := Inv.set e28 hI (by rw [now_55]; exact (okN_63 (Int.le_of_eq hu.symm) hI.1 hl_63 hx1 h3)) (mNa now_55 (by decide +kernel)) (nNa now_55)
      rw [i1, ← hs] at e28
      refine ok_bd (fun u29 e29 => ?_)
      have q2 := z_add (x := y2) (y := 1) rfl e1 (by omega) (by omega)
      refine hK _ ⟨⟨by dsimp only; rw [e29, q2]; omega, by dsimp only; rw [e29, q2]; omega⟩, h28, fun r j q => ?_, fun j hj => ?_⟩ (by dsimp only; rw [e29, q2]; omega)
      · dsimp only
        rw [rdq e28 (Or.inl q)]
        exact hf r j q
      · dsimp only at hj ⊢
        rw [e29, q2] at hj
        rw [e28, sI_rd]
        by_cases z : j = y2.toNatClampNeg
        · rw [if_pos ⟨rfl, z⟩, hf 344 _ (by decide), z]
        · rw [if_neg (fun q => z q.2)]
          exact hc j (by omega)
