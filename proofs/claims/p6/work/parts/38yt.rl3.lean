/-! each call keeps both sides alike -/
section RL3
variable {d0 d3 d6 : Ds} {u v x1 x2 : Int32} {b b' : Nat → Int}
theorem bqf_mul {f : Nat → Int32} {d : Ds} (h : BQf f d) : ∃ n : Nat, n ≤ 24 ∧ (dI d 117 0 * dI d 117 1).toInt = (n : Int) ∧ (f 0 * f 1).toInt = (n : Int) := by
  obtain ⟨a0, a1, _, _, ab, _⟩ := h
  rw [a0, a1]
  rcases ab with ⟨z0, z1⟩ | ⟨⟨p1, p2⟩, ⟨p3, p4⟩, _⟩
  · rw [z0, z1]
    exact ⟨0, by decide, by decide, by decide⟩
  · have h1 : (f 0).toInt * (f 1).toInt ≤ 4 * 6 := Int.mul_le_mul p2 p4 (by omega) (by omega)
    have h0 : 0 ≤ (f 0).toInt * (f 1).toInt := Int.mul_nonneg (by omega) (by omega)
    have m := z_mul (x := f 0) (y := f 1) rfl rfl (by omega) (by omega)
    exact ⟨((f 0).toInt * (f 1).toInt).toNat, by omega, by omega, by omega⟩
/-- the board keeps the row's bounds, and the class's cells -/
theorem rr_read {g : Gs} (hS : Shp g) (h : RR d0) (k3 : KL d3) (k6 : KL d6) (hu : fX11_read 10000 g 0 d0 = some (u, d3)) (I1 : Inv m_sX11_read__10 b d0 d3) (hv : fX12_read 10000 g 328 d3 = some (v, d6)) (I2 : Inv m_sX12_read__11 b' d3 d6) (z1 : iv (dI d3 0 1) 0 0) (z2 : iv (dI d6 328 2) 0 0) : u = v ∧ RR d6 := by
  obtain ⟨⟨t1, t2, t3⟩, _, hP, hSL, hB, hH, hC⟩ := h
  have lo := t2.1
  have hi := t2.2
  obtain ⟨n, hn⟩ : ∃ n : Nat, (dI d0 0 1).toInt = (n : Int) := ⟨(dI d0 0 1).toInt.toNat, by omega⟩
  have rc := readC_y (t := fun j => dI d0 1 j) hS rfl hn (by omega) u d3 hu
  have mM : MS d0 d3 := MS.fr I1 (by decide +kernel)
  have cC : CS d3 d6 := CS.fr I2 (by decide +kernel)
  have e2 : dI d3 328 2 = dI d0 328 2 := rdqc I1 mo_11 (by decide +kernel)
  have e329 : ∀ j, dI d3 329 j = dI d0 329 j := fun j => I1.2.1 329 j (by rw [ta_48, cdn, if_neg (by decide), if_neg (by decide)]; decide +kernel)
  have hb : ∀ j, j < n → dI d3 329 j = dI d0 1 j ∧ byr (dI d0 1 j) := fun j hj => by
    obtain ⟨a, b⟩ := t3 j (by omega)
    exact ⟨by rw [e329, a], b⟩
  have rm := read_y (t := fun j => if j < n then dI d3 329 j else 0) hS (fun j hj => by rw [if_pos hj]) (fun j => by
    split
    · rename_i hj
      rw [(hb j hj).1]
      exact (hb j hj).2
    · exact ⟨by decide, by decide⟩) (by rw [e2, ← t1]; exact hn) (by omega) k3 v d6 hv
  have hc : ∀ j, j < n → (fun j => if j < n then dI d3 329 j else 0) j = (fun j => dI d0 1 j) j := fun j hj => by
    show (if j < n then dI d3 329 j else 0) = dI d0 1 j
    rw [if_pos hj]
    exact (hb j hj).1
  have hps : ps (fun j => if j < n then dI d3 329 j else 0) n = ps (fun j => dI d0 1 j) n := funext (ps_cg hc)
  unfold RDP at rm
  rw [KS_cg hc, VS_cg hc, hps] at rm
  obtain ⟨K, hK⟩ : ∃ K, KS (fun j => dI d0 1 j) n = K := ⟨_, rfl⟩
  obtain ⟨V, hV⟩ : ∃ V, VS (fun j => dI d0 1 j) n = V := ⟨_, rfl⟩
  unfold RDC at rc
  rw [hK, hV] at rc rm
  obtain ⟨i, i1, i2, i3, i4, i5⟩ := rc
  obtain ⟨j, j1, j2, j3, j4, j5⟩ := rm
  have ev : vd K V i = vd K V j := vd_un i1 j1
  have uv : u = v := by rw [i2, j2, ev]
  refine ⟨uv, tb_0 (by rw [rdqc I2 km_10 (by decide +kernel)]; exact z1) z2, k6, ?_⟩
  by_cases q : u = 0
  · have q' : v = 0 := uv.symm.trans q
    obtain ⟨c9, ⟨_, cs, _⟩, cb0, cb1, cb2, cb4, cb16, cbm, cbb⟩ := i5 q
    obtain ⟨⟨w1, w2, w3, _⟩, br, m0, m1, _, m11, _, _, x2, x4, x5⟩ := j5 q'
    have s0 : (sm K V j).1.1 = 0 := by
      have h0 : (vd K V j).1 = 0 := j2.symm.trans q'
      unfold vd at h0
      by_cases z : (sx K j).1.2 = 0
      · rw [if_pos z] at h0
        exact h0
      · rw [if_neg z] at h0
        exact absurd h0 z
    have eS : sm K V i = sm K V j := sm_un i1 j1
    have eX : sx K i = sx K j := sx_un i1 j1
    rw [eS] at cb2 cb4 cbb
    rw [eX] at cb16 cbm cbb
    have w : ∀ l, l < 352 → dI d6 336 l = dI d6 337 l := w1
    have sb := sm_b j s0
    refine ⟨?_, ⟨0, by decide, ?_, fun s hs => ?_⟩, ⟨?_, ?_, ?_, ?_, ?_, (sx K j).2.2, cbm, ?_, ?_, fun l hl => ?_⟩, fun s hs z => absurd (w2 s hs) z, ?_, fun s hs z => absurd (w2 s hs) z⟩
    · show dI d6 0 2 = dI d6 328 16
      rw [cC.1, i3 q, j3 q']
    · rw [cC.2.1, c9]
      rfl
    · rw [w2 s hs, Nat.zero_testBit]
      exact ⟨fun z => absurd z (by decide), fun z => absurd rfl z⟩
    · show dI d6 117 0 = dI d6 336 0
      rw [cC.2.2.1 0 (by omega), cb0, w 0 (by decide), m0]
    · show dI d6 117 1 = dI d6 336 1
      rw [cC.2.2.1 1 (by omega), cb1, w 1 (by decide), m1]
    · show dI d6 117 2 = dI d6 336 2
      rw [cC.2.2.1 2 (by omega), cb2, w 2 (by decide), x2]
    · show dI d6 117 4 = dI d6 336 4
      rw [cC.2.2.1 4 (by omega), cb4, w 4 (by decide), x4]
    · show _ ∨ (1 ≤ (dI d6 336 0).toInt ∧ (dI d6 336 0).toInt ≤ 4) ∧ (1 ≤ (dI d6 336 1).toInt ∧ (dI d6 336 1).toInt ≤ 6) ∧ 1 ≤ (dI d6 336 4).toInt ∧ (dI d6 336 4).toInt ≤ 9
      refine Or.inr ⟨?_, ?_, ?_⟩
      · rw [w 0 (by decide), m0]
        exact br.1
      · rw [w 1 (by decide), m1]
        exact br.2
      · rw [w 4 (by decide), x4]
        exact sb
    · rw [cC.2.2.1 16 (by omega)]
      exact cb16
    · show (dI d6 336 11).toInt = _
      rw [w 11 (by decide)]
      exact m11
    · obtain ⟨a1, a2, a3⟩ := cbb l hl
      obtain ⟨y1, y2, y3⟩ := x5 l hl
      have yl : dI d6 336 (316 + 9 * l) = (sm K V j).2 (200 + 9 * l) := (w _ (by omega)).trans y1
      show dI d6 123 l = dI d6 336 (316 + 9 * l) ∧ (dI d6 336 (316 + 9 * l)).toInt ≤ 8 ∧ ∀ p : Nat, (p : Int) < (dI d6 336 (316 + 9 * l)).toInt → dI d6 124 (8 * l + p) = dI d6 336 (316 + 9 * l + 1 + p)
      refine ⟨?_, ?_, fun p hp => ?_⟩
      · rw [cC.2.2.2.1, a1, yl]
      · rw [yl]
        exact y2
      · rw [yl] at hp
        rw [cC.2.2.2.2.1, a3 p hp, w _ (by omega), y3 p hp]
    · rw [cC.2.2.2.2.2.1, cs 0 (by decide), w3 352 (by decide) (by decide)]
      rfl
  · have q' : ¬ v = 0 := fun z => q (uv.trans z)
    obtain ⟨p1, f1, _⟩ := i4 q
    obtain ⟨p2, f2, _⟩ := j4 q'
    have f3 : ∀ r j, npb r = false → ¬ (r = 0 ∧ (j = 1 ∨ j = 2)) → dI d3 r j = dI d0 r j := f1
    have c3 : ∀ r j, 117 ≤ r ∧ r < 118 ∨ 120 ≤ r ∧ r ≤ 124 ∨ 225 ≤ r ∧ r ≤ 327 → dI d3 r j = dI d0 r j := fun r j hr => f3 r j (by unfold npb; simp only [Bool.not_eq_false', Bool.or_eq_true, beq_iff_eq, Bool.and_eq_true, decide_eq_true_eq]; omega) (by omega)
    have m6 : ∀ j, dI d6 336 j = dI d3 336 j := fun j => f2 336 (by decide) j
    have m44 : ∀ j, dI d6 344 j = dI d3 344 j := fun j => f2 344 (by decide) j
    have m46 : ∀ j, dI d6 346 j = dI d3 346 j := fun j => f2 346 (by decide) j
    refine ⟨?_, ?_, hB.cg (fun j hj => ?_) (fun j hj => ?_) (fun j => ?_) (fun j => ?_), fun s hs z j hj => ?_, ?_, fun s hs z => ?_⟩
    · show dI d6 0 2 = dI d6 328 16
      refine Int32.toInt_inj.mp ?_
      rw [cC.1, p1, p2, ev]
    · obtain ⟨w, w1, w2, w3⟩ := hSL
      refine ⟨w, w1, ?_, fun s hs => ?_⟩
      · rw [cC.2.1, f3 0 9 (by decide) (by omega)]
        exact w2
      · rw [m46, mM.2.2.2]
        exact w3 s hs
    · rw [m6, mM.2.1 j (by omega)]
    · rw [cC.2.2.1 j hj, c3 117 j (by omega)]
    · rw [cC.2.2.2.1, c3 123 j (by omega)]
    · rw [cC.2.2.2.2.1, c3 124 j (by omega)]
    · rw [m46, mM.2.2.2] at z
      rw [m44, m6, mM.2.2.1, mM.2.1 j (by omega)]
      exact hH s hs z j hj
    · rw [cC.2.2.2.2.2.1, c3 228 0 (by omega), m6, mM.2.1 352 (by decide)]
      exact hC.1
    · rw [m46, mM.2.2.2] at z
      rw [cC.2.2.2.2.2.2 s hs, c3 _ 0 (by omega), m44, mM.2.2.1]
      exact hC.2 s hs z
theorem rr_press {g : Gs} (hS : Shp g) (h : RR d0) (t6 : TB d6) (k6 : KL d6) (hu : fX11_press 10000 g 0 x1 x2 d0 = some (u, d3)) (I1 : Inv m_sX11_press__10 b d0 d3) (hv : fX12_press 10000 g 328 x1 x2 d3 = some (v, d6)) (I2 : Inv m_sX12_press__11 b' d3 d6) : u = v ∧ RR d6 := by
  obtain ⟨_, _, hP, hSL, hB, hH, hC⟩ := h
  obtain ⟨n, hn, n1, n2⟩ := bqf_mul hB
  have mM : MS d0 d3 := MS.fr I1 (by decide +kernel)
  have cC : CS d3 d6 := CS.fr I2 (by decide +kernel)
  obtain ⟨pc1, fc, _⟩ := pressC_y hS n1 hn u d3 hu
  obtain ⟨pm1, fm, _⟩ := pressM_y (n := n) hS (by rw [mM.2.1 0 (by decide), mM.2.1 1 (by decide)]; exact n2) hn v d6 hv
  rw [mM.2.1 352 (by decide), ← hC.1] at pm1
  obtain ⟨uv, ec⟩ := pc1.u pm1
  have c3 : ∀ r j, ¬ (225 ≤ r ∧ r ≤ 228) → dI d3 r j = dI d0 r j := fun r j hr => fc r j (by omega) (by omega)
  have m6 : ∀ j, j < 352 → dI d6 336 j = dI d3 336 j := fun j hj => fm 336 j (by omega)
  have m44 : ∀ j, dI d6 344 j = dI d3 344 j := fun j => fm 344 j (by omega)
  have m46 : ∀ j, dI d6 346 j = dI d3 346 j := fun j => fm 346 j (by omega)
  refine ⟨uv, t6, k6, ?_, ?_, hB.cg (fun j hj => ?_) (fun j hj => ?_) (fun j => ?_) (fun j => ?_), fun s hs z j hj => ?_, ?_, fun s hs z => ?_⟩
  · show dI d6 0 2 = dI d6 328 16
    rw [cC.1, c3 0 2 (by omega), fm 328 16 (by omega), mM.1]
    exact hP
  · obtain ⟨w, w1, w2, w3⟩ := hSL
    refine ⟨w, w1, ?_, fun s hs => ?_⟩
    · rw [cC.2.1, c3 0 9 (by omega)]
      exact w2
    · rw [m46, mM.2.2.2]
      exact w3 s hs
  · rw [m6 j hj, mM.2.1 j (by omega)]
  · rw [cC.2.2.1 j hj, c3 117 j (by omega)]
  · rw [cC.2.2.2.1, c3 123 j (by omega)]
  · rw [cC.2.2.2.2.1, c3 124 j (by omega)]
  · rw [m46, mM.2.2.2] at z
    rw [m44, m6 j hj, mM.2.2.1, mM.2.1 j (by omega)]
    exact hH s hs z j hj
  · rw [cC.2.2.2.2.2.1]
    exact ec
  · rw [m46, mM.2.2.2] at z
    rw [cC.2.2.2.2.2.2 s hs, c3 _ 0 (by omega), m44, mM.2.2.1]
    exact hC.2 s hs z
theorem bits3 : ∀ v, v < 8 → ∀ s, s < 3 → ((((Int32.ofNat v).toUInt32 >>> ((Int32.ofNat s).toUInt32 &&& Int32.toUInt32 31)).toInt32) &&& 1 = 0 ↔ v.testBit s = false) ∧ (Int32.ofNat v ||| ((1 : Int32) <<< (Int32.ofNat s &&& 31))) = Int32.ofNat (v ||| 2 ^ s) ∧ v ||| 2 ^ s < 8 := by decide +kernel
theorem rr_restore {g : Gs} (hS : Shp g) (h : RR d0) (t6 : TB d6) (k6 : KL d6) (hu : fX11_restore 10000 g 0 x1 d0 = some (u, d3)) (I1 : Inv m_sX11_restore__10 b d0 d3) (hv : fX12_restore 10000 g 328 x1 d3 = some (v, d6)) (I2 : Inv m_sX12_restore__11 b' d3 d6) : u = v ∧ RR d6 := by
  have h' := h
  obtain ⟨_, _, hP, hSL, hB, hH, hC⟩ := h
  have mM : MS d0 d3 := MS.fr I1 (by decide +kernel)
  have cC : CS d3 d6 := CS.fr I2 (by decide +kernel)
  obtain ⟨w, w1, w2, w3⟩ := hSL
  have bt : ∀ s : Nat, s < 3 → x1.toInt = (s : Int) → (bt9 d0 x1 ↔ ¬ dI d0 346 s = 0) := by
    intro s hs hx
    rw [← w3 s hs]
    unfold bt9
    rw [w2, ofN hx (by omega)]
    have := (bits3 w w1 s hs).1
    constructor
    · intro z
      cases e : w.testBit s
      · exact absurd (this.mpr e) z
      · rfl
    · intro z y
      rw [this.mp y] at z
      exact absurd z (by decide)
  rcases restC_y hS u d3 hu with ⟨u0, e3, nb⟩ | ⟨s, hs, hx, hb, u1, hcc, fc, _⟩
  · subst e3
    rcases restM_y hS v d6 hv with ⟨v0, e6, _⟩ | ⟨t, ht, hx, hb, _⟩
    · subst e6
      exact ⟨u0.trans v0.symm, h'⟩
    · exact absurd ((bt t ht hx).mpr hb) (nb t ht hx)
  · rcases restM_y hS v d6 hv with ⟨v0, e6, nb⟩ | ⟨t, ht, hx', hb', v1, hr, _, fm, _⟩
    · exact absurd (nb s hs hx) (by rw [mM.2.2.2]; exact (bt s hs hx).mp hb)
    · have est : t = s := by omega
      subst est
      rw [mM.2.2.2] at hb'
      have c3 : ∀ r j, ¬ (227 ≤ r ∧ r ≤ 246) → dI d3 r j = dI d0 r j := fc
      have m6 : ∀ j, j < 352 → dI d6 336 j = dI d0 336 j := fun j hj => by
        rw [hr j (by omega), mM.2.2.1]
        exact hH t hs hb' j hj
      have m44 : ∀ j, dI d6 344 j = dI d3 344 j := fun j => fm 344 j (by decide)
      have m46 : ∀ j, dI d6 346 j = dI d3 346 j := fun j => fm 346 j (by decide)
      refine ⟨u1.trans v1.symm, t6, k6, ?_, ?_, hB.cg (fun j hj => m6 j hj) (fun j hj => ?_) (fun j => ?_) (fun j => ?_), fun s hs z j hj => ?_, ?_, fun s hs z => ?_⟩
      · show dI d6 0 2 = dI d6 328 16
        rw [cC.1, c3 0 2 (by omega), fm 328 16 (by decide), mM.1]
        exact hP
      · refine ⟨w, w1, ?_, fun s hs => ?_⟩
        · rw [cC.2.1, c3 0 9 (by omega)]
          exact w2
        · rw [m46, mM.2.2.2]
          exact w3 s hs
      · rw [cC.2.2.1 j hj, c3 117 j (by omega)]
      · rw [cC.2.2.2.1, c3 123 j (by omega)]
      · rw [cC.2.2.2.2.1, c3 124 j (by omega)]
      · rw [m46, mM.2.2.2] at z
        rw [m44, m6 j hj, mM.2.2.1]
        exact hH s hs z j hj
      · rw [cC.2.2.2.2.2.1, hr 352 (by decide), mM.2.2.1]
        have := hcc.2.1 0 (by decide)
        rw [show 227 + 1 = 228 by rfl, show 268 + 20 * t + 1 = 269 + 20 * t by omega] at this
        rw [this]
        exact hC.2 t hs hb'
      · rw [m46, mM.2.2.2] at z
        rw [cC.2.2.2.2.2.2 s hs, c3 _ 0 (by omega), m44, mM.2.2.1]
        exact hC.2 s hs z
theorem rr_hold {g : Gs} (hS : Shp g) (h : RR d0) (t6 : TB d6) (k6 : KL d6) (hu : fX11_hold 10000 g 0 x1 d0 = some (u, d3)) (I1 : Inv m_sX11_hold__10 b d0 d3) (hv : fX12_hold 10000 g 328 x1 d3 = some (v, d6)) (I2 : Inv m_sX12_hold__11 b' d3 d6) : u = v ∧ RR d6 := by
  have h' := h
  obtain ⟨_, _, hP, hSL, hB, hH, hC⟩ := h
  have mM : MS d0 d3 := MS.fr I1 (by decide +kernel)
  have cC : CS d3 d6 := CS.fr I2 (by decide +kernel)
  obtain ⟨w, w1, w2, w3⟩ := hSL
  rcases holdC_y hS u d3 hu with ⟨u0, e3, nb⟩ | ⟨s, hs, hx, u1, hcc, c9, fc, _⟩
  · subst e3
    rcases holdM_y hS v d6 hv with ⟨v0, e6, _⟩ | ⟨t, ht, hx, _⟩
    · subst e6
      exact ⟨u0.trans v0.symm, h'⟩
    · exact absurd hx (nb t ht)
  · rcases holdM_y hS v d6 hv with ⟨v0, e6, nb⟩ | ⟨t, ht, hx', v1, hr, _, h46, fm, _⟩
    · exact absurd hx (nb s hs)
    · have est : t = s := by omega
      subst est
      have c3 : ∀ r j, ¬ (268 + 20 * t ≤ r ∧ r ≤ 287 + 20 * t) → ¬ (r = 0 ∧ j = 9) → dI d3 r j = dI d0 r j := fc
      have m6 : ∀ j, j < 353 → dI d6 336 j = dI d0 336 j := fun j hj => by
        rw [fm 336 j (by omega) (by omega), mM.2.1 j hj]
      have m46 : ∀ s, ¬ s = t → dI d6 346 s = dI d0 346 s := fun s hs => by
        rw [fm 346 s (by omega) (by omega), mM.2.2.2]
      have b3 := bits3 w w1 t hs
      refine ⟨u1.trans v1.symm, t6, k6, ?_, ⟨w ||| 2 ^ t, b3.2.2, ?_, fun s hs' => ?_⟩, hB.cg (fun j hj => m6 j (by omega)) (fun j hj => ?_) (fun j => ?_) (fun j => ?_), fun s hs' z j hj => ?_, ?_, fun s hs' z => ?_⟩
      · show dI d6 0 2 = dI d6 328 16
        rw [cC.1, c3 0 2 (by omega) (by omega), fm 328 16 (by omega) (by omega), mM.1]
        exact hP
      · rw [cC.2.1, c9, w2, ofN hx (by omega)]
        exact b3.2.1
      · rw [Nat.testBit_or, Nat.testBit_two_pow]
        by_cases z : s = t
        · subst z
          rw [decide_eq_true rfl, Bool.or_true]
          exact ⟨fun _ => h46, fun _ => rfl⟩
        · rw [decide_eq_false (fun y => z y.symm), Bool.or_false, m46 s z]
          exact w3 s hs'
      · rw [cC.2.2.1 j hj, c3 117 j (by omega) (by omega)]
      · rw [cC.2.2.2.1, c3 123 j (by omega) (by omega)]
      · rw [cC.2.2.2.2.1, c3 124 j (by omega) (by omega)]
      · rw [m6 j (by omega)]
        by_cases y : s = t
        · subst y
          rw [hr j (by omega), mM.2.1 j (by omega)]
        · rw [m46 s y] at z
          rw [fm 344 _ (by omega) (by omega), mM.2.2.1]
          exact hH s hs' z j hj
      · rw [cC.2.2.2.2.2.1, c3 228 0 (by omega) (by omega), m6 352 (by decide)]
        exact hC.1
      · rw [cC.2.2.2.2.2.2 s hs']
        by_cases y : s = t
        · subst y
          rw [hr 352 (by decide), mM.2.1 352 (by decide)]
          have := hcc.2.1 0 (by decide)
          rw [show 227 + 1 = 228 by rfl, show 268 + 20 * s + 1 = 269 + 20 * s by omega] at this
          rw [this]
          exact hC.1
        · rw [m46 s y] at z
          rw [c3 _ 0 (by omega) (by omega), fm 344 _ (by omega) (by omega), mM.2.2.1]
          exact hC.2 s hs' z
theorem rr_ahead {g : Gs} (hS : Shp g) (h : RR d0) (t6 : TB d6) (k6 : KL d6) (hu : fX11_ahead 10000 g 0 x1 x2 d0 = some (u, d3)) (I1 : Inv m_sX11_ahead__10 b d0 d3) (hv : fX12_ahead 10000 g 328 x1 x2 d3 = some (v, d6)) (I2 : Inv m_sX12_ahead__11 b' d3 d6) : RR d6 := by
  have mM : MS d0 d3 := MS.fr I1 (by decide +kernel)
  have cC : CS d3 d6 := CS.fr I2 (by decide +kernel)
  have fA := (wA_fX11_ahead (d0 := d0) 10000 g x1 x2 d0 hS FQA.rf) u d3 hu
  obtain ⟨r1, _, r3, _⟩ := aheadM_y hS v d6 hv
  refine rr_same h t6 k6 (CS.tr ⟨fA.1 0 2 (by decide), fA.1 0 9 (by decide), fun j _ => fA.1 117 j (by decide), fun j => fA.1 123 j (by decide), fun j => fA.1 124 j (by decide), fA.1 228 0 (by decide), fun s hs => ?_⟩ cC) (mM.tr ⟨?_, fun j hj => r1 j (by omega), fun j => r3 344 j (by omega), fun j => r3 346 j (by omega)⟩)
  · rcases (show s = 0 ∨ s = 1 ∨ s = 2 by omega) with z | z | z <;> subst z
    · exact fA.1 _ 0 (by decide)
    · exact fA.1 _ 0 (by decide)
    · exact fA.1 _ 0 (by decide)
  · exact rdqc I2 mo_11 (by decide +kernel)
/-- what macro answers -/
def MCA (m : Nat) (ln : Nat → Int32) (cd : Nat → Nat → Int32) (x1 x2 u : Int32) : Prop := (∃ i : Nat, i < m ∧ x1.toInt = (i : Int) ∧ (x2 = -1 ∧ u = ln i ∨ ¬ x2 = -1 ∧ ((∃ j : Nat, (j : Int) < (ln i).toInt ∧ x2.toInt = (j : Int) ∧ u = cd i j) ∨ ((∀ j : Nat, (j : Int) < (ln i).toInt → ¬ x2.toInt = (j : Int)) ∧ u = -1)))) ∨ ((∀ i : Nat, i < m → ¬ x1.toInt = (i : Int)) ∧ u = -1)
theorem mca_unq {m : Nat} {ln ln' : Nat → Int32} {cd cd' : Nat → Nat → Int32} (hl : ∀ i, i < m → ln i = ln' i) (hc : ∀ i, i < m → ∀ j : Nat, (j : Int) < (ln' i).toInt → cd i j = cd' i j) (h : MCA m ln cd x1 x2 u) (k : MCA m ln' cd' x1 x2 v) : u = v := by
  rcases h with ⟨i, i1, i2, i3⟩ | ⟨h1, h2⟩
  · rcases k with ⟨j, j1, j2, j3⟩ | ⟨k1, k2⟩
    · have : i = j := by omega
      subst this
      rw [hl i i1] at i3
      rcases i3 with ⟨a, a1⟩ | ⟨a, a1⟩
      · rcases j3 with ⟨c, c1⟩ | ⟨c, c1⟩
        · exact a1.trans c1.symm
        · exact absurd a c
      · rcases j3 with ⟨c, c1⟩ | ⟨c, c1⟩
        · exact absurd c a
        · rcases a1 with ⟨p, p1, p2, p3⟩ | ⟨p1, p2⟩
          · rcases c1 with ⟨q, q1, q2, q3⟩ | ⟨q1, q2⟩
            · have : p = q := by omega
              subst this
              rw [p3, q3, hc i i1 p p1]
            · exact absurd p2 (q1 p p1)
          · rcases c1 with ⟨q, q1, q2, q3⟩ | ⟨q1, q2⟩
            · exact absurd q2 (p1 q q1)
            · exact p2.trans q2.symm
    · exact absurd i2 (k1 i i1)
  · rcases k with ⟨j, j1, j2, j3⟩ | ⟨k1, k2⟩
    · exact absurd j2 (h1 j j1)
    · exact h2.trans k2.symm
theorem macroC_y {g : Gs} (hS : Shp g) {d : Ds} {m : Nat} (hm : (dI d 117 16).toInt = (m : Int)) (h4 : m ≤ 4) (h8 : ∀ i, i < m → (dI d 123 i).toInt ≤ 8) : pc (fX11_macro 10000 g 0 x1 x2 d) (fun u d' => d' = d ∧ MCA m (fun i => dI d 123 i) (fun i j => dI d 124 (8 * i + j)) x1 x2 u) := by
  have e0 : (0 : Int32).toInt = 0 := by decide
  have e8 : (8 : Int32).toInt = 8 := by decide
  unfold fX11_macro fX11_macro_J15 fX11_macro_J43
  refine pc_if (fun c => pc_some ⟨rfl, Or.inr ⟨fun i hi z => ?_, rfl⟩⟩) (fun c1 => pc_gd (fun _ => pc_ob (fun r e => ?_)))
  · have := Int32.lt_iff_toInt_lt.mp c
    omega
  have := gq hS (e := 117) (by decide +kernel) e
  subst this
  have h1 := Int32.le_iff_toInt_le.mp (nlt c1)
  refine pc_gd (fun _ => pc_if (fun c2 => ?_) (fun c => pc_some ⟨rfl, Or.inr ⟨fun i hi z => ?_, rfl⟩⟩))
  · have h2 := Int32.lt_iff_toInt_lt.mp c2
    obtain ⟨i, hi⟩ : ∃ i : Nat, x1.toInt = (i : Int) := ⟨x1.toInt.toNat, by omega⟩
    have him : i < m := by omega
    refine pc_if (fun q => pc_ob (fun r e => ?_)) (fun q => ?_)
    · have := gq hS (e := 123) (by decide +kernel) e
      subst this
      rw [tn hi]
      exact pc_gd (fun _ => pc_gd (fun _ => pc_some ⟨rfl, Or.inl ⟨i, him, hi, Or.inl ⟨q, rfl⟩⟩⟩))
    · refine pc_cb (P := fun u d' => d' = d ∧ ((∃ j : Nat, (j : Int) < (dI d 123 i).toInt ∧ x2.toInt = (j : Int) ∧ u = dI d 124 (8 * i + j)) ∨ ((∀ j : Nat, (j : Int) < (dI d 123 i).toInt → ¬ x2.toInt = (j : Int)) ∧ u = -1))) ?_ (fun u9 d7 r => pc_some ⟨r.1, Or.inl ⟨i, him, hi, Or.inr ⟨q, r.2⟩⟩⟩)
      unfold fX0_macroCode fX0_macroCode_J26
      refine pc_if (fun c => absurd c c1) (fun _ => pc_gd (fun _ => pc_if (fun c => absurd c (fun c => by have y1 := Int32.le_iff_toInt_le.mp c; omega)) (fun _ => pc_if (fun c => pc_some ⟨rfl, Or.inr ⟨fun j hj z => ?_, rfl⟩⟩) (fun c3 => pc_ob (fun r e => ?_)))))
      · have := Int32.lt_iff_toInt_lt.mp c
        omega
      have := gq hS (e := 123) (by decide +kernel) e
      subst this
      have h3 := Int32.le_iff_toInt_le.mp (nlt c3)
      rw [tn hi]
      refine pc_gd (fun _ => pc_gd (fun _ => pc_if (fun c4 => pc_ob (fun r e => ?_)) (fun c => pc_some ⟨rfl, Or.inr ⟨fun j hj z => ?_, rfl⟩⟩)))
      · have := gq hS (e := 124) (by decide +kernel) e
        subst this
        have h5 := Int32.lt_iff_toInt_lt.mp c4
        obtain ⟨j, hj⟩ : ∃ j : Nat, x2.toInt = (j : Int) := ⟨x2.toInt.toNat, by omega⟩
        have l8 := h8 i him
        have ix := z_add (z_mul (x := x1) (y := 8) hi e8 (by omega) (by omega)) hj (by omega) (by omega)
        rw [tn (p := 8 * i + j) (by rw [ix]; omega)]
        exact pc_gd (fun _ => pc_gd (fun _ => pc_some ⟨rfl, Or.inl ⟨j, by omega, hj, rfl⟩⟩))
      · have := Int32.le_iff_toInt_le.mp (nlt c)
        omega
  · have := Int32.le_iff_toInt_le.mp (nlt c)
    omega
theorem macroM_y {g : Gs} (hS : Shp g) {d : Ds} {m : Nat} (hm : (dI d 336 11).toInt = (m : Int)) (h4 : m ≤ 4) (h8 : ∀ i, i < m → 0 ≤ (dI d 336 (316 + 9 * i)).toInt ∧ (dI d 336 (316 + 9 * i)).toInt ≤ 8) : pc (fX12_macro 10000 g 328 x1 x2 d) (fun u d' => d' = d ∧ MCA m (fun i => dI d 336 (316 + 9 * i)) (fun i j => dI d 336 (316 + 9 * i + 1 + j)) x1 x2 u) := by
  have e0 : (0 : Int32).toInt = 0 := by decide
  have e1 : (1 : Int32).toInt = 1 := by decide
  have e9 : (9 : Int32).toInt = 9 := by decide
  have e316 : (316 : Int32).toInt = 316 := by decide
  have n11 : (11 : Int32).toNatClampNeg = 11 := by decide
  unfold fX12_macro fX12_macro_J74
  refine pc_gd (fun _ => pc_ob (fun r e => ?_))
  have := gq hS (e := 336) (by decide +kernel) e
  subst this
  rw [n11]
  refine pc_gd (fun _ => pc_gd (fun _ => pc_cb inM_y (fun u7 d5 r => ?_)))
  obtain ⟨e, hu⟩ := r
  subst e
  rw [z_sub hm e1 (by omega) (by omega), e0] at hu
  refine pc_if (fun q => pc_some ⟨rfl, Or.inr ⟨fun i hi z => ?_, rfl⟩⟩) (fun q => ?_)
  · rcases hu with ⟨_, hu⟩ | ⟨hu, _⟩
    · omega
    · rw [hu] at q
      exact absurd q (by decide)
  have hx : 0 ≤ x1.toInt ∧ x1.toInt ≤ (m : Int) - 1 := by
    rcases hu with ⟨hu, _⟩ | ⟨_, hu⟩
    · exact absurd hu q
    · exact hu
  obtain ⟨i, hi⟩ : ∃ i : Nat, x1.toInt = (i : Int) := ⟨x1.toInt.toNat, by omega⟩
  have him : i < m := by omega
  have ix := z_add (x := 316) (y := 9 * x1) e316 (z_mul e9 hi (by omega) (by omega)) (by omega) (by omega)
  have i0 : ((316 : Int32) + ((9 : Int32) * x1)).toNatClampNeg = 316 + 9 * i := tn (by rw [ix]; omega)
  rw [i0]
  refine pc_gd (fun _ => pc_bd (fun u10 e10 => ?_))
  subst e10
  have l8 := h8 i him
  have lT := (ivT (dI d5 336 (316 + 9 * i))).1
  refine pc_if (fun q2 => pc_some ⟨rfl, Or.inl ⟨i, him, hi, Or.inl ⟨q2, rfl⟩⟩⟩) (fun q2 => pc_cb inM_y (fun u14 d12 r => ?_))
  obtain ⟨e, hu⟩ := r
  subst e
  rw [z_sub (x := dI d12 336 (316 + 9 * i)) (y := 1) rfl e1 (by omega) (by omega), e0] at hu
  refine pc_if (fun q => pc_some ⟨rfl, Or.inl ⟨i, him, hi, Or.inr ⟨q2, Or.inr ⟨fun j hj z => ?_, rfl⟩⟩⟩⟩) (fun q => ?_)
  · dsimp only at hj
    rcases hu with ⟨_, hu⟩ | ⟨hu, _⟩
    · omega
    · rw [hu] at q
      exact absurd q (by decide)
  have hx2 : 0 ≤ x2.toInt ∧ x2.toInt ≤ (dI d12 336 (316 + 9 * i)).toInt - 1 := by
    rcases hu with ⟨hu, _⟩ | ⟨_, hu⟩
    · exact absurd hu q
    · exact hu
  obtain ⟨j, hj⟩ : ∃ j : Nat, x2.toInt = (j : Int) := ⟨x2.toInt.toNat, by omega⟩
  have ix2 := z_add (z_add ix e1 (by omega) (by omega)) hj (by omega) (by omega)
  have i1 : ((((316 : Int32) + ((9 : Int32) * x1)) + 1) + x2).toNatClampNeg = 316 + 9 * i + 1 + j := tn (by rw [ix2]; omega)
  rw [i1]
  exact pc_gd (fun _ => pc_some ⟨rfl, Or.inl ⟨i, him, hi, Or.inr ⟨q2, Or.inl ⟨j, by show (j : Int) < (dI d12 336 (316 + 9 * i)).toInt; omega, hj, rfl⟩⟩⟩⟩)
/-- how long a macro is, in every world -/
theorem now_mac {d : Ds} (hB : Bnd b d) {i : Nat} (hi : i < 4) : 0 ≤ (dI d 336 (316 + 9 * i)).toInt := by
  have h := hB.1 336 (316 + 9 * i) (by decide) (by rw [nl_55 now_55]; omega)
  rw [now_55] at h
  have h2 : okN (b (own 336)) (316 + 9 * i) (dI d 336 (316 + 9 * i)) := h
  exact (h2.2.2.2.2.2.2.2.2.1 ⟨by omega, by omega, by omega⟩).1
theorem rr_macro {g : Gs} (hS : Shp g) (h : RR d0) (hBn : Bnd b d0) (hu : fX11_macro 10000 g 0 x1 x2 d0 = some (u, d3)) (e3 : d3 = d0) (hv : fX12_macro 10000 g 328 x1 x2 d3 = some (v, d6)) : u = v := by
  subst e3
  obtain ⟨_, _, _, _, ⟨_, _, _, _, _, m, m4, m1, m2, mm⟩, _⟩ := h
  have hc := (macroC_y hS m1 m4 (fun i hi => by rw [(mm i hi).1]; exact (mm i hi).2.1) u d3 hu).2
  have hmm := (macroM_y hS m2 m4 (fun i hi => ⟨now_mac hBn (by omega), (mm i hi).2.1⟩) v d6 hv).2
  exact mca_unq (fun i hi => (mm i hi).1) (fun i hi j hj => (mm i hi).2.2 j hj) hc hmm
theorem rr_place {g : Gs} (h : RR d0) (hu : fX11_place 10000 g 0 d0 = some (u, d3)) (e3 : d3 = d0) (hv : fX12_place 10000 g 328 d3 = some (v, d6)) : u = v := by
  subst e3
  have hc : pc (fX11_place 10000 g 0 d3) (fun u _ => u = dI d3 0 2) := by
    unfold fX11_place
    exact pc_gd (fun _ => pc_some rfl)
  have hm : pc (fX12_place 10000 g 328 d3) (fun u _ => u = dI d3 328 16) := by
    unfold fX12_place
    exact pc_gd (fun _ => pc_some rfl)
  rw [hc u d3 hu, hm v d6 hv]
  exact h.2.2.1
end RL3
/-! fed, gone back; the start -/
def TK (d : Ds) : Prop := TB d ∧ KL d
theorem pc_self {α : Type} {x : Option (α × Ds)} : pc x (fun a d => x = some (a, d)) := fun _ _ e => e
theorem rr_feed {d0 d3 d6 : Ds} (h : RR d0) (t6 : TB d6) (k6 : KL d6) (fc : ∀ r j, ¬ (r = 0 ∧ j = 1) → ¬ r = 1 → dI d3 r j = dI d0 r j) (fm : ∀ r j, ¬ (r = 328 ∧ j = 2) → ¬ r = 329 → dI d6 r j = dI d3 r j) : RR d6 :=
  rr_same h t6 k6 ((CS.all (fun r j hr => fc r j (by omega) (by omega))).tr (CS.all (fun r j hr => fm r j (by omega) (by omega)))) ((MS.all (fun r j hr => fc r j (by omega) (by omega))).tr (MS.all (fun r j hr => fm r j (by omega) (by omega))))
theorem rr_frm {M : Nat} {b : Nat → Int} {d0 d : Ds} (h : Inv M b d0 d) (h1 : Nat.testBit M (cdn 10 1) = false) (h2 : Nat.testBit M (cdn 11 2) = false) (h3 : Nat.testBit M 1280 = false) (h4 : Nat.testBit M 3072 = false) (hc : csb M = true) (hm : msb M = true) (k : KL d) (r : RR d0) : RR d := rr_same r (tb_frm h h1 h2 h3 h4 r.1) k (CS.fr h hc) (MS.fr h hm)
/-- cells at the start -/
def rrc : List (Nat × Nat × Int32) := [(0, 2, -1), (328, 16, -1), (0, 9, 0), (346, 0, 0), (346, 1, 0), (346, 2, 0), (117, 0, 0), (117, 1, 0), (117, 2, 0), (117, 4, 2), (117, 16, 0), (336, 0, 0), (336, 1, 0), (336, 2, 0), (336, 4, 2), (336, 11, 0), (228, 0, 0), (336, 352, 0)]
theorem rr_0 {d : Ds} (h : TK d) (hm : rrc.all (fun t => dI d t.1 t.2.1 == t.2.2) = true) : RR d := by
  have c : ∀ (r j : Nat) (x : Int32), (r, j, x) ∈ rrc → dI d r j = x := fun r j x hx => beq_iff_eq.mp (List.all_eq_true.mp hm (r, j, x) hx)
  have s0 : ∀ s, s < 3 → dI d 346 s = 0 := fun s hs => by
    rcases (show s = 0 ∨ s = 1 ∨ s = 2 by omega) with z | z | z <;> subst z
    · exact c 346 0 0 (by decide)
    · exact c 346 1 0 (by decide)
    · exact c 346 2 0 (by decide)
  refine ⟨h.1, h.2, ?_, ⟨0, by decide, c 0 9 0 (by decide), fun s hs => ?_⟩, ⟨?_, ?_, ?_, ?_, Or.inl ⟨c 336 0 0 (by decide), c 336 1 0 (by decide)⟩, 0, by decide, ?_, ?_, fun i hi => absurd hi (Nat.not_lt_zero i)⟩, fun s hs z => absurd (s0 s hs) z, ?_, fun s hs z => absurd (s0 s hs) z⟩
  · show dI d 0 2 = dI d 328 16
    rw [c 0 2 (-1) (by decide), c 328 16 (-1) (by decide)]
  · rw [s0 s hs, Nat.zero_testBit]
    exact ⟨fun z => absurd z (by decide), fun z => absurd rfl z⟩
  · show dI d 117 0 = dI d 336 0
    rw [c 117 0 0 (by decide), c 336 0 0 (by decide)]
  · show dI d 117 1 = dI d 336 1
    rw [c 117 1 0 (by decide), c 336 1 0 (by decide)]
  · show dI d 117 2 = dI d 336 2
    rw [c 117 2 0 (by decide), c 336 2 0 (by decide)]
  · show dI d 117 4 = dI d 336 4
    rw [c 117 4 2 (by decide), c 336 4 2 (by decide)]
  · rw [c 117 16 0 (by decide)]
    decide
  · show (dI d 336 11).toInt = _
    rw [c 336 11 0 (by decide)]
    decide
  · rw [c 228 0 0 (by decide), c 336 352 0 (by decide)]
