/-! the scan through the calls -/
section SC3
variable {d0 d3 d6 : Ds} {u v x1 x2 : Int32} {b b' : Nat → Int}
theorem pressC_z {g : Gs} (hS : Shp g) {d : Ds} {r c : Nat} (hR : RC r c) (hr : (dI d 117 0).toInt = (r : Int)) (hc : (dI d 117 1).toInt = (c : Int)) : pc (fX11_press 10000 g 0 x1 x2 d) (fun _ d' => dI d' 228 3 = dI d 228 3 ∧ (dI d' 228 0 = dI d 228 0 ∧ dI d' 228 1 = dI d 228 1 ∧ dI d' 228 2 = dI d 228 2 ∨ dI d' 228 1 = (if dI d 117 2 = 0 then seF r c (dI d' 228 0) (r * c) (r * c) else dI d' 228 0) ∧ dI d' 228 2 = (if dI d 117 2 = 0 then baF r c (seF r c (dI d' 228 0) (r * c) (r * c)) (r * c) else 0))) := by
  unfold fX11_press fX11_press_J31
  refine pc_gd (fun _ => pc_ob (fun r' e => ?_))
  have := gq hS (e := 227) (by decide +kernel) e
  subst this
  refine pc_gd (fun _ => pc_ob (fun r' e => ?_))
  have := gq hS (e := 228) (by decide +kernel) e
  subst this
  refine pc_ob (fun r' e => ?_)
  have := gq hS (e := 117) (by decide +kernel) e
  subst this
  refine pc_gd (fun _ => pc_cb hasKey_y (fun u9 d7 r' => ?_))
  obtain ⟨e, _⟩ := r'
  subst e
  refine pc_if (fun _ => pc_some ⟨rfl, Or.inl ⟨rfl, rfl, rfl⟩⟩) (fun _ => pc_gd (fun _ => pc_cb isin_y (fun u14 d12 r' => ?_)))
  obtain ⟨e, _⟩ := r'
  subst e
  refine pc_if (fun _ => pc_some ⟨rfl, Or.inl ⟨rfl, rfl, rfl⟩⟩) (fun _ => pc_bd (fun d16 e16 => pc_ob (fun r' e => ?_)))
  have := gq hS (e := 225) (by decide +kernel) e
  subst this
  refine pc_gd (fun _ => pc_cv (follow_e hS hR (by rw [rdq e16 (Or.inl (by decide))]; exact hr) (by rw [rdq e16 (Or.inl (by decide))]; exact hc)) (fun d19 r' => pc_bd (fun d21 e21 => pc_bd (fun d22 e22 => pc_some ⟨?_, Or.inr ⟨?_, ?_⟩⟩))))
  · rw [rdq e22 (Or.inr (by decide)), rdq e21 (Or.inr (by decide)), r'.2.2.2 228 3 (by decide), rdq e16 (Or.inr (by decide))]
  · have e0 : dI d22 228 0 = dI d16 228 0 := by rw [rdq e22 (Or.inr (by decide)), rdq e21 (Or.inr (by decide)), r'.2.2.2 228 0 (by decide)]
    rw [e0, rdq e22 (Or.inr (by decide)), e21, sI_rd, if_pos ⟨rfl, rfl⟩, r'.2.1, rdq e16 (Or.inl (by decide))]
  · have e0 : dI d22 228 0 = dI d16 228 0 := by rw [rdq e22 (Or.inr (by decide)), rdq e21 (Or.inr (by decide)), r'.2.2.2 228 0 (by decide)]
    rw [e0, e22, sI_rd, if_pos ⟨rfl, rfl⟩, rdq e21 (Or.inl (by decide)), r'.2.2.1, rdq e16 (Or.inl (by decide))]
theorem sq_press {g : Gs} (hS : Shp g) (h : RR d0) (q : SQ d0) (hBn : Bnd b d0) (hu : fX11_press 10000 g 0 x1 x2 d0 = some (u, d3)) (I1 : Inv m_sX11_press__10 b d0 d3) (hv : fX12_press 10000 g 328 x1 x2 d3 = some (v, d6)) (I2 : Inv m_sX12_press__11 b' d3 d6) (h6 : RR d6) : SQ d6 := by
  have mM : MS d0 d3 := MS.fr I1 (by decide +kernel)
  have hB := h.2.2.2.2.1
  obtain ⟨r, c, hR, hr, hc, a0, a1⟩ := bq_rc hB
  obtain ⟨n, hn, n1, n2⟩ := bqf_mul hB
  have a2 : dI d0 117 2 = dI d0 336 2 := hB.2.2.1
  obtain ⟨pc1, fc, Fc⟩ := pressC_y hS n1 hn u d3 hu
  obtain ⟨z3, zz⟩ := pressC_z hS hR (by rw [show dI d0 117 0 = dI d0 336 0 from a0]; exact hr) (by rw [show dI d0 117 1 = dI d0 336 1 from a1]; exact hc) u d3 hu
  obtain ⟨pm1, fm, Fm⟩ := pressM_y (n := n) hS (by rw [mM.2.1 0 (by decide), mM.2.1 1 (by decide)]; exact n2) hn v d6 hv
  have cI : ∀ r' j, ¬ (225 ≤ r' ∧ r' ≤ 226) → ¬ r' = 228 → ¬ (r' = 336 ∧ j = 352) → dI d6 r' j = dI d0 r' j := fun r' j p1 p2 p3 => (fm r' j p3).trans (fc r' j p1 p2)
  have c28 : ∀ j, dI d6 228 j = dI d3 228 j := fun j => fm 228 j (by omega)
  have cF : ∀ r' j, ¬ (225 ≤ r' ∧ r' ≤ 226) → dF d6 r' j = dF d0 r' j := fun r' j p1 => (Fm r' j).trans (Fc r' j p1)
  have cl6 : dI d6 228 0 = dI d6 336 352 := h6.2.2.2.2.2.2.1
  have cl0 : dI d0 228 0 = dI d0 336 352 := h.2.2.2.2.2.2.1
  obtain ⟨q1, q2⟩ := q
  refine ⟨?_, fun s hs z => ?_⟩
  · rcases zz with ⟨y0, y1, y2⟩ | ⟨y1, y2⟩
    · refine q1.cg (cI 227 5 (by omega) (by omega) (by omega)) (fun j hj hj0 => ?_) (fun k hk => ⟨cI 229 k (by omega) (by omega) (by omega), cF 230 k (by omega), cI 231 k (by omega) (by omega) (by omega), cI 232 k (by omega) (by omega) (by omega), cI 233 k (by omega) (by omega) (by omega)⟩) (fun j hj => ?_) (fun k hk => cF 338 k (by omega)) hB.n24
      · show dI d6 228 j = dI d0 228 j
        rw [c28]
        rcases (show j = 1 ∨ j = 2 ∨ j = 3 by omega) with w | w | w <;> subst w
        · exact y1
        · exact y2
        · exact z3
      · show dI d6 336 j = dI d0 336 j
        by_cases w : j = 352
        · subst w
          rw [← cl6, ← cl0, c28]
          exact y0
        · exact cI 336 j (by omega) (by omega) (by omega)
    · obtain ⟨p1, p2, p3, p4, p5, p6, p7, p8⟩ := q1
      have m6 : ∀ j, ¬ j = 352 → dI d6 336 j = dI d0 336 j := fun j hj => cI 336 j (by omega) (by omega) (by omega)
      have rwe : rwN (fun j => dI d6 336 j) = r := by unfold rwN; dsimp only; rw [m6 0 (by decide), hr]; rfl
      have cle : clN (fun j => dI d6 336 j) = c := by unfold clN; dsimp only; rw [m6 1 (by decide), hc]; rfl
      have rw0 : rwN (fun j => dI d0 336 j) = r := by unfold rwN; rw [hr]; rfl
      have cl0' : clN (fun j => dI d0 336 j) = c := by unfold clN; rw [hc]; rfl
      have e2 : dI d6 336 2 = dI d0 117 2 := (m6 2 (by decide)).trans a2.symm
      rw [← c28 0, cl6] at y1 y2
      have e1 : dI d6 228 1 = SEE (fun j => dI d6 336 j) := by
        rw [c28, y1, SEE_rc rwe cle]
        show _ = if dI d6 336 2 = 1 then dI d6 336 352 else seF r c (dI d6 336 352) (r * c) (r * c)
        rw [e2]
        rcases di_01 hBn with z | z <;> rw [z]
        · rw [if_pos rfl, if_neg (by decide)]
        · rw [if_neg (by decide), if_pos rfl]
      have eb : dI d6 228 2 = BAR (fun j => dI d6 336 j) := by
        rw [BAR_rc rwe cle, ← e1, c28, c28, y1, y2]
        show _ = if dI d6 336 2 = 1 then 0 else baF r c _ (r * c)
        rw [e2]
        rcases di_01 hBn with z | z <;> rw [z]
        · rw [if_pos rfl, if_neg (by decide), if_pos rfl]
        · rw [if_neg (by decide), if_pos rfl]
      refine ⟨?_, ?_, e1, eb, fun k hk => ?_, fun k hk => ?_, fun k hk => ?_, fun k hk => ?_⟩
      · show dI d6 227 5 = dI d6 336 354
        rw [cI 227 5 (by omega) (by omega) (by omega), m6 354 (by decide)]
        exact p1
      · show dI d6 228 3 = dI d6 336 353
        rw [c28, z3, m6 353 (by decide)]
        exact p2
      · show dI d6 229 k = dI d6 336 (355 + k) ∧ dF d6 230 k = dF d6 338 k ∧ dI d6 231 k = dI d6 336 (459 + k) ∧ dI d6 232 k = dI d6 336 (483 + k) ∧ dI d6 233 k = dI d6 336 (507 + k)
        rw [cI 229 k (by omega) (by omega) (by omega), cI 231 k (by omega) (by omega) (by omega), cI 232 k (by omega) (by omega) (by omega), cI 233 k (by omega) (by omega) (by omega), cF 230 k (by omega), cF 338 k (by omega), m6 (355 + k) (by omega), m6 (459 + k) (by omega), m6 (483 + k) (by omega), m6 (507 + k) (by omega)]
        exact p5 k hk
      · rw [rwe, cle] at hk
        rw [rw0, cl0'] at p6
        show 0 ≤ (dI d6 336 (355 + k)).toInt ∧ (dI d6 336 (355 + k)).toInt < (dI d6 336 4).toInt
        have := hR.n.1
        rw [m6 (355 + k) (by omega), m6 4 (by decide)]
        exact p6 k hk
      · show bN (dI d6 336 353) k = true → dI d6 336 (531 + k) = dI d6 336 (507 + k)
        rw [m6 353 (by decide), m6 (531 + k) (by omega), m6 (507 + k) (by omega)]
        exact p7 k hk
      · show SteOk (dF d6 338 k)
        rw [cF 338 k (by omega)]
        exact p8 k hk
  · have z0 : ¬ dI d0 346 s = 0 := by rw [cI 346 s (by omega) (by omega) (by omega)] at z; exact z
    refine (q2 s hs z0).id (fun r' j w => cI r' j (by omega) (by omega) (by omega)) (fun r' j w => cF r' j (by omega)) (fun j _ => ?_) (fun k _ => ?_) (hn_s h hs z0)
    · exact cI 344 _ (by omega) (by omega) (by omega)
    · exact cF 345 _ (by omega)
theorem sq_restore {g : Gs} (hS : Shp g) (h : RR d0) (q : SQ d0) (hu : fX11_restore 10000 g 0 x1 d0 = some (u, d3)) (hv : fX12_restore 10000 g 328 x1 d3 = some (v, d6)) (uv : u = v) : SQ d6 := by
  rcases restC_y hS u d3 hu with ⟨u0, e3, _⟩ | ⟨s, hs, hx, hb, u1, hcc, fc, Fc⟩
  · subst e3
    rcases restM_y hS v d6 hv with ⟨v0, e6, _⟩ | ⟨t, ht, hx, hb, v1, _⟩
    · subst e6
      exact q
    · rw [u0, v1] at uv
      exact absurd uv (by decide)
  · rcases restM_y hS v d6 hv with ⟨v0, e6, nb⟩ | ⟨t, ht, hx', hb', v1, hr, hF, fm, Fm⟩
    · rw [u1, v0] at uv
      exact absurd uv (by decide)
    · have est : t = s := by omega
      subst est
      have c3 : ∀ r j, ¬ (227 ≤ r ∧ r ≤ 246) → dI d3 r j = dI d0 r j := fc
      have z0 : ¬ dI d0 346 t = 0 := by rw [c3 346 t (by omega)] at hb'; exact hb'
      have hn := hn_s h hs z0
      refine ⟨?_, fun s hs' z => ?_⟩
      · refine (q.2 t hs z0).cg ?_ (fun j hj _ => ?_) (fun k hk => ?_) (fun j hj => ?_) (fun k hk => ?_) hn
        · rw [fm 227 5 (by decide)]
          exact hcc.1
        · rw [fm (227 + 1) j (by decide)]
          exact hcc.2.1 j hj
        · rw [fm (227 + 2) k (by decide), Fm (227 + 3) k (by decide), fm (227 + 4) k (by decide), fm (227 + 5) k (by decide), fm (227 + 6) k (by decide)]
          exact hcc.2.2 k hk
        · show dI d6 336 j = dI d0 344 (9178 * t + j)
          rw [hr j (by omega), c3 344 _ (by omega)]
        · show dF d6 338 k = dF d0 345 (24 * t + k)
          rw [hF k hk, Fc 345 _ (by decide)]
      · have z1 : ¬ dI d0 346 s = 0 := by rw [fm 346 s (by decide), c3 346 s (by omega)] at z; exact z
        refine (q.2 s hs' z1).id (fun r' j w => ?_) (fun r' j w => ?_) (fun j _ => ?_) (fun k _ => ?_) (hn_s h hs' z1)
        · rw [fm r' j (by omega), c3 r' j (by omega)]
        · rw [Fm r' j (by omega), Fc r' j (by omega)]
        · show dI d6 344 _ = dI d0 344 _
          rw [fm 344 _ (by decide), c3 344 _ (by omega)]
        · show dF d6 345 _ = dF d0 345 _
          rw [Fm 345 _ (by decide), Fc 345 _ (by decide)]
theorem sq_hold {g : Gs} (hS : Shp g) (h : RR d0) (q : SQ d0) (hu : fX11_hold 10000 g 0 x1 d0 = some (u, d3)) (hv : fX12_hold 10000 g 328 x1 d3 = some (v, d6)) (uv : u = v) : SQ d6 := by
  rcases holdC_y hS u d3 hu with ⟨u0, e3, _⟩ | ⟨s, hs, hx, u1, hcc, c9, fc, Fc⟩
  · subst e3
    rcases holdM_y hS v d6 hv with ⟨v0, e6, _⟩ | ⟨t, ht, hx, v1, _⟩
    · subst e6
      exact q
    · rw [u0, v1] at uv
      exact absurd uv (by decide)
  · rcases holdM_y hS v d6 hv with ⟨v0, e6, nb⟩ | ⟨t, ht, hx', v1, hr, hF, h46, fm, Fm⟩
    · rw [u1, v0] at uv
      exact absurd uv (by decide)
    · have est : t = s := by omega
      subst est
      have c3 : ∀ r j, ¬ (268 + 20 * t ≤ r ∧ r ≤ 287 + 20 * t) → ¬ (r = 0 ∧ j = 9) → dI d3 r j = dI d0 r j := fc
      have m6 : ∀ j, dI d6 336 j = dI d0 336 j := fun j => by
        rw [fm 336 j (by omega) (by omega), c3 336 j (by omega) (by omega)]
      have f6 : ∀ k, dF d6 338 k = dF d0 338 k := fun k => by
        rw [Fm 338 k (by omega), Fc 338 k (by omega)]
      have hn := h.2.2.2.2.1.n24
      refine ⟨q.1.id (fun r' j w => ?_) (fun r' j w => ?_) (fun j _ => m6 j) (fun k _ => f6 k) hn, fun s hs' z => ?_⟩
      · rw [fm r' j (by omega) (by omega), c3 r' j (by omega) (by omega)]
      · rw [Fm r' j (by omega), Fc r' j (by omega)]
      · by_cases y : s = t
        · subst y
          refine q.1.cg ?_ (fun j hj _ => ?_) (fun k hk => ?_) (fun j hj => ?_) (fun k hk => ?_) hn
          · rw [fm _ 5 (by omega) (by omega)]
            exact hcc.1
          · rw [fm _ j (by omega) (by omega)]
            exact hcc.2.1 j hj
          · rw [fm _ k (by omega) (by omega), Fm _ k (by omega), fm _ k (by omega) (by omega), fm _ k (by omega) (by omega), fm _ k (by omega) (by omega)]
            exact hcc.2.2 k hk
          · show dI d6 344 (9178 * s + j) = dI d0 336 j
            rw [hr j (by omega), c3 336 j (by omega) (by omega)]
          · show dF d6 345 (24 * s + k) = dF d0 338 k
            rw [hF k hk, Fc 338 k (by omega)]
        · have z1 : ¬ dI d0 346 s = 0 := by rw [fm 346 s (by omega) (by omega), c3 346 s (by omega) (by omega)] at z; exact z
          refine (q.2 s hs' z1).id (fun r' j w => ?_) (fun r' j w => ?_) (fun j _ => ?_) (fun k _ => ?_) (hn_s h hs' z1)
          · rw [fm r' j (by omega) (by omega), c3 r' j (by omega) (by omega)]
          · rw [Fm r' j (by omega), Fc r' j (by omega)]
          · show dI d6 344 _ = dI d0 344 _
            rw [fm 344 _ (by omega) (by omega), c3 344 _ (by omega) (by omega)]
          · show dF d6 345 _ = dF d0 345 _
            rw [Fm 345 _ (by omega), Fc 345 _ (by omega)]
theorem sq_ahead {g : Gs} (hS : Shp g) (h : RR d0) (q : SQ d0) (hu : fX11_ahead 10000 g 0 x1 x2 d0 = some (u, d3)) (hv : fX12_ahead 10000 g 328 x1 x2 d3 = some (v, d6)) : SQ d6 := by
  have fA := (wA_fX11_ahead (d0 := d0) 10000 g x1 x2 d0 hS FQA.rf) u d3 hu
  have fD := (wD_fX12_ahead (d0 := d3) 10000 g x1 x2 d3 hS FQD.rf) v d6 hv
  obtain ⟨r1, r2, r3, r4⟩ := aheadM_y hS v d6 hv
  have pA : ∀ r, ¬ (247 ≤ r ∧ r ≤ 266) → fp_A r = false := fun r w => by
    unfold fp_A
    simp only [Bool.and_eq_false_imp, decide_eq_true_eq, decide_eq_false_iff_not]
    omega
  have pD : ∀ r, r < 328 → fp_D r = false := fun r w => by
    unfold fp_D
    exact decide_eq_false (by omega)
  have cI : ∀ r j, r < 328 → ¬ (247 ≤ r ∧ r ≤ 266) → dI d6 r j = dI d0 r j := fun r j p1 p2 => (fD.1 r j (pD r p1)).trans (fA.1 r j (pA r p2))
  have cF : ∀ r j, r < 328 → ¬ (247 ≤ r ∧ r ≤ 266) → dF d6 r j = dF d0 r j := fun r j p1 p2 => (fD.2 r j (pD r p1)).trans (fA.2 r j (pA r p2))
  refine ⟨q.1.id (fun r' j w => cI r' j (by omega) (by omega)) (fun r' j w => cF r' j (by omega) (by omega)) (fun j hj => ?_) (fun k hk => ?_) h.2.2.2.2.1.n24, fun s hs z => ?_⟩
  · show dI d6 336 j = dI d0 336 j
    rw [r1 j (by omega), fA.1 336 j (by decide)]
  · show dF d6 338 k = dF d0 338 k
    rw [r2 k hk, fA.2 338 k (by decide)]
  · have z1 : ¬ dI d0 346 s = 0 := by rw [r3 346 s (by omega), fA.1 346 s (by decide)] at z; exact z
    refine (q.2 s hs z1).id (fun r' j w => cI r' j (by omega) (by omega)) (fun r' j w => cF r' j (by omega) (by omega)) (fun j _ => ?_) (fun k _ => ?_) (hn_s h hs z1)
    · show dI d6 344 _ = dI d0 344 _
      rw [r3 344 _ (by omega), fA.1 344 _ (by decide)]
    · show dF d6 345 _ = dF d0 345 _
      rw [r4, fA.2 345 _ (by decide)]
theorem eqB_0 {r c : Nat} : ∀ n x y, eqB r c 0 n x y = (x == y) := by
  intro n
  induction n with
  | zero => intro x y; rfl
  | succ k ih =>
    intro x y
    rw [eqB_n (by rw [bN_0]; decide)]
    exact ih x y
theorem seF_0 {r c : Nat} (hR : RC r c) : ∀ k, k ≤ r * c → seF r c 0 (r * c) k = 0 := by
  intro k
  induction k with
  | zero => intro _; rfl
  | succ k ih =>
    intro hk
    have h := hR.k (k := k) (by omega)
    show (if eqB r c 0 (r * c) (k / c) (r + k % c) = true then _ else seF r c 0 (r * c) k) = 0
    rw [eqB_0, if_neg (fun z => by have := beq_iff_eq.mp z; omega)]
    exact ih (by omega)
theorem baF_0 {r c : Nat} : ∀ k, baF r c 0 k = 0 := by
  intro k
  induction k with
  | zero => rfl
  | succ k ih =>
    have e : crO c 0 r (k / c) (k % c) = false := by
      cases h : crO c 0 r (k / c) (k % c)
      · rfl
      · obtain ⟨_, _, _, _, _, _, z, _⟩ := crO_iff.mp h
        rw [bN_0] at z
        exact absurd z (by decide)
    show (if crO c 0 r (k / c) (k % c) = true then _ else baF r c 0 k) = 0
    rw [e, if_neg (by decide)]
    exact ih
/-- a fresh scan -/
theorem sq_fresh {d : Ds} (hB : BQ d) (hC : SCF d) (hM : (∀ j, 352 ≤ j → j < 555 → dI d 336 j = frv j) ∧ ∀ k, k < 24 → dF d 338 k = FP.fconst0) (hz : ∀ s, s < 3 → dI d 346 s = 0) : SQ d := by
  obtain ⟨r, c, hR, hr, hc, a0, a1⟩ := bq_rc hB
  obtain ⟨c5, c8, ck⟩ := hC
  have rwe : rwN (fun j => dI d 336 j) = r := by unfold rwN; rw [hr]; rfl
  have cle : clN (fun j => dI d 336 j) = c := by unfold clN; rw [hc]; rfl
  have w352 : dI d 336 352 = 0 := (hM.1 352 (by decide) (by decide)).trans (by decide)
  have eS : SEE (fun j => dI d 336 j) = 0 := by
    unfold SEE
    dsimp only
    rw [rwe, cle, w352, seF_0 hR _ (Nat.le_refl _)]
    split <;> rfl
  have eB : BAR (fun j => dI d 336 j) = 0 := by
    unfold BAR
    rw [eS, baF_0]
    split <;> rfl
  have fr : ∀ j v, 352 ≤ j → j < 555 → frv j = v → dI d 336 j = v := fun j v h1 h2 h3 => (hM.1 j h1 h2).trans h3
  have fz : ∀ j, ¬ ((379 ≤ j ∧ j < 451 ∧ (j - 379) % 3 < 2) ∨ (507 ≤ j ∧ j < 531) ∨ j = 454 ∨ j = 455 ∨ j = 456 ∨ j = 458) → frv j = 0 := fun j h => if_neg h
  have fn : ∀ j, (507 ≤ j ∧ j < 531) → frv j = -1 := fun j h => if_pos (Or.inr (Or.inl h))
  refine ⟨⟨?_, ?_, ?_, ?_, fun k hk => ?_, fun k hk => ?_, fun k hk z => ?_, fun k hk => ?_⟩, fun s hs z => absurd (hz s hs) z⟩
  · exact c5.trans (fr 354 0 (by decide) (by decide) (fz _ (by decide))).symm
  · exact (c8 3 (by decide)).trans (fr 353 0 (by decide) (by decide) (fz _ (by decide))).symm
  · exact (c8 1 (by decide)).trans eS.symm
  · exact (c8 2 (by decide)).trans eB.symm
  · obtain ⟨s1, s2, s3, s4, s5⟩ := ck k hk
    refine ⟨?_, ?_, ?_, ?_, ?_⟩
    · exact s1.trans (fr (355 + k) 0 (by omega) (by omega) (fz _ (by omega))).symm
    · exact s2.trans (hM.2 k hk).symm
    · exact s3.trans (fr (459 + k) 0 (by omega) (by omega) (fz _ (by omega))).symm
    · exact s4.trans (fr (483 + k) 0 (by omega) (by omega) (fz _ (by omega))).symm
    · exact s5.trans (fr (507 + k) (-1) (by omega) (by omega) (fn _ (by omega))).symm
  · rw [rwe, cle] at hk
    have hn := hR.n.1
    show 0 ≤ (dI d 336 (355 + k)).toInt ∧ (dI d 336 (355 + k)).toInt < (dI d 336 4).toInt
    rw [fr (355 + k) 0 (by omega) (by omega) (fz _ (by omega))]
    have e0 : (0 : Int32).toInt = 0 := by decide
    rw [e0]
    rcases hB.2.2.2.2.1 with ⟨z, _⟩ | ⟨_, _, z⟩
    · exfalso
      have z0 : dI d 336 0 = 0 := z
      have hr' : (dI d 336 0).toInt = (r : Int) := hr
      rw [z0, e0] at hr'
      have : r = 0 := by omega
      rw [this, Nat.zero_mul] at hk
      omega
    · have z1 : 1 ≤ (dI d 336 4).toInt := z.1
      omega
  · exfalso
    have z1 : bN (dI d 336 353) k = true := z
    rw [fr 353 0 (by decide) (by decide) (fz _ (by decide)), bN_0] at z1
    exact absurd z1 (by decide)
  · show SteOk (dF d 338 k)
    rw [hM.2 k hk]
    exact PS_0
theorem sq_read {g : Gs} (hS : Shp g) (h : RR d0) (q : SQ d0) (k3 : KL d3) (hu : fX11_read 10000 g 0 d0 = some (u, d3)) (I1 : Inv m_sX11_read__10 b d0 d3) (hv : fX12_read 10000 g 328 d3 = some (v, d6)) (uv : u = v) (h6 : RR d6) : SQ d6 := by
  obtain ⟨⟨t1, t2, t3⟩, _, hP, hSL, hB, hH, hC⟩ := h
  have lo := t2.1
  have hi := t2.2
  obtain ⟨n, hn⟩ : ∃ n : Nat, (dI d0 0 1).toInt = (n : Int) := ⟨(dI d0 0 1).toInt.toNat, by omega⟩
  have rc := readC_y (t := fun j => dI d0 1 j) hS rfl hn (by omega) u d3 hu
  have e2 : dI d3 328 2 = dI d0 328 2 := rdqc I1 mo_11 (by decide +kernel)
  have e329 : ∀ j, dI d3 329 j = dI d0 329 j := fun j => I1.2.1 329 j (by rw [ta_48, cdn, if_neg (by decide), if_neg (by decide)]; decide +kernel)
  have rm := read_y (t := fun j => if j < n then dI d3 329 j else 0) hS (fun j hj => by rw [if_pos hj]) (fun j => by
    split
    · rename_i hj
      rw [e329]
      obtain ⟨a, b⟩ := t3 j (by omega)
      rw [← a]
      exact b
    · exact ⟨by decide, by decide⟩) (by rw [e2, ← t1]; exact hn) (by omega) k3 v d6 hv
  have fD := (wD_fX12_read (d0 := d3) 10000 g d3 hS FQD.rf) v d6 hv
  have cI : ∀ r j, r < 328 → dI d6 r j = dI d3 r j := fun r j w => fD.1 r j (decide_eq_false (by omega))
  have cF : ∀ r j, r < 328 → dF d6 r j = dF d3 r j := fun r j w => fD.2 r j (decide_eq_false (by omega))
  obtain ⟨i, _, _, _, i4, i5⟩ := rc
  obtain ⟨j, _, _, _, j4, j5⟩ := rm
  by_cases z : u = 0
  · have z' : v = 0 := uv.symm.trans z
    obtain ⟨_, ⟨c5, c8, ck⟩, _⟩ := i5 z
    obtain ⟨⟨_, w2, w3⟩, _⟩ := j5 z'
    refine sq_fresh h6.2.2.2.2.1 ⟨?_, fun l hl => ?_, fun k hk => ?_⟩ ⟨fun l p q => w3.1 l p (by omega), w3.2⟩ w2
    · rw [cI 227 5 (by decide)]
      exact c5
    · rw [cI 228 l (by decide)]
      exact c8 l hl
    · rw [cI 229 k (by decide), cF 230 k (by decide), cI 231 k (by decide), cI 232 k (by decide), cI 233 k (by decide)]
      exact ck k hk
  · have z' : ¬ v = 0 := fun y => z (uv.trans y)
    obtain ⟨_, f1, F1⟩ := i4 z
    obtain ⟨_, f2, F2⟩ := j4 z'
    have G : ∀ r l, dF d6 r l = dF d0 r l := fun r l => by
      unfold dF
      rw [F2, F1]
    refine sq_same ⟨⟨t1, t2, t3⟩, by assumption, hP, hSL, hB, hH, hC⟩ q (fun r l w => ?_) (fun r l _ => G r l)
    unfold scR at w
    have nb : npb r = false := by
      unfold npb
      simp only [Bool.not_eq_false', Bool.or_eq_true, beq_iff_eq, Bool.and_eq_true, decide_eq_true_eq]
      omega
    exact (f2 r nb l).trans (f1 r l nb (by omega))
/-- what strokes answers -/
theorem sq_strokes {g : Gs} (hS : Shp g) (h : RR d0) (q : SQ d0) (hu : fX11_strokes 10000 g 0 x1 x2 d0 = some (u, d3)) (e3 : d3 = d0) (hv : fX12_strokes 10000 g 328 x1 x2 d3 = some (v, d6)) : u = v := by
  subst e3
  have hB := h.2.2.2.2.1
  obtain ⟨n, hn, n1, n2⟩ := bqf_mul hB
  have e0 : (0 : Int32).toInt = 0 := by decide
  have e1 : (1 : Int32).toInt = 1 := by decide
  have e2 : (2 : Int32).toInt = 2 := by decide
  obtain ⟨⟨p1, p2, p3, p4, p5, p6, p7, _⟩, _⟩ := q
  have C : pc (fX11_strokes 10000 g 0 x1 x2 d3) (fun u _ => (¬ (0 ≤ x1.toInt ∧ x1.toInt < n) ∨ ¬ (0 ≤ x2.toInt ∧ x2.toInt ≤ 2)) ∧ u = -2 ∨ ∃ k : Nat, k < n ∧ x1.toInt = (k : Int) ∧ (x2.toInt = 0 ∧ u = dI d3 231 k ∨ x2.toInt = 1 ∧ u = dI d3 232 k ∨ x2.toInt = 2 ∧ u = dI d3 233 k)) := by
    unfold fX11_strokes
    refine pc_gd (fun _ => pc_ob (fun r e => ?_))
    have := gq hS (e := 117) (by decide +kernel) e
    subst this
    refine pc_gd (fun _ => pc_cb hasKey_y (fun u6 d4 r => ?_))
    obtain ⟨e, hw6⟩ := r
    subst e
    rw [n1] at hw6
    rcases hw6 with ⟨hw6, l1, l2⟩ | ⟨hw6, l⟩ <;> rw [hw6]
    · refine pc_if (fun z => absurd z (by decide)) (fun _ => pc_ob (fun r e => ?_))
      have := gq hS (e := 227) (by decide +kernel) e
      subst this
      refine pc_gd (fun _ => pc_ob (fun r e => ?_))
      have := gq hS (e := 228) (by decide +kernel) e
      subst this
      obtain ⟨k, hk⟩ : ∃ k : Nat, x1.toInt = (k : Int) := ⟨x1.toInt.toNat, by omega⟩
      have hkn : k < n := by omega
      rw [tn hk]
      refine pc_if (fun z => pc_some (Or.inl ⟨Or.inr (by omega), rfl⟩)) (fun z => pc_if (fun z0 => pc_gd (fun _ => pc_ob (fun r e => ?_))) (fun z0 => pc_if (fun z1 => pc_gd (fun _ => pc_ob (fun r e => ?_))) (fun z1 => pc_if (fun z2 => pc_gd (fun _ => pc_ob (fun r e => ?_))) (fun _ => pc_none))))
      · have := gq hS (e := 231) (by decide +kernel) e
        subst this
        exact pc_gd (fun _ => pc_gd (fun _ => pc_some (Or.inr ⟨k, hkn, hk, Or.inl ⟨by rw [z0]; exact e0, rfl⟩⟩)))
      · have := gq hS (e := 232) (by decide +kernel) e
        subst this
        exact pc_gd (fun _ => pc_gd (fun _ => pc_some (Or.inr ⟨k, hkn, hk, Or.inr (Or.inl ⟨by rw [z1]; exact e1, rfl⟩)⟩)))
      · have := gq hS (e := 233) (by decide +kernel) e
        subst this
        exact pc_gd (fun _ => pc_gd (fun _ => pc_some (Or.inr ⟨k, hkn, hk, Or.inr (Or.inr ⟨by rw [z2]; exact e2, rfl⟩)⟩)))
    · exact pc_if (fun _ => pc_some (Or.inl ⟨Or.inl l, rfl⟩)) (fun z => absurd rfl z)
  have M : pc (fX12_strokes 10000 g 328 x1 x2 d3) (fun u _ => (¬ (0 ≤ x1.toInt ∧ x1.toInt < n) ∨ ¬ (0 ≤ x2.toInt ∧ x2.toInt ≤ 2)) ∧ u = -2 ∨ ∃ k : Nat, k < n ∧ x1.toInt = (k : Int) ∧ (x2.toInt = 0 ∧ u = dI d3 336 (459 + k) ∨ x2.toInt = 1 ∧ u = dI d3 336 (483 + k) ∨ x2.toInt = 2 ∧ u = dI d3 336 (507 + k))) := by
    unfold fX12_strokes fX12_strokes_J66
    refine pc_gd (fun _ => pc_cb (isKey_y hS n2) (fun u4 d2 r => ?_))
    obtain ⟨e, hw4⟩ := r
    subst e
    rcases hw4 with ⟨hw4, l1, l2⟩ | ⟨hw4, l⟩ <;> rw [hw4]
    · obtain ⟨k, hk⟩ : ∃ k : Nat, x1.toInt = (k : Int) := ⟨x1.toInt.toNat, by omega⟩
      have hkn : k < n := by omega
      have ix : ∀ {c : Int32} {m : Nat}, c.toInt = (m : Int) → m < 1000 → (c + x1).toNatClampNeg = m + k := fun hc hm => tn (by rw [z_add hc hk (by omega) (by omega)]; omega)
      rw [ix (c := 459) (m := 459) (by decide) (by decide), ix (c := 483) (m := 483) (by decide) (by decide), ix (c := 507) (m := 507) (by decide) (by decide)]
      refine pc_if (fun z => absurd z (by decide)) (fun _ => pc_if (fun z0 => pc_ob (fun r e => ?_)) (fun z0 => pc_if (fun z1 => pc_ob (fun r e => ?_)) (fun z1 => pc_if (fun z2 => pc_ob (fun r e => ?_)) (fun z2 => pc_some (Or.inl ⟨Or.inr (fun y => ?_), rfl⟩)))))
      · have := gq hS (e := 336) (by decide +kernel) e
        subst this
        exact pc_gd (fun _ => pc_gd (fun _ => pc_some (Or.inr ⟨k, hkn, hk, Or.inl ⟨by rw [z0]; exact e0, rfl⟩⟩)))
      · have := gq hS (e := 336) (by decide +kernel) e
        subst this
        exact pc_gd (fun _ => pc_gd (fun _ => pc_some (Or.inr ⟨k, hkn, hk, Or.inr (Or.inl ⟨by rw [z1]; exact e1, rfl⟩)⟩)))
      · have := gq hS (e := 336) (by decide +kernel) e
        subst this
        exact pc_gd (fun _ => pc_gd (fun _ => pc_some (Or.inr ⟨k, hkn, hk, Or.inr (Or.inr ⟨by rw [z2]; exact e2, rfl⟩)⟩)))
      · have y0 : ¬ x2.toInt = 0 := fun w => z0 (Int32.toInt_inj.mp (w.trans e0.symm))
        have y1 : ¬ x2.toInt = 1 := fun w => z1 (Int32.toInt_inj.mp (w.trans e1.symm))
        have y2 : ¬ x2.toInt = 2 := fun w => z2 (Int32.toInt_inj.mp (w.trans e2.symm))
        omega
    · exact pc_if (fun _ => pc_some (Or.inl ⟨Or.inl l, rfl⟩)) (fun z => absurd rfl z)
  rcases C u d3 hu with ⟨c1, c2⟩ | ⟨k, k1, k2, k3⟩
  · rcases M v d6 hv with ⟨m1, m2⟩ | ⟨l, l1, l2, l3⟩
    · rw [c2, m2]
    · exfalso
      omega
  · rcases M v d6 hv with ⟨m1, m2⟩ | ⟨l, l1, l2, l3⟩
    · exfalso
      omega
    · have ekl : l = k := by omega
      subst ekl
      obtain ⟨_, _, s3, s4, s5⟩ := p5 l (by omega)
      rcases k3 with ⟨a1, a2⟩ | ⟨a1, a2⟩ | ⟨a1, a2⟩
      · rcases l3 with ⟨b1, b2⟩ | ⟨b1, b2⟩ | ⟨b1, b2⟩ <;> first | (exfalso; omega) | exact a2.trans (s3.trans b2.symm)
      · rcases l3 with ⟨b1, b2⟩ | ⟨b1, b2⟩ | ⟨b1, b2⟩ <;> first | (exfalso; omega) | exact a2.trans (s4.trans b2.symm)
      · rcases l3 with ⟨b1, b2⟩ | ⟨b1, b2⟩ | ⟨b1, b2⟩ <;> first | (exfalso; omega) | exact a2.trans (s5.trans b2.symm)
end SC3
def RS (d : Ds) : Prop := RR d ∧ SQ d
/-- the cells of a scan at the start -/
def scc (d : Ds) : Bool := (dI d 227 5 == 0) && (List.range 4).all (fun j => dI d 228 j == 0) && (List.range 24).all (fun k => (dI d 229 k == 0) && (dF d 230 k == FP.fconst0) && (dI d 231 k == 0) && (dI d 232 k == 0) && (dI d 233 k == -1))
def scm (d : Ds) : Bool := (List.range 24).all (fun k => dF d 338 k == FP.fconst0) && (List.range 203).all (fun i => dI d 336 (352 + i) == frv (352 + i))
theorem sq_0 {d : Ds} (h : RR d) (h3 : ∀ s, s < 3 → dI d 346 s = 0) (hc : scc d = true) (hm : scm d = true) : SQ d := by
  unfold scc at hc
  unfold scm at hm
  simp only [Bool.and_eq_true, List.all_eq_true, List.mem_range, beq_iff_eq] at hc hm
  refine sq_fresh h.2.2.2.2.1 ⟨hc.1.1, hc.1.2, fun k hk => ?_⟩ ⟨fun j p q => ?_, hm.1⟩ h3
  · obtain ⟨⟨⟨⟨a1, a2⟩, a3⟩, a4⟩, a5⟩ := hc.2 k hk
    exact ⟨a1, a2, a3, a4, a5⟩
  · have := hm.2 (j - 352) (by omega)
    rw [show 352 + (j - 352) = j by omega] at this
    exact this
theorem rs_0 {d : Ds} (h : TK d) (hm : rrc.all (fun t => dI d t.1 t.2.1 == t.2.2) = true) (hc : scc d = true) (hs : scm d = true) : RS d := by
  refine ⟨rr_0 h hm, sq_0 (rr_0 h hm) (fun s h3 => ?_) hc hs⟩
  have := List.all_eq_true.mp hm (346, s, 0) (by
    rcases (show s = 0 ∨ s = 1 ∨ s = 2 by omega) with z | z | z <;> subst z <;> decide)
  exact beq_iff_eq.mp this
