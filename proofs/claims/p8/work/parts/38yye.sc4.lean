/-! what key answers -/
def bq1 (x : Int32) (k : Nat) : Int32 := if bN x k = true then 1 else 0
def KYA (n : Nat) (cl se ba dn : Int32) (un : Nat → Int32) (st : Nat → Nat) (x1 x2 u : Int32) : Prop := (¬ (0 ≤ x1.toInt ∧ x1.toInt < n) ∨ ¬ (0 ≤ x2.toInt ∧ x2.toInt ≤ 5)) ∧ u = -1 ∨ ∃ k : Nat, k < n ∧ x1.toInt = (k : Int) ∧ (x2.toInt = 0 ∧ u = bq1 cl k ∨ x2.toInt = 1 ∧ u = bq1 se k ∨ x2.toInt = 2 ∧ u = bq1 ba k ∨ x2.toInt = 3 ∧ u = bq1 dn k ∨ x2.toInt = 4 ∧ u = un k ∨ x2.toInt = 5 ∧ u.toInt = (st k : Int))
theorem kya_unq {n : Nat} {cl se ba dn : Int32} {un un' : Nat → Int32} {st st' : Nat → Nat} {x1 x2 u v : Int32} (hu : ∀ k, k < n → un k = un' k) (hs : ∀ k, k < n → st k = st' k) (h : KYA n cl se ba dn un st x1 x2 u) (k : KYA n cl se ba dn un' st' x1 x2 v) : u = v := by
  rcases h with ⟨h1, h2⟩ | ⟨i, h1, h2, h3⟩
  · rcases k with ⟨k1, k2⟩ | ⟨j, k1, k2, k3⟩
    · rw [h2, k2]
    · exfalso
      omega
  · rcases k with ⟨k1, k2⟩ | ⟨j, k1, k2, k3⟩
    · exfalso
      omega
    · have : j = i := by omega
      subst this
      rcases h3 with ⟨a, b⟩ | ⟨a, b⟩ | ⟨a, b⟩ | ⟨a, b⟩ | ⟨a, b⟩ | ⟨a, b⟩ <;> rcases k3 with ⟨a', b'⟩ | ⟨a', b'⟩ | ⟨a', b'⟩ | ⟨a', b'⟩ | ⟨a', b'⟩ | ⟨a', b'⟩ <;> first | (exfalso; omega) | exact b.trans b'.symm | exact (b.trans (hu j h1)).trans b'.symm | exact Int32.toInt_inj.mp (by rw [b, b', hs j h1])
section KEY4
variable {d : Ds} {x1 x2 : Int32} {n : Nat}
theorem bitC_y {N : Nat} {g : Gs} {x y : Int32} {k : Nat} (hy : y.toInt = (k : Int)) (hk : k < 32) : pc (fX11_bitOf N g x y d) (fun u d' => d' = d ∧ u = bq1 x k) := by
  unfold fX11_bitOf bq1
  rw [ofN hy (by omega), bN_us hk]
  exact pc_some ⟨rfl, rfl⟩
theorem keyC_y {g : Gs} (hS : Shp g) (n1 : (dI d 117 0 * dI d 117 1).toInt = (n : Int)) (hn : n ≤ 24) (hs : ∀ k, k < 24 → (dF d 230 k).toNat ≤ 1065353216) : pc (fX11_key 10000 g 0 x1 x2 d) (fun u _ => KYA n (dI d 228 0) (dI d 228 1) (dI d 228 2) (dI d 228 3) (fun k => dI d 229 k) (fun k => (dF d 230 k).toNat) x1 x2 u) := by
  have t0 : (0 : Int32).toInt = 0 := by decide
  have t1 : (1 : Int32).toInt = 1 := by decide
  have t2 : (2 : Int32).toInt = 2 := by decide
  have t3 : (3 : Int32).toInt = 3 := by decide
  have t4 : (4 : Int32).toInt = 4 := by decide
  have t5 : (5 : Int32).toInt = 5 := by decide
  unfold fX11_key
  refine pc_gd (fun _ => pc_ob (fun r e => ?_))
  have := gq hS (e := 117) (by decide +kernel) e
  subst this
  refine pc_gd (fun _ => pc_cb hasKey_y (fun u6 d4 r => ?_))
  obtain ⟨e, hu⟩ := r
  subst e
  rw [n1] at hu
  rcases hu with ⟨hu, l1, l2⟩ | ⟨hu, l⟩ <;> rw [hu]
  · refine pc_if (fun z => absurd z (by decide)) (fun _ => pc_ob (fun r e => ?_))
    have := gq hS (e := 227) (by decide +kernel) e
    subst this
    refine pc_gd (fun _ => pc_ob (fun r e => ?_))
    have := gq hS (e := 228) (by decide +kernel) e
    subst this
    obtain ⟨k, hk⟩ : ∃ k : Nat, x1.toInt = (k : Int) := ⟨x1.toInt.toNat, by omega⟩
    have hkn : k < n := by omega
    rw [tn hk]
    refine pc_if (fun z => pc_some (Or.inl ⟨Or.inr (by omega), rfl⟩)) (fun _ => ?_)
    refine pc_if (fun z => pc_gd (fun _ => pc_cb (bitC_y hk (by omega)) (fun u16 d14 r => ?_))) (fun _ => ?_)
    · exact pc_some (Or.inr ⟨k, hkn, hk, Or.inl ⟨by rw [z]; exact t0, r.2⟩⟩)
    refine pc_if (fun z => pc_gd (fun _ => pc_cb (bitC_y hk (by omega)) (fun u16 d14 r => ?_))) (fun _ => ?_)
    · exact pc_some (Or.inr ⟨k, hkn, hk, Or.inr (Or.inl ⟨by rw [z]; exact t1, r.2⟩)⟩)
    refine pc_if (fun z => pc_gd (fun _ => pc_cb (bitC_y hk (by omega)) (fun u16 d14 r => ?_))) (fun _ => ?_)
    · exact pc_some (Or.inr ⟨k, hkn, hk, Or.inr (Or.inr (Or.inl ⟨by rw [z]; exact t2, r.2⟩))⟩)
    refine pc_if (fun z => pc_gd (fun _ => pc_cb (bitC_y hk (by omega)) (fun u16 d14 r => ?_))) (fun _ => ?_)
    · exact pc_some (Or.inr ⟨k, hkn, hk, Or.inr (Or.inr (Or.inr (Or.inl ⟨by rw [z]; exact t3, r.2⟩)))⟩)
    refine pc_if (fun z => pc_gd (fun _ => pc_ob (fun r e => ?_))) (fun _ => ?_)
    · have := gq hS (e := 229) (by decide +kernel) e
      subst this
      exact pc_gd (fun _ => pc_gd (fun _ => pc_some (Or.inr ⟨k, hkn, hk, Or.inr (Or.inr (Or.inr (Or.inr (Or.inl ⟨by rw [z]; exact t4, rfl⟩))))⟩)))
    refine pc_if (fun z => pc_gd (fun _ => pc_ob (fun r e => ?_))) (fun _ => pc_none)
    have := gq hS (e := 230) (by decide +kernel) e
    subst this
    exact pc_gd (fun _ => pc_gd (fun _ => pc_cb (floatBits_z (hs k (by omega))) (fun u44 d42 r => pc_some (Or.inr ⟨k, hkn, hk, Or.inr (Or.inr (Or.inr (Or.inr (Or.inr ⟨by rw [z]; exact t5, r.2⟩))))⟩))))
  · exact pc_if (fun _ => pc_some (Or.inl ⟨Or.inl l, rfl⟩)) (fun z => absurd rfl z)
theorem keyM_y {g : Gs} (hS : Shp g) {r c : Nat} (hR : RC r c) (hr : (dI d 336 0).toInt = (r : Int)) (hc : (dI d 336 1).toInt = (c : Int)) {se ba : Int32} (hse : se = if dI d 336 2 = 1 then dI d 336 352 else seF r c (dI d 336 352) (r * c) (r * c)) (hba : ba = if dI d 336 2 = 1 then 0 else baF r c se (r * c)) (hs : ∀ k, k < 24 → (dF d 338 k).toNat ≤ 1065353216) : pc (fX12_key 10000 g 328 x1 x2 d) (fun u _ => KYA (r * c) (dI d 336 352) se ba (dI d 336 353) (fun k => dI d 336 (355 + k)) (fun k => (dF d 338 k).toNat) x1 x2 u) := by
  have t0 : (0 : Int32).toInt = 0 := by decide
  have t1 : (1 : Int32).toInt = 1 := by decide
  have t2 : (2 : Int32).toInt = 2 := by decide
  have t3 : (3 : Int32).toInt = 3 := by decide
  have t4 : (4 : Int32).toInt = 4 := by decide
  have t5 : (5 : Int32).toInt = 5 := by decide
  have n352 : (352 : Int32).toNatClampNeg = 352 := by decide
  have n353 : (353 : Int32).toNatClampNeg = 353 := by decide
  have n2 := mul_rc hR hr hc
  have hn := hR.n.1
  unfold fX12_key
  refine pc_gd (fun _ => pc_cb (isKey_y hS n2) (fun u4 d2 r' => ?_))
  obtain ⟨e, hu⟩ := r'
  subst e
  rcases hu with ⟨hu, l1, l2⟩ | ⟨hu, l⟩ <;> rw [hu]
  · refine pc_if (fun z => absurd z (by decide)) (fun _ => pc_ob (fun r' e => ?_))
    have := gq hS (e := 336) (by decide +kernel) e
    subst this
    obtain ⟨k, hk⟩ : ∃ k : Nat, x1.toInt = (k : Int) := ⟨x1.toInt.toNat, by omega⟩
    have hkn : k < r * c := by omega
    have i355 : ((355 : Int32) + x1).toNatClampNeg = 355 + k := tn (by rw [z_add (a := 355) (by decide) hk (by omega) (by omega)]; omega)
    rw [n352, n353, i355, tn hk]
    refine pc_gd (fun _ => pc_gd (fun _ => pc_cb (seenBy_e hS hR hr hc) (fun u11 d9 r' => ?_)))
    obtain ⟨h11, f9, F9⟩ := r'
    have w9 : ∀ j, dI d9 336 j = dI d2 336 j := fun j => f9 336 j (by decide)
    have e11 : u11 = se := h11.trans hse.symm
    have bit : ∀ {x : Int32}, ((x >>> (x1 &&& 31)) &&& 1) = bq1 x k := by
      intro x
      rw [ofN hk (by omega)]
      exact bN_ss (by omega)
    rw [w9, w9, w9, e11]
    refine pc_if (fun z => pc_some (Or.inl ⟨Or.inr (by omega), rfl⟩)) (fun _ => ?_)
    refine pc_if (fun z => pc_some (Or.inr ⟨k, hkn, hk, Or.inl ⟨by rw [z]; exact t0, bit⟩⟩)) (fun _ => ?_)
    refine pc_if (fun z => pc_some (Or.inr ⟨k, hkn, hk, Or.inr (Or.inl ⟨by rw [z]; exact t1, bit⟩)⟩)) (fun _ => ?_)
    refine pc_if (fun z => pc_cb (barredBy_e hS hR (by rw [w9]; exact hr) (by rw [w9]; exact hc)) (fun u18 d16 r' => ?_)) (fun _ => ?_)
    · have e18 : u18 = ba := by rw [r'.2, hba, w9]
      rw [e18]
      exact pc_some (Or.inr ⟨k, hkn, hk, Or.inr (Or.inr (Or.inl ⟨by rw [z]; exact t2, bit⟩))⟩)
    refine pc_if (fun z => pc_gd (fun _ => pc_some (Or.inr ⟨k, hkn, hk, Or.inr (Or.inr (Or.inr (Or.inl ⟨by rw [z]; exact t3, bit⟩)))⟩))) (fun _ => ?_)
    refine pc_if (fun z => pc_gd (fun _ => pc_some (Or.inr ⟨k, hkn, hk, Or.inr (Or.inr (Or.inr (Or.inr (Or.inl ⟨by rw [z]; exact t4, rfl⟩))))⟩))) (fun _ => ?_)
    refine pc_if (fun z => pc_ob (fun r' e => ?_)) (fun _ => pc_none)
    have := gq hS (e := 338) (by decide +kernel) e
    subst this
    have eF : dF d9 338 k = dF d2 338 k := by
      unfold dF
      rw [F9]
    rw [eF]
    exact pc_gd (fun _ => pc_gd (fun _ => pc_cb (bitsNum_z (hs k (by omega))) (fun u29 d27 r' => pc_some (Or.inr ⟨k, hkn, hk, Or.inr (Or.inr (Or.inr (Or.inr (Or.inr ⟨by rw [z]; exact t5, r'.2⟩))))⟩))))
  · exact pc_if (fun _ => pc_some (Or.inl ⟨Or.inl l, rfl⟩)) (fun z => absurd rfl z)
theorem sq_key {g : Gs} (hS : Shp g) {d0 d3 d6 : Ds} {u v : Int32} (h : RR d0) (q : SQ d0) (hu : fX11_key 10000 g 0 x1 x2 d0 = some (u, d3)) (e3 : d3 = d0) (hv : fX12_key 10000 g 328 x1 x2 d3 = some (v, d6)) : u = v := by
  subst e3
  have hB := h.2.2.2.2.1
  obtain ⟨r, c, hR, hr, hc, a0, a1⟩ := bq_rc hB
  have rwe : rwN (fun j => dI d3 336 j) = r := by unfold rwN; rw [hr]; rfl
  have cle : clN (fun j => dI d3 336 j) = c := by unfold clN; rw [hc]; rfl
  obtain ⟨⟨p1, p2, p3, p4, p5, p6, p7, p8⟩, _⟩ := q
  have hn := hR.n.1
  have hmul : (dI d3 336 0 * dI d3 336 1).toInt = ((r * c : Nat) : Int) := mul_rc hR hr hc
  have cl0 : dI d3 228 0 = dI d3 336 352 := h.2.2.2.2.2.2.1
  have C := keyC_y (x1 := x1) (x2 := x2) hS (n := r * c) (by rw [show dI d3 117 0 = dI d3 336 0 from a0, show dI d3 117 1 = dI d3 336 1 from a1]; exact hmul) hn (fun k hk => by rw [(p5 k hk).2.1]; exact p8 k hk) u d3 hu
  have eS : SEE (fun j => dI d3 336 j) = if dI d3 336 2 = 1 then dI d3 336 352 else seF r c (dI d3 336 352) (r * c) (r * c) := by
    unfold SEE
    rw [rwe, cle]
  have eB : BAR (fun j => dI d3 336 j) = if dI d3 336 2 = 1 then 0 else baF r c (SEE (fun j => dI d3 336 j)) (r * c) := by
    unfold BAR
    rw [rwe, cle]
  have M := keyM_y (x1 := x1) (x2 := x2) hS hR hr hc eS eB (fun k hk => p8 k hk) v d6 hv
  rw [cl0, show dI d3 228 1 = SEE (fun j => dI d3 336 j) from p3, show dI d3 228 2 = BAR (fun j => dI d3 336 j) from p4, show dI d3 228 3 = dI d3 336 353 from p2] at C
  exact kya_unq (fun k hk => (p5 k (by omega)).1) (fun k hk => congrArg UInt32.toNat (p5 k (by omega)).2.1) C M
end KEY4
