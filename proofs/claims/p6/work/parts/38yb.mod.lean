/-! the model's lines -/
/-- more of the draft: diodes, bounce, macros -/
def MX (d : Ds) (m : Nat) (ck : Nat → Int32) : Prop := dI d 337 2 = ck 100 ∧ dI d 337 4 = ck 101 ∧ ∀ i, i < m → dI d 337 (316 + 9 * i) = ck (200 + 9 * i) ∧ (ck (200 + 9 * i)).toInt ≤ 8 ∧ ∀ j : Nat, (j : Int) < (ck (200 + 9 * i)).toInt → dI d 337 (316 + 9 * i + 1 + j) = ck (200 + 9 * i + 1 + j)
def CKM (V : Nat → Int32) (d : Ds) (c m : Nat) (ck : Nat → Int32) : Prop := dI d 337 0 = V 1 ∧ dI d 337 1 = V 2 ∧ (dI d 337 10).toInt = (c : Int) ∧ (dI d 337 11).toInt = (m : Int) ∧ (∀ j, j < c → dI d 337 (300 + 4 * j) = ck (2 * j) ∧ dI d 337 (300 + 4 * j + 1) = ck (2 * j + 1)) ∧ (∀ i, m ≤ i → i < 4 → dI d 337 (316 + 9 * i) = 0) ∧ MX d m ck
def BR (V : Nat → Int32) : Prop := (1 ≤ (V 1).toInt ∧ (V 1).toInt ≤ 4) ∧ 1 ≤ (V 2).toInt ∧ (V 2).toInt ≤ 6
def RM (t : Nat → Int32) (n s : Nat) (d : Ds) (w : Int32 × Nat) (c m : Nat) (ck : Nat → Int32) : Prop := MTk t n s d ∧ NM t n d w ∧ (dI d 328 22 = 0 → ¬ w.1 = 0) ∧ (w.1 = 0 ∨ 0 < w.1.toInt) ∧ (w.1 = 0 → BR (VS t n) ∧ CKM (VS t n) d c m ck)
/-- a note more or none -/
def NX (w w' : Int32 × Nat) : Prop := (w'.1 = 0 → w.1 = 0) ∧ ((w.1 = 0 ∨ 0 < w.1.toInt) → w'.1 = 0 ∨ 0 < w'.1.toInt)
theorem NX.rf {w : Int32 × Nat} : NX w w := ⟨id, id⟩
theorem NX.tr {w w' w'' : Int32 × Nat} (h : NX w w') (k : NX w' w'') : NX w w'' := ⟨fun z => h.1 (k.1 z), fun z => k.2 (h.2 z)⟩
theorem NX.t {w : Int32 × Nat} {c : Int32} {T : Nat} (hc : 0 < c.toInt) : NX w (nT c T w) := by
  unfold nT
  split
  · rename_i h
    exact ⟨fun _ => h, fun _ => Or.inr hc⟩
  · exact NX.rf
theorem NX.n {V : Nat → Int32} {lo hi : Int32} {w : Int32 × Nat} {T : Nat} : NX w (nNu V lo hi T w) := by
  unfold nNu
  split
  · exact NX.t (by decide)
  · exact NX.rf
theorem NX.d {K V : Nat → Int32} {w : Int32 × Nat} {T : Nat} : NX w (dNt K V T w) := by
  unfold dNt nW
  split
  · exact NX.rf
  · split
    · exact NX.n.tr NX.n
    · split
      · exact NX.n.tr NX.n
      · exact NX.n
theorem nNu_0 {V : Nat → Int32} {lo hi : Int32} {w : Int32 × Nat} {T : Nat} (h : (nNu V lo hi T w).1 = 0) : w.1 = 0 ∧ ¬ ((V T).toInt < lo.toInt ∨ hi.toInt < (V T).toInt) := by
  refine ⟨NX.n.1 h, fun z => ?_⟩
  have h0 : w.1 = 0 := NX.n.1 h
  unfold nNu nT at h
  rw [if_pos z, if_pos h0] at h
  exact absurd h (show ¬ (5 : Int32) = 0 by decide)
section RML
variable {t : Nat → Int32} {n s : Nat} {d : Ds} {w : Int32 × Nat} {c m : Nat} {ck : Nat → Int32} {T E : Nat}
theorem CKM.wf {V : Nat → Int32} {d' : Ds} (h : CKM V d c m ck) (f : ∀ j, j = 0 ∨ j = 1 ∨ j = 2 ∨ j = 4 ∨ j = 10 ∨ j = 11 ∨ 300 ≤ j → dI d' 337 j = dI d 337 j) : CKM V d' c m ck := by
  obtain ⟨a, b, c1, d1, e, h, x1, x2, x3⟩ := h
  refine ⟨by rw [f 0 (by omega)]; exact a, by rw [f 1 (by omega)]; exact b, by rw [f 10 (by omega)]; exact c1, by rw [f 11 (by omega)]; exact d1, fun j hj => ?_, fun i hi h4 => ?_, by rw [f 2 (by omega)]; exact x1, by rw [f 4 (by omega)]; exact x2, fun i hi => ?_⟩
  · rw [f _ (by omega), f _ (by omega)]
    exact e j hj
  · rw [f _ (by omega)]
    exact h i hi h4
  · obtain ⟨y1, y2, y3⟩ := x3 i hi
    refine ⟨by rw [f _ (by omega)]; exact y1, y2, fun j hj => ?_⟩
    rw [f _ (by omega)]
    exact y3 j hj
theorem RM.wf {d' : Ds} {w' : Int32 × Nat} (h : RM t n s d w c m ck) (f : WF d d') (hN : NM t n d' w') (hx : NX w w') : RM t n s d' w' c m ck := ⟨h.1.wf f, hN, fun z => fun y => h.2.2.1 (by rw [← f 328 22 (by decide) (by decide)]; exact z) (hx.1 y), hx.2 h.2.2.2.1, fun z => ⟨(h.2.2.2.2 (hx.1 z)).1, (h.2.2.2.2 (hx.1 z)).2.wf (fun j _ => f 337 j (by omega) (by decide))⟩⟩
/-- a setting -/
theorem RM.put {d' : Ds} {j : Nat} {v : Int32} (h : RM t n s d w c m ck) (e : d' = sI d 337 j v) (hj : ¬ (j = 0 ∨ j = 1 ∨ j = 2 ∨ j = 4 ∨ j = 10 ∨ j = 11 ∨ 300 ≤ j)) : RM t n s d' w c m ck := by
  have f : ∀ r i, ¬ r = 337 → dI d' r i = dI d r i := fun r i q => rdq e (Or.inl q)
  refine ⟨⟨h.1.1, h.1.2.1, by rw [f 328 10 (by decide)]; exact h.1.2.2.1, fun i hi => ?_⟩, h.2.1.i e (by omega), fun z => h.2.2.1 (by rw [← f 328 22 (by decide)]; exact z), h.2.2.2.1, fun z => ⟨(h.2.2.2.2 z).1, (h.2.2.2.2 z).2.wf (fun i hi => ?_)⟩⟩
  · rw [f 331 i (by decide), f 332 i (by decide), f 333 i (by decide)]
    exact h.1.2.2.2 i hi
  · rw [e, sI_rd, if_neg (fun z => hj (by rw [← z.2]; exact hi))]
theorem isChorded_x {g : Gs} (hS : Shp g) {x : Int32} {V : Nat → Int32} : pc (fX12_isChorded 10000 g 328 x d) (fun u d' => d' = d ∧ (c ≤ 4 → CKM V d c m ck → (u = 0 ∧ tld ck x (2 * c) = false ∨ ¬ u = 0 ∧ tld ck x (2 * c) = true))) := by
  have e1 : (1 : Int32).toInt = 1 := by decide
  have e4 : (4 : Int32).toInt = 4 := by decide
  have e300 : (300 : Int32).toInt = 300 := by decide
  have e10 : (10 : Int32).toNatClampNeg = 10 := by decide
  unfold fX12_isChorded fX12_isChorded_L2
  refine pc_lp (fun (a : Int32 × Ds) => a.2 = d ∧ (c ≤ 4 → CKM V d c m ck → ∃ j : Nat, j ≤ c ∧ a.1.toInt = (j : Int) ∧ tld ck x (2 * j) = false)) ?_ 10000 (0, d) ⟨rfl, fun _ _ => ⟨0, Nat.zero_le _, (by decide : (0 : Int32).toInt = ((0 : Nat) : Int)), rfl⟩⟩
  rintro K ⟨y2, dd⟩ ⟨e, h⟩ hK
  dsimp only at e h hK ⊢
  subst e
  unfold fX12_isChorded_B2
  refine pc_gd (fun _ => pc_ob (fun r e => ?_))
  have := gq hS (e := 337) (by decide +kernel) e
  subst this
  refine pc_gd (fun _ => pc_gd (fun _ => ?_))
  rw [e10]
  refine pc_if (fun q => pc_some ⟨rfl, fun h4 hc => ?_⟩) (fun q => pc_gd (fun _ => ?_))
  · obtain ⟨j, j1, j2, j3⟩ := h h4 hc
    have q2 := Int32.le_iff_toInt_le.mp q
    have h10 := hc.2.2.1
    have : j = c := by omega
    subst this
    exact Or.inl ⟨rfl, j3⟩
  · have key : ∀ (h4 : c ≤ 4) (hc : CKM V dd c m ck), ∃ j : Nat, j < c ∧ y2.toInt = (j : Int) ∧ tld ck x (2 * j) = false ∧ dI dd 337 ((300 : Int32) + ((4 : Int32) * y2)).toNatClampNeg = ck (2 * j) ∧ dI dd 337 (((300 : Int32) + ((4 : Int32) * y2)) + 1).toNatClampNeg = ck (2 * j + 1) := by
      intro h4 hc
      obtain ⟨j, j1, j2, j3⟩ := h h4 hc
      have q2 := Int32.lt_iff_toInt_lt.mp (nle q)
      have h10 := hc.2.2.1
      have hl : j < c := by omega
      obtain ⟨k1, k2⟩ := hc.2.2.2.2.1 j hl
      have m4 := z_mul (x := 4) (y := y2) e4 j2 (by omega) (by omega)
      have a1 := z_add (x := 300) (y := 4 * y2) e300 m4 (by omega) (by omega)
      have a2 := z_add a1 e1 (by omega) (by omega)
      refine ⟨j, hl, j2, j3, ?_, ?_⟩
      · rw [tn (p := 300 + 4 * j) (by rw [a1]; omega)]
        exact k1
      · rw [tn (p := 300 + 4 * j + 1) (by rw [a2]; omega)]
        exact k2
    refine pc_if (fun z => ?_) (fun z1 => pc_gd (fun _ => pc_if (fun z => ?_) (fun z2 => ?_)))
    · unfold fX12_isChorded_J47
      refine pc_some ⟨rfl, fun h4 hc => Or.inr ⟨by decide, ?_⟩⟩
      obtain ⟨j, a, b, _, k1, k2⟩ := key h4 hc
      exact tld_hit (k1.symm.trans z) (by omega)
    · unfold fX12_isChorded_J47
      refine pc_some ⟨rfl, fun h4 hc => Or.inr ⟨by decide, ?_⟩⟩
      obtain ⟨j, a, b, _, k1, k2⟩ := key h4 hc
      exact tld_hit (k2.symm.trans z) (by omega)
    · refine pc_bd (fun u e => hK _ ⟨rfl, fun h4 hc => ?_⟩)
      obtain ⟨j, a, b, f, k1, k2⟩ := key h4 hc
      refine ⟨j + 1, by omega, ?_, ?_⟩
      · dsimp only
        rw [e, z_add b e1 (by omega) (by omega)]
        omega
      · rw [show 2 * (j + 1) = 2 * j + 1 + 1 by omega]
        show (tld ck x (2 * j) || ck (2 * j) == x || ck (2 * j + 1) == x) = false
        rw [f, beq_false_of_ne (fun y => z1 (k1.trans y)), beq_false_of_ne (fun y => z2 (k2.trans y))]
        rfl
theorem meansKey_x {g : Gs} (hS : Shp g) {x : Int32} (hR : RM t n s d w c m ck) (hx : x.toInt = (T : Int)) (hd : dOK (KS t n) (T + 3) E) (hE : E ≤ s) (hL : SB w (T + 1)) : pc (fX12_meansKey 10000 g 328 x d) (fun _ d' => RM t n s d' (dNt (KS t n) (VS t n) (T + 3) (nNu (VS t n) 0 (kyN (VS t n)) (T + 2) (nNu (VS t n) 0 3 (T + 1) w))) c m ck ∧ SB (dNt (KS t n) (VS t n) (T + 3) (nNu (VS t n) 0 (kyN (VS t n)) (T + 2) (nNu (VS t n) 0 3 (T + 1) w))) E) := by
  have e1 : (1 : Int32).toInt = 1 := by decide
  have e2 : (2 : Int32).toInt = 2 := by decide
  have e3 : (3 : Int32).toInt = 3 := by decide
  have e0 : (0 : Int32).toInt = 0 := by decide
  have e24 : (24 : Int32).toInt = 24 := by decide
  have e12 : (12 : Int32).toInt = 12 := by decide
  have hd3 := hd.2.2.1
  have hs := hR.1.1
  have x1 : (x + 1).toInt = ((T + 1 : Nat) : Int) := by rw [z_add hx e1 (by omega) (by omega)]; omega
  have x2 : (x + 2).toInt = ((T + 2 : Nat) : Int) := by rw [z_add hx e2 (by omega) (by omega)]; omega
  have x3 : (x + 3).toInt = ((T + 3 : Nat) : Int) := by rw [z_add hx e3 (by omega) (by omega)]; omega
  unfold fX12_meansKey
  refine pc_gd (fun _ => pc_cb (within_x hS hR.1 hR.2.1 x1 (by omega) hL.lb) (fun u4 d2 r => ?_))
  obtain ⟨h4, N2, f2⟩ := r
  have R2 := hR.wf f2 N2 NX.n
  have S2 : SB (nNu (VS t n) 0 3 (T + 1) w) (T + 2) := hL.lb.nns (by omega)
  refine pc_cb (keyTold_x hS R2.1 R2.2.1 x2 (by omega) S2.lb R2.2.2.1 (fun z => ⟨(R2.2.2.2.2 z).2.1, (R2.2.2.2.2 z).2.2.1⟩)) (fun u7 d5 r => ?_)
  obtain ⟨h7, N5, f5⟩ := r
  have R5 := R2.wf f5 N5 NX.n
  have S5 : SB (nNu (VS t n) 0 (kyN (VS t n)) (T + 2) (nNu (VS t n) 0 3 (T + 1) w)) (T + 3 + 1) := S2.lb.nns (by omega)
  refine pc_cv (meansDeed_x hS R5.1 R5.2.1 x3 hd hE S5) (fun d8 r => ?_)
  obtain ⟨N8, S8, f8⟩ := r
  have R8 := R5.wf f8 N8 NX.d
  refine pc_if (fun q => ?_) (fun _ => pc_some ⟨R8, S8⟩)
  have q2 := Int32.le_iff_toInt_le.mp q
  have w0 : (dNt (KS t n) (VS t n) (T + 3) (nNu (VS t n) 0 (kyN (VS t n)) (T + 2) (nNu (VS t n) 0 3 (T + 1) w))).1 = 0 := by
    rcases R8.2.2.2.1 with z | z
    · exact z
    · rw [R8.2.1.2.1] at q2
      omega
  have w1 := NX.d.1 w0
  obtain ⟨w2, b2⟩ := nNu_0 w1
  obtain ⟨w3, b3⟩ := nNu_0 w2
  have br := (R8.2.2.2.2 w0).1
  have hky : (kyN (VS t n)).toInt ≤ 23 := by
    obtain ⟨⟨p1, p2⟩, p3, p4⟩ := br
    unfold kyN
    have hm : (VS t n 1).toInt * (VS t n 2).toInt ≤ 24 := by
      have := Int.mul_le_mul p2 p4 (by omega) (by omega)
      omega
    have hm0 : 0 ≤ (VS t n 1).toInt * (VS t n 2).toInt := Int.mul_nonneg (by omega) (by omega)
    rw [z_sub (z_mul rfl rfl (by omega) (by omega)) e1 (by omega) (by omega)]
    omega
  rw [e0] at b2 b3
  rw [e3] at b3
  have i4 : 0 ≤ u4.toInt ∧ u4.toInt ≤ 3 := by rw [h4]; omega
  have i7 : 0 ≤ u7.toInt ∧ u7.toInt ≤ 23 := by
    rcases h7 with h7 | h7
    · rw [h7]
      omega
    · exact absurd w2 h7
  obtain ⟨p, hp⟩ : ∃ p : Nat, u4.toInt = (p : Int) := ⟨u4.toInt.toNat, by omega⟩
  obtain ⟨q, hq⟩ : ∃ q : Nat, u7.toInt = (q : Int) := ⟨u7.toInt.toNat, by omega⟩
  unfold fX12_meansKey_L36
  refine pc_lp (fun (a : Int32 × Int32 × Int32 × Ds) => a.1 = u4 ∧ a.2.1 = u7 ∧ (∃ k : Nat, k ≤ 3 ∧ a.2.2.1.toInt = (k : Int)) ∧ RM t n s a.2.2.2 (dNt (KS t n) (VS t n) (T + 3) (nNu (VS t n) 0 (kyN (VS t n)) (T + 2) (nNu (VS t n) 0 3 (T + 1) w))) c m ck) ?_ 10000 (u4, u7, 0, d8) ⟨rfl, rfl, ⟨0, by decide, (by decide : (0 : Int32).toInt = ((0 : Nat) : Int))⟩, R8⟩
  rintro K ⟨y2, y3, y4, dd⟩ ⟨ea, eb, ⟨k, hk, hy⟩, hRR⟩ hK
  dsimp only at ea eb hy hRR hK ⊢
  subst ea
  subst eb
  unfold fX12_meansKey_B36
  refine pc_if (fun _ => pc_some ⟨hRR, S8⟩) (fun qq => pc_gd (fun _ => pc_ob (fun r e => ?_)))
  have k3 := Int32.lt_iff_toInt_lt.mp (nle qq)
  have := gq hS (e := 337) (by decide +kernel) e
  subst this
  refine pc_ob (fun r14 _ => pc_gd (fun _ => pc_gd (fun _ => pc_gd (fun _ => pc_gd (fun _ => pc_bd (fun d19 e19 => pc_bd (fun u20 e20 => ?_)))))))
  have m24 := z_mul (x := 24) (y := y2) e24 hp (by omega) (by omega)
  have a24 := z_add m24 hq (by omega) (by omega)
  have m3 := z_mul (x := 3) (y := 24 * y2 + y3) e3 a24 (by omega) (by omega)
  have a12 := z_add (x := 12) (y := 3 * (24 * y2 + y3)) e12 m3 (by omega) (by omega)
  have a4 := z_add a12 hy (by omega) (by omega)
  have ix : ((12 : Int32) + ((3 : Int32) * (((24 : Int32) * y2) + y3)) + y4).toNatClampNeg = 12 + 3 * (24 * p + q) + k := tn (by rw [a4]; omega)
  rw [ix] at e19
  refine hK _ ⟨rfl, rfl, ⟨k + 1, by omega, ?_⟩, hRR.put e19 (by omega)⟩
  dsimp only
  rw [e20, z_add hy e1 (by omega) (by omega)]
  omega
end RML
