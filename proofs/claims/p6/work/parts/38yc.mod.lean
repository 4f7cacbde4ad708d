/-! numbers aren't below nought -/
theorem vlF_r {t : Nat → Int32} {p : Nat} : ∀ k, k ≤ 4 → (∀ j, j < k → dgt (t (p + j)) = true) → 0 ≤ (vlF t p k).toInt ∧ (vlF t p k).toInt < 10 ^ k := by
  have e10 : (10 : Int32).toInt = 10 := by decide
  have e48 : (48 : Int32).toInt = 48 := by decide
  intro k
  induction k with
  | zero => intro _ _; exact ⟨(show 0 ≤ (0 : Int32).toInt by decide), (show (0 : Int32).toInt < 1 by decide)⟩
  | succ k ih =>
    intro hk hd
    obtain ⟨i1, i2⟩ := ih (by omega) (fun j hj => hd j (by omega))
    obtain ⟨d1, d2⟩ := dgt_i.mp (hd k (by omega))
    have hb : (10 : Int) ^ k ≤ 1000 := by
      rcases (show k = 0 ∨ k = 1 ∨ k = 2 ∨ k = 3 by omega) with z | z | z | z <;> subst z <;> decide
    have m := z_mul (x := vlF t p k) (y := 10) rfl e10 (by omega) (by omega)
    have a := z_sub (x := t (p + k)) (y := 48) rfl e48 (by omega) (by omega)
    have b := z_add m a (by omega) (by omega)
    show 0 ≤ (vlF t p k * 10 + (t (p + k) - 48)).toInt ∧ (vlF t p k * 10 + (t (p + k) - 48)).toInt < 10 ^ (k + 1)
    rw [b, Int.pow_succ]
    omega
theorem VS_r {t : Nat → Int32} {n : Nat} (i : Nat) : 0 ≤ (VS t n i).toInt := by
  unfold VS vl
  split
  · split
    · rename_i h1 h2
      refine (vlF_r _ (Nat.min_le_right _ _) (fun j hj => ?_)).1
      exact rn_in (q := dgt) (p := ps t n i) (n := n) (by omega) (by have := Nat.min_le_left (rn dgt t n (ps t n i) - ps t n i) 4; omega)
    · decide
  · decide
section CHX
variable {t : Nat → Int32} {n s : Nat} {d : Ds} {w : Int32 × Nat} {c m : Nat} {ck : Nat → Int32} {T E : Nat}
theorem RM.any {d' : Ds} {c' m' : Nat} {ck' : Nat → Int32} (h : RM t n s d w c m ck) (f : ∀ r i, ¬ r = 337 → dI d' r i = dI d r i) (hc : w.1 = 0 → CKM (VS t n) d' c' m' ck') : RM t n s d' w c' m' ck' := by
  refine ⟨⟨h.1.1, h.1.2.1, by rw [f 328 10 (by decide)]; exact h.1.2.2.1, fun i hi => ?_⟩, ⟨by rw [f 328 12 (by decide)]; exact h.2.1.1, by rw [f 328 14 (by decide)]; exact h.2.1.2.1, fun z => by rw [f 328 15 (by decide)]; exact h.2.1.2.2 z⟩, fun z => h.2.2.1 (by rw [← f 328 22 (by decide)]; exact z), h.2.2.2.1, fun z => ⟨(h.2.2.2.2 z).1, hc z⟩⟩
  rw [f 331 i (by decide), f 332 i (by decide), f 333 i (by decide)]
  exact h.1.2.2.2 i hi
theorem cNt_n {V : Nat → Int32} {u : Int32} (h : ¬ w.1 = 0) : cNt V c ck u T w = w := by
  unfold cNt
  have e : nT 3 T w = w := if_neg h
  rw [e, ite_self, nNu_n h]
theorem NX.cn {V : Nat → Int32} {u : Int32} : NX w (cNt V c ck u T w) := by
  unfold cNt
  split
  · exact (NX.t (by decide)).tr NX.n
  · exact NX.n
theorem meansChord_x {g : Gs} (hS : Shp g) {x : Int32} (hc4 : c < 4) (hR : RM t n s d w c m ck) (hx : x.toInt = (T : Int)) (hd : dOK (KS t n) (T + 3) E) (hE : E ≤ s) (hL : SB w (T + 1)) : pc (fX12_meansChord 10000 g 328 x d) (fun _ d' => RM t n s d' (cDt (KS t n) (VS t n) (T + 3) (cNt (VS t n) c ck (VS t n (T + 1)) (T + 2) (cNt (VS t n) c ck (-1) (T + 1) w))) (c + 1) m (ckU ck c (VS t n (T + 1)) (VS t n (T + 2))) ∧ SB (cDt (KS t n) (VS t n) (T + 3) (cNt (VS t n) c ck (VS t n (T + 1)) (T + 2) (cNt (VS t n) c ck (-1) (T + 1) w))) E) := by
  have e1 : (1 : Int32).toInt = 1 := by decide
  have e2 : (2 : Int32).toInt = 2 := by decide
  have e3 : (3 : Int32).toInt = 3 := by decide
  have e4 : (4 : Int32).toInt = 4 := by decide
  have e5 : (5 : Int32).toInt = 5 := by decide
  have em : (-1 : Int32).toInt = -1 := by decide
  have e300 : (300 : Int32).toInt = 300 := by decide
  have n10 : (10 : Int32).toNatClampNeg = 10 := by decide
  have hd3 := hd.2.2.1
  have hs := hR.1.1
  have xk : ∀ {y : Int32} {k : Nat}, y.toInt = (k : Int) → k ≤ 3 → (x + y).toInt = ((T + k : Nat) : Int) := fun {y k} hy hk => by rw [z_add hx hy (by omega) (by omega)]; omega
  obtain ⟨w1, hw1⟩ : ∃ w1, cNt (VS t n) c ck (-1) (T + 1) w = w1 := ⟨_, rfl⟩
  obtain ⟨w2, hw2⟩ : ∃ w2, cNt (VS t n) c ck (VS t n (T + 1)) (T + 2) w1 = w2 := ⟨_, rfl⟩
  rw [hw1, hw2]
  have hb : ∀ {u : Int32} {T : Nat} {w : Int32 × Nat}, SB w T → SB (cNt (VS t n) c ck u T w) (T + 1) := by
    intro u T w h
    unfold cNt
    refine LB.nns ?_ (Nat.lt_succ_self T)
    split
    · unfold nT
      split
      · exact Or.inr (Or.inr ⟨rfl, (by decide : (3 : Int32).toInt ≤ (5 : Int32).toInt)⟩)
      · exact h.lb
    · exact h.lb
  have S1 : SB w1 (T + 2) := by rw [← hw1]; exact hb hL
  have S2 : SB w2 (T + 3) := by rw [← hw2]; exact hb S1
  unfold fX12_meansChord
  refine pc_gd (fun _ => pc_ob (fun r e => ?_))
  have := gq hS (e := 337) (by decide +kernel) e
  subst this
  refine pc_gd (fun _ => pc_gd (fun _ => pc_bd (fun u5 e5' => ?_)))
  rw [n10] at e5'
  have h5 : w.1 = 0 → u5.toInt = 300 + 4 * (c : Int) := by
    intro z
    have h10 := (hR.2.2.2.2 z).2.2.2.1
    rw [e5']
    exact z_add e300 (z_mul e4 h10 (by omega) (by omega)) (by omega) (by omega)
  unfold fX12_meansChord_L16
  refine pc_lp (fun (a : Int32 × Int32 × Ds) => a.1 = u5 ∧ (a.2.1 = 1 ∧ RM t n s a.2.2 w c m ck ∨ a.2.1 = 2 ∧ RM t n s a.2.2 w1 c m ck ∨ a.2.1 = 3 ∧ RM t n s a.2.2 w2 c m ck)) ?_ 10000 (u5, 1, d) ⟨rfl, Or.inl ⟨rfl, hR⟩⟩
  rintro K ⟨y2, y3, dd⟩ ⟨ea, hh⟩ hK
  dsimp only at ea hh hK ⊢
  subst ea
  -- a key
  have stp : ∀ {k : Nat} {w0 w0' : Int32 × Nat} {u : Int32}, y3.toInt = (k : Int) → k = 1 ∨ k = 2 → RM t n s dd w0 c m ck → SB w0 (T + k) → cNt (VS t n) c ck u (T + k) w0 = w0' → (k = 1 → u = -1) → (k = 2 → u = VS t n (T + 1)) → (∀ d', RM t n s d' w0' c m ck → ∀ y, y = y3 + 1 → pc (K (y2, y, d')) (fun _ d' => RM t n s d' (cDt (KS t n) (VS t n) (T + 3) w2) (c + 1) m (ckU ck c (VS t n (T + 1)) (VS t n (T + 2))) ∧ SB (cDt (KS t n) (VS t n) (T + 3) w2) E)) → pc (fX12_meansChord_B16 10000 g 328 x K y2 y3 dd) (fun _ d' => RM t n s d' (cDt (KS t n) (VS t n) (T + 3) w2) (c + 1) m (ckU ck c (VS t n (T + 1)) (VS t n (T + 2))) ∧ SB (cDt (KS t n) (VS t n) (T + 3) w2) E) := by
    intro k w0 w0' u hy hk RR SS hcn hu1 hu2 go
    have xy : (x + y3).toInt = ((T + k : Nat) : Int) := xk hy (by omega)
    unfold fX12_meansChord_B16
    refine pc_if (fun q => ?_) (fun _ => pc_gd (fun _ => pc_ob (fun r e => ?_)))
    · have := Int32.le_iff_toInt_le.mp q
      omega
    have := gq hS (e := 333) (by decide +kernel) e
    subst this
    refine pc_gd (fun _ => pc_gd (fun _ => pc_bd (fun u44 e44 => pc_cb (isChorded_x (c := c) (m := m) (ck := ck) (V := VS t n) hS) (fun u47 d45 r => ?_))))
    obtain ⟨e, hch⟩ := r
    subst e
    have h44 : u44 = VS t n (T + k) := by
      rw [e44, tn xy]
      exact (RR.1.2.2.2 (T + k) (by omega)).2.2
    rw [h44] at hch ⊢
    have j66 : ∀ {de : Ds} {v : Int32 × Nat}, RM t n s de v c m ck → LB v (T + k) 5 → nNu (VS t n) 0 (kyN (VS t n)) (T + k) v = w0' → pc (fX12_meansChord_J66 10000 g 328 x K y2 y3 de) (fun _ d' => RM t n s d' (cDt (KS t n) (VS t n) (T + 3) w2) (c + 1) m (ckU ck c (VS t n (T + 1)) (VS t n (T + 2))) ∧ SB (cDt (KS t n) (VS t n) (T + 3) w2) E) := by
      intro de v Rv Lv ev
      unfold fX12_meansChord_J66
      refine pc_gd (fun _ => pc_cb (keyTold_x hS Rv.1 Rv.2.1 xy (by omega) Lv Rv.2.2.1 (fun z => ⟨(Rv.2.2.2.2 z).2.1, (Rv.2.2.2.2 z).2.2.1⟩)) (fun u55 d53 r => pc_bd (fun u56 e56 => ?_)))
      have := Rv.wf r.2.2 r.2.1 NX.n
      rw [ev] at this
      exact go d53 this u56 e56
    have j58 : (w0.1 = 0 → VS t n (T + k) = u ∨ tld ck (VS t n (T + k)) (2 * c) = true) → pc (fX12_meansChord_J58 10000 g 328 x K y2 y3 d45) (fun _ d' => RM t n s d' (cDt (KS t n) (VS t n) (T + 3) w2) (c + 1) m (ckU ck c (VS t n (T + 1)) (VS t n (T + 2))) ∧ SB (cDt (KS t n) (VS t n) (T + 3) w2) E) := by
      intro hcond
      unfold fX12_meansChord_J58
      refine pc_gd (fun _ => pc_cv (wrong_x hS RR.1 RR.2.1 xy (by omega) SS.lb) (fun d50 r => ?_))
      refine j66 (RR.wf r.2 r.1 (NX.t (by decide))) ?_ ?_
      · unfold nT
        split
        · exact Or.inr (Or.inr ⟨rfl, (by decide : (3 : Int32).toInt ≤ (5 : Int32).toInt)⟩)
        · exact SS.lb
      · rw [← hcn]
        by_cases z : w0.1 = 0
        · unfold cNt
          rw [if_pos (hcond z)]
        · rw [cNt_n z, nNu_n (show ¬ (nT 3 (T + k) w0).1 = 0 from fun y => z (by have e : nT 3 (T + k) w0 = w0 := if_neg z; rw [e] at y; exact y))]
          exact if_neg z
    have j66' : (w0.1 = 0 → ¬ (VS t n (T + k) = u ∨ tld ck (VS t n (T + k)) (2 * c) = true)) → pc (fX12_meansChord_J66 10000 g 328 x K y2 y3 d45) (fun _ d' => RM t n s d' (cDt (KS t n) (VS t n) (T + 3) w2) (c + 1) m (ckU ck c (VS t n (T + 1)) (VS t n (T + 2))) ∧ SB (cDt (KS t n) (VS t n) (T + 3) w2) E) := by
      intro hcond
      refine j66 RR SS.lb ?_
      rw [← hcn]
      by_cases z : w0.1 = 0
      · unfold cNt
        rw [if_neg (hcond z)]
      · rw [cNt_n z, nNu_n z]
    have hch' : w0.1 = 0 → (u47 = 0 ∧ tld ck (VS t n (T + k)) (2 * c) = false ∨ ¬ u47 = 0 ∧ tld ck (VS t n (T + k)) (2 * c) = true) := fun z => hch (by omega) (RR.2.2.2.2 z).2
    refine pc_if (fun q => pc_if (fun q2 => pc_gd (fun _ => ?_)) (fun q2 => ?_)) (fun q => j58 (fun z => (hch' z).elim (fun y => absurd y.1 q) (fun y => Or.inr y.2)))
    · have k2 : k = 2 := by rw [q2, e2] at hy; omega
      subst k2
      have v1 : dI d45 333 (x + 1).toNatClampNeg = VS t n (T + 1) := by
        rw [tn (xk (k := 1) e1 (by omega))]
        exact (RR.1.2.2.2 (T + 1) (by omega)).2.2
      rw [v1]
      refine pc_if (fun q3 => j58 (fun _ => Or.inl (q3.trans (hu2 rfl).symm))) (fun q3 => j66' (fun z y => ?_))
      rcases y with y | y
      · exact q3 (y.trans (hu2 rfl))
      · rcases hch' z with z | z
        · rw [z.2] at y
          exact absurd y (by decide)
        · exact z.1 q
    · have k1 : k = 1 := by
        rcases hk with hk | hk
        · exact hk
        · exact absurd (Int32.toInt_inj.mp (by rw [hy, e2, hk]; rfl)) q2
      subst k1
      refine j66' (fun z y => ?_)
      rcases y with y | y
      · have := VS_r (t := t) (n := n) (T + 1)
        rw [y, hu1 rfl, em] at this
        omega
      · rcases hch' z with z | z
        · rw [z.2] at y
          exact absurd y (by decide)
        · exact z.1 q
  rcases hh with ⟨hy, RR⟩ | ⟨hy, RR⟩ | ⟨hy, RR⟩
  · exact stp (k := 1) (by rw [hy]; exact e1) (Or.inl rfl) RR hL hw1 (fun _ => rfl) (fun z => absurd z (by decide)) (fun d' R' y ey => hK _ ⟨rfl, Or.inr (Or.inl ⟨by rw [ey, hy]; rfl, R'⟩)⟩)
  · exact stp (k := 2) (by rw [hy]; exact e2) (Or.inr rfl) RR S1 hw2 (fun z => absurd z (by decide)) (fun _ => rfl) (fun d' R' y ey => hK _ ⟨rfl, Or.inr (Or.inr ⟨by rw [ey, hy]; rfl, R'⟩)⟩)
  · subst hy
    have x3 := xk (y := 3) (k := 3) e3 (by omega)
    have nxw : w2.1 = 0 → w.1 = 0 := fun z => by
      rw [← hw2, ← hw1] at z
      exact (NX.cn.tr NX.cn).1 z
    have j116 : ∀ {de : Ds}, RM t n s de (if KS t n (T + 3) = 31 ∨ KS t n (T + 3) = 32 ∨ KS t n (T + 3) = 39 then w2 else nT 5 (T + 3) w2) c m ck → pc (fX12_meansChord_J116 10000 g 328 x y2 de) (fun _ d' => RM t n s d' (cDt (KS t n) (VS t n) (T + 3) w2) (c + 1) m (ckU ck c (VS t n (T + 1)) (VS t n (T + 2))) ∧ SB (cDt (KS t n) (VS t n) (T + 3) w2) E) := by
      intro de Re
      have Se : SB (if KS t n (T + 3) = 31 ∨ KS t n (T + 3) = 32 ∨ KS t n (T + 3) = 39 then w2 else nT 5 (T + 3) w2) (T + 3 + 1) := by
        split
        · exact S2.up (by omega)
        · exact S2.lb.nts (by omega)
      have ecD : dNt (KS t n) (VS t n) (T + 3) (if KS t n (T + 3) = 31 ∨ KS t n (T + 3) = 32 ∨ KS t n (T + 3) = 39 then w2 else nT 5 (T + 3) w2) = cDt (KS t n) (VS t n) (T + 3) w2 := rfl
      unfold fX12_meansChord_J116
      refine pc_gd (fun _ => pc_cv (meansDeed_x hS Re.1 Re.2.1 x3 hd hE Se) (fun d14 r => ?_))
      obtain ⟨N14, S14, f14⟩ := r
      have R14 := Re.wf f14 N14 NX.d
      rw [ecD] at R14 S14
      refine pc_ob (fun r e => ?_)
      have := gq hS (e := 337) (by decide +kernel) e
      subst this
      refine pc_ob (fun r e => ?_)
      have := gq hS (e := 333) (by decide +kernel) e
      subst this
      refine pc_gd (fun _ => pc_gd (fun _ => pc_gd (fun _ => pc_gd (fun _ => pc_bd (fun d22 e22 => pc_gd (fun _ => pc_gd (fun _ => pc_bd (fun d25 e25 => pc_ob (fun r26 _ => pc_gd (fun _ => pc_gd (fun _ => pc_gd (fun _ => pc_bd (fun d30 e30 => pc_gd (fun _ => pc_gd (fun _ => pc_bd (fun d33 e33 => pc_gd (fun _ => pc_bd (fun d35 e35 => pc_some ⟨R14.any (fun r i q => ?_) (fun z => ?_), S14⟩))))))))))))))))))
      · rw [rdq e35 (Or.inl q), rdq e33 (Or.inl q), rdq e30 (Or.inl q), rdq e25 (Or.inl q), rdq e22 (Or.inl q)]
      · obtain ⟨k0, k1, k10, k11, kc, km, kx1, kx2, kx3⟩ := (R14.2.2.2.2 z).2
        have w20 : w2.1 = 0 := by
          have h2 : (if KS t n (T + 3) = 31 ∨ KS t n (T + 3) = 32 ∨ KS t n (T + 3) = 39 then w2 else nT 5 (T + 3) w2).1 = 0 := NX.d.1 (by rw [ecD]; exact z)
          split at h2
          · exact h2
          · exact (NX.t (by decide)).1 h2
        have y2i := h5 (nxw w20)
        have i0 : y2.toNatClampNeg = 300 + 4 * c := tn (by omega)
        have i1 : (y2 + 1).toNatClampNeg = 300 + 4 * c + 1 := tn (by rw [z_add y2i e1 (by omega) (by omega)]; omega)
        have i2 : (y2 + 2).toNatClampNeg = 300 + 4 * c + 2 := tn (by rw [z_add y2i e2 (by omega) (by omega)]; omega)
        have i3 : (y2 + 3).toNatClampNeg = 300 + 4 * c + 3 := tn (by rw [z_add y2i e3 (by omega) (by omega)]; omega)
        have v1 : dI d14 333 (x + 1).toNatClampNeg = VS t n (T + 1) := by
          rw [tn (xk (k := 1) e1 (by omega))]
          exact (R14.1.2.2.2 (T + 1) (by omega)).2.2
        have v2 : dI d22 333 (x + 2).toNatClampNeg = VS t n (T + 2) := by
          rw [tn (xk (k := 2) e2 (by omega)), rdq e22 (Or.inl (by decide))]
          exact (R14.1.2.2.2 (T + 2) (by omega)).2.2
        rw [v1, i0] at e22
        rw [v2, i1] at e25
        rw [i2] at e30
        rw [i3] at e33
        rw [n10] at e35
        have rd : ∀ j, dI d35 337 j = if j = 10 then dI d33 337 10 + 1 else if j = 300 + 4 * c + 3 then dI d35 337 (300 + 4 * c + 3) else if j = 300 + 4 * c + 2 then dI d35 337 (300 + 4 * c + 2) else if j = 300 + 4 * c + 1 then VS t n (T + 2) else if j = 300 + 4 * c then VS t n (T + 1) else dI d14 337 j := by
          intro j
          by_cases z1 : j = 10
          · rw [if_pos z1, z1, e35, sI_rd, if_pos ⟨rfl, rfl⟩]
          · rw [if_neg z1]
            by_cases z2 : j = 300 + 4 * c + 3
            · rw [if_pos z2, z2]
            · rw [if_neg z2]
              by_cases z3 : j = 300 + 4 * c + 2
              · rw [if_pos z3, z3]
              · rw [if_neg z3, rdq e35 (Or.inr z1), rdq e33 (Or.inr z2), rdq e30 (Or.inr z3)]
                by_cases z4 : j = 300 + 4 * c + 1
                · rw [if_pos z4, z4, e25, sI_rd, if_pos ⟨rfl, rfl⟩]
                · rw [if_neg z4, rdq e25 (Or.inr z4)]
                  by_cases z5 : j = 300 + 4 * c
                  · rw [if_pos z5, z5, e22, sI_rd, if_pos ⟨rfl, rfl⟩]
                  · rw [if_neg z5, rdq e22 (Or.inr z5)]
        have ot : ∀ j, ¬ j = 10 → ¬ (300 + 4 * c ≤ j ∧ j ≤ 300 + 4 * c + 3) → dI d35 337 j = dI d14 337 j := by
          intro j a b
          rw [rd, if_neg a, if_neg (by omega), if_neg (by omega), if_neg (by omega), if_neg (by omega)]
        have a10 : dI d33 337 10 = dI d14 337 10 := by rw [rdq e33 (Or.inr (by omega)), rdq e30 (Or.inr (by omega)), rdq e25 (Or.inr (by omega)), rdq e22 (Or.inr (by omega))]
        refine ⟨?_, ?_, ?_, ?_, fun j hj => ?_, fun i hi h4 => ?_, ?_, ?_, fun i hi => ?_⟩
        · rw [ot 0 (by omega) (by omega)]
          exact k0
        · rw [ot 1 (by omega) (by omega)]
          exact k1
        · rw [rd, if_pos rfl, a10, z_add k10 e1 (by omega) (by omega)]
          omega
        · rw [ot 11 (by omega) (by omega)]
          exact k11
        · by_cases q : j = c
          · subst q
            rw [rd, if_neg (by omega), if_neg (by omega), if_neg (by omega), if_neg (by omega), if_pos rfl, rd, if_neg (by omega), if_neg (by omega), if_neg (by omega), if_pos rfl]
            unfold ckU
            rw [if_pos rfl, if_neg (by omega), if_pos rfl]
            exact ⟨rfl, rfl⟩
          · rw [ot _ (by omega) (by omega), ot _ (by omega) (by omega)]
            unfold ckU
            rw [if_neg (by omega), if_neg (by omega), if_neg (by omega), if_neg (by omega)]
            exact kc j (by omega)
        · rw [ot _ (by omega) (by omega)]
          exact km i hi h4
        · rw [ot 2 (by omega) (by omega), show ckU ck c (VS t n (T + 1)) (VS t n (T + 2)) 100 = ck 100 from (if_neg (by omega)).trans (if_neg (by omega))]
          exact kx1
        · rw [ot 4 (by omega) (by omega), show ckU ck c (VS t n (T + 1)) (VS t n (T + 2)) 101 = ck 101 from (if_neg (by omega)).trans (if_neg (by omega))]
          exact kx2
        · obtain ⟨v1', v2', v3'⟩ := kx3 i hi
          have s0 : ckU ck c (VS t n (T + 1)) (VS t n (T + 2)) (200 + 9 * i) = ck (200 + 9 * i) := (if_neg (by omega)).trans (if_neg (by omega))
          rw [s0]
          refine ⟨by rw [ot _ (by omega) (by omega)]; exact v1', v2', fun j hj => ?_⟩
          rw [ot _ (by omega) (by omega), show ckU ck c (VS t n (T + 1)) (VS t n (T + 2)) (200 + 9 * i + 1 + j) = ck (200 + 9 * i + 1 + j) from (if_neg (by omega)).trans (if_neg (by omega))]
          exact v3' j hj
    unfold fX12_meansChord_B16
    refine pc_if (fun _ => pc_gd (fun _ => pc_ob (fun r e => ?_))) (fun q => absurd (Int32.le_iff_toInt_le.mpr (Int.le_refl _)) q)
    have := gq hS (e := 331) (by decide +kernel) e
    subst this
    refine pc_gd (fun _ => pc_gd (fun _ => pc_bd (fun u11 e11 => ?_)))
    have h11 : u11 = KS t n (T + 3) := by
      rw [e11, tn x3]
      exact (RR.1.2.2.2 (T + 3) (by omega)).1
    rw [h11]
    have good : (KS t n (T + 3) = 31 ∨ KS t n (T + 3) = 32 ∨ KS t n (T + 3) = 39) → pc (fX12_meansChord_J116 10000 g 328 x y2 dd) (fun _ d' => RM t n s d' (cDt (KS t n) (VS t n) (T + 3) w2) (c + 1) m (ckU ck c (VS t n (T + 1)) (VS t n (T + 2))) ∧ SB (cDt (KS t n) (VS t n) (T + 3) w2) E) := fun q => j116 (by rw [if_pos q]; exact RR)
    refine pc_if (fun q => good (Or.inl q)) (fun q1 => pc_if (fun q => good (Or.inr (Or.inl q))) (fun q2 => pc_if (fun q => good (Or.inr (Or.inr q))) (fun q3 => ?_)))
    refine pc_cv (wrong_x hS RR.1 RR.2.1 x3 (by omega) S2.lb) (fun d38 r => j116 ?_)
    rw [if_neg (fun z => z.elim q1 (fun z => z.elim q2 q3))]
    exact RR.wf r.2 r.1 (NX.t (by decide))
end CHX
