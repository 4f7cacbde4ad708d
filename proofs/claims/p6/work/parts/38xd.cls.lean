/-! codes, lines -/
section LINES
variable {t : Nat → Int32} {n : Nat} {d0 d : Ds} {T c m : Nat} {w : Int32 × Nat} {ck : Nat → Int32}
theorem addCode_e {g : Gs} (hS : Shp g) {N l : Nat} {a : Int32} {V : Nat → Int32} (hm : m < 4) (hl : l < 8) (hL : ck (200 + 9 * m) = Int32.ofNat l) (hD : DR V d c (m + 1) ck) (hc : c ≤ 4) : pc (fX0_addMacroCode N g 9 a d) (fun _ d' => QF d d' ∧ DR V d' c (m + 1) (mcU ck m l a)) := by
  have e8 : (8 : Int32).toInt = 8 := by decide
  have e1 : (1 : Int32).toInt = 1 := by decide
  have e0 : (0 : Int32).toInt = 0 := by decide
  obtain ⟨h0, h1, h12, h16, hk, hx1, hx2, hx3⟩ := hD
  obtain ⟨y1, y2, y3⟩ := hx3 m (by omega)
  have el : (Int32.ofNat l).toInt = (l : Int) := Int32.toInt_ofNat_of_lt (by omega)
  unfold fX0_addMacroCode fX0_addMacroCode_J49
  refine pc_gd (fun _ => pc_bd (fun u2 e2 => ?_))
  have hu : u2.toInt = (m : Int) := by rw [e2, z_sub h16 e1 (by omega) (by omega)]; omega
  refine pc_if (fun q => ?_) (fun _ => pc_ob (fun r e => ?_))
  · have := Int32.lt_iff_toInt_lt.mp q
    omega
  have := gq hS (e := 15) (by decide +kernel) e
  subst this
  rw [tn hu, y1, hL]
  refine pc_gd (fun _ => pc_gd (fun _ => pc_if (fun q => ?_) (fun _ => pc_ob (fun r e => ?_))))
  · have := Int32.le_iff_toInt_le.mp q
    omega
  have := gq hS (e := 16) (by decide +kernel) e
  subst this
  have i16 : ((u2 * 8) + Int32.ofNat l).toNatClampNeg = 8 * m + l := tn (by rw [z_add (z_mul hu e8 (by omega) (by omega)) el (by omega) (by omega)]; omega)
  rw [i16]
  refine pc_gd (fun _ => pc_gd (fun _ => pc_bd (fun d11 e11 => pc_bd (fun d12 e12 => pc_some ⟨(QF.rf.i e11 (by decide)).i e12 (by decide), ?_⟩))))
  have v11 : dI d11 15 m = Int32.ofNat l := by rw [rdq e11 (Or.inl (by decide)), y1, hL]
  have f9 : ∀ r j, ¬ (r = 15 ∧ j = m) → ¬ (r = 16 ∧ j = 8 * m + l) → dI d12 r j = dI d r j := fun r j q1 q2 => by
    rw [e12, sI_rd, if_neg q1, e11, sI_rd, if_neg q2]
  have el1 : Int32.ofNat l + 1 = Int32.ofNat (l + 1) := Int32.toInt_inj.mp (by rw [z_add el e1 (by omega) (by omega), Int32.toInt_ofNat_of_lt (by omega)]; omega)
  have v15 : dI d12 15 m = Int32.ofNat (l + 1) := by rw [e12, sI_rd, if_pos ⟨rfl, rfl⟩, v11, el1]
  have v16 : dI d12 16 (8 * m + l) = a := by rw [rdq e12 (Or.inl (by decide)), e11, sI_rd, if_pos ⟨rfl, rfl⟩]
  have lo : ∀ j, j < 200 → mcU ck m l a j = ck j := fun j hj => by
    unfold mcU
    rw [if_neg (by omega), if_neg (by omega)]
  refine ⟨by rw [f9 9 0 (by omega) (by omega)]; exact h0, by rw [f9 9 1 (by omega) (by omega)]; exact h1, by rw [f9 9 12 (by omega) (by omega)]; exact h12, by rw [f9 9 16 (by omega) (by omega)]; exact h16, fun j hj => ?_, by rw [f9 9 2 (by omega) (by omega), lo 100 (by omega)]; exact hx1, by rw [f9 9 4 (by omega) (by omega), lo 101 (by omega)]; exact hx2, fun i hi => ?_⟩
  · rw [f9 12 j (by omega) (by omega), f9 13 j (by omega) (by omega), lo _ (by omega), lo _ (by omega)]
    exact hk j hj
  · by_cases z : i = m
    · subst z
      have m0 : mcU ck i l a (200 + 9 * i) = Int32.ofNat (l + 1) := if_pos rfl
      rw [m0, Int32.toInt_ofNat_of_lt (by omega)]
      refine ⟨v15, by omega, fun j hj => ?_⟩
      unfold mcU
      by_cases w : j = l
      · subst w
        rw [if_neg (by omega), if_pos rfl]
        exact v16
      · rw [if_neg (by omega), if_neg (by omega), f9 16 _ (by omega) (by omega)]
        exact y3 j (by rw [hL, el]; omega)
    · obtain ⟨z1, z2, z3⟩ := hx3 i hi
      have m0 : mcU ck m l a (200 + 9 * i) = ck (200 + 9 * i) := by
        unfold mcU
        rw [if_neg (by omega), if_neg (by omega)]
      rw [m0]
      refine ⟨by rw [f9 15 i (by omega) (by omega)]; exact z1, z2, fun j hj => ?_⟩
      have m1 : mcU ck m l a (200 + 9 * i + 1 + j) = ck (200 + 9 * i + 1 + j) := by
        unfold mcU
        rw [if_neg (by omega), if_neg (by omega)]
      rw [m1, f9 16 _ (by omega) (by omega)]
      exact z3 j hj
theorem addMacro_e {g : Gs} (hS : Shp g) {N : Nat} {a : Int32} {V : Nat → Int32} (hc : c ≤ 4) (hm : m < 4) (hD : DR V d c m ck) : pc (fX0_addMacro N g 9 a d) (fun _ d' => QF d d' ∧ DR V d' c (m + 1) (mcU ck m 0 a)) := by
  have e4 : (4 : Int32).toInt = 4 := by decide
  have e1 : (1 : Int32).toInt = 1 := by decide
  obtain ⟨h0, h1, h12, h16, hk, hx1, hx2, hx3⟩ := hD
  unfold fX0_addMacro fX0_addMacro_J33
  refine pc_gd (fun _ => pc_if (fun q => ?_) (fun q => pc_ob (fun r3 e => ?_)))
  · have := Int32.le_iff_toInt_le.mp q
    omega
  have := gq hS (e := 15) (by decide +kernel) e
  subst this
  refine pc_gd (fun _ => pc_gd (fun _ => pc_bd (fun d6 e6 => pc_bd (fun d7 e7 => ?_))))
  rw [tn h16] at e6
  have q7 := (QF.rf.i e6 (by decide)).i e7 (by decide)
  have em : mcU (stU ck (200 + 9 * m) 0) m 0 a = mcU ck m 0 a := funext (fun j => by
    unfold mcU stU
    by_cases z : j = 200 + 9 * m
    · rw [if_pos z, if_pos z]
    · rw [if_neg z, if_neg z, if_neg z])
  have lo : ∀ j, ¬ j = 200 + 9 * m → stU ck (200 + 9 * m) 0 j = ck j := fun j hj => if_neg hj
  have D7 : DR V d7 c (m + 1) (stU ck (200 + 9 * m) 0) := by
    refine ⟨?_, ?_, ?_, ?_, fun j hj => ?_, ?_, ?_, fun i hi => ?_⟩
    · rw [rdq e7 (Or.inr (by decide)), rdq e6 (Or.inl (by decide))]
      exact h0
    · rw [rdq e7 (Or.inr (by decide)), rdq e6 (Or.inl (by decide))]
      exact h1
    · rw [rdq e7 (Or.inr (by decide)), rdq e6 (Or.inl (by decide))]
      exact h12
    · rw [e7, sI_rd, if_pos ⟨rfl, rfl⟩, rdq e6 (Or.inl (by decide)), z_add h16 e1 (by omega) (by omega)]
      omega
    · rw [rdq e7 (Or.inl (by decide)), rdq e6 (Or.inl (by decide)), rdq e7 (Or.inl (by decide)), rdq e6 (Or.inl (by decide)), lo _ (by omega), lo _ (by omega)]
      exact hk j hj
    · rw [rdq e7 (Or.inr (by decide)), rdq e6 (Or.inl (by decide)), lo _ (by omega)]
      exact hx1
    · rw [rdq e7 (Or.inr (by decide)), rdq e6 (Or.inl (by decide)), lo _ (by omega)]
      exact hx2
    · by_cases z : i = m
      · subst z
        have m0 : stU ck (200 + 9 * i) 0 (200 + 9 * i) = 0 := if_pos rfl
        rw [m0]
        refine ⟨by rw [rdq e7 (Or.inl (by decide)), e6, sI_rd, if_pos ⟨rfl, rfl⟩], by decide, fun j hj => ?_⟩
        have e0 : (0 : Int32).toInt = 0 := by decide
        omega
      · obtain ⟨z1, z2, z3⟩ := hx3 i (by omega)
        rw [lo _ (by omega)]
        refine ⟨by rw [rdq e7 (Or.inl (by decide)), rdq e6 (Or.inr (by omega))]; exact z1, z2, fun j hj => ?_⟩
        rw [lo _ (by omega), rdq e7 (Or.inl (by decide)), rdq e6 (Or.inl (by decide))]
        exact z3 j hj
  refine pc_cv (addCode_e (l := 0) hS hm (by decide) (show stU ck (200 + 9 * m) 0 (200 + 9 * m) = Int32.ofNat 0 from if_pos rfl) D7 hc) (fun d8 r => pc_some ?_)
  obtain ⟨q8, f8⟩ := r
  rw [em] at f8
  exact ⟨⟨fun j => (q8.1 j).trans (q7.1 j), q7.2.tr q8.2⟩, f8⟩
theorem takeMacro_e {g : Gs} (hS : Shp g) (hc : c ≤ 4) (hm : m < 4) (hC : CT t n d) (hx : XC d (T, 0)) (hw : NT d w) (hD : DR (VS t n) d c m ck) : pc (fX7_takeMacro 10000 g 2 d) (fun u d' => CQ d (fun d' => DR (VS t n) d' c (m + 1) (mcF (KS t n) (VS t n) m 8 T 0 ck)) d' u (iS (KS t n) 7 (mS (KS t n) 2 (T, 0))) (mNt (KS t n) (VS t n) 7 (T + 1) (nW (VS t n) 30 T w))) := by
  have e1 : (1 : Int32).toInt = 1 := by decide
  have e8 : (8 : Int32).toInt = 8 := by decide
  unfold fX7_takeMacro
  refine pc_gd (fun _ => pc_gd (fun _ => pc_seqQ (K := KS t n) TF.rf (takeNumber_e hS hC SF.rf hx hw) (fun q => iS_n q) (fun d3 m1 m2 a b c3 n3 => ?_)))
  have w3 : NT d3 (nW (VS t n) 30 T w) := c3
  rw [m1]
  refine pc_ob (fun r e => ?_)
  have := gq hS (e := 9) (by decide +kernel) e
  subst this
  rw [n3]
  refine pc_gd (fun _ => pc_cv (addMacro_e hS hc hm (hD.f b.drf)) (fun d9 r => ?_))
  obtain ⟨q9, D9⟩ := r
  obtain ⟨Y, hY⟩ : ∃ Y, iS (KS t n) 7 (T + 1, 0) = Y := ⟨_, rfl⟩
  obtain ⟨W, hW⟩ : ∃ W, mNt (KS t n) (VS t n) 7 (T + 1) (nW (VS t n) 30 T w) = W := ⟨_, rfl⟩
  rw [hY, hW]
  obtain ⟨CK, hCK⟩ : ∃ CK, mcF (KS t n) (VS t n) m 8 T 0 ck = CK := ⟨_, rfl⟩
  have hC7 : mcF (KS t n) (VS t n) m 7 (T + 1) 1 (mcU ck m 0 (VS t n T)) = CK := by
    rw [← hCK]
    exact (if_pos m2).symm
  rw [hCK]
  unfold fX7_takeMacro_L34
  refine pc_lp (fun a => ∃ k T' w', k ≤ 7 ∧ a.1.toInt = 8 - ((k : Nat) : Int) ∧ XC a.2 (T', 0) ∧ NT a.2 w' ∧ TF d a.2 ∧ (∃ ck', DR (VS t n) a.2 c (m + 1) ck' ∧ ck' (200 + 9 * m) = Int32.ofNat (8 - k) ∧ mcF (KS t n) (VS t n) m k T' (8 - k) ck' = CK) ∧ iS (KS t n) k (T', 0) = Y ∧ mNt (KS t n) (VS t n) k T' w' = W) ?_ 10000 (1, d9) ⟨7, T + 1, _, by decide, (by decide : (1 : Int32).toInt = 8 - ((7 : Nat) : Int)), a.q q9, w3.q q9, b.tf.tr q9.2, ⟨_, D9, if_pos rfl, hC7⟩, hY, hW⟩
  rintro K' ⟨y1, dd⟩ ⟨k, T', w', hk, hy, hX, hN, hT, ⟨ck', hDD, hl', hcf⟩, hi, hm'⟩ hK
  dsimp only at hy hX hN hT hDD hK ⊢
  unfold fX7_takeMacro_B34
  refine pc_if (fun q => ?_) (fun _ => pc_gd (fun _ => pc_ob (fun r e => ?_)))
  · have := Int32.lt_iff_toInt_lt.mp q
    omega
  have := gq hS (e := 3) (by decide +kernel) e
  subst this
  refine pc_gd (fun _ => pc_cb (kindAt_e hS (hC.tf hT) hX.1 hX.2.2.1) (fun u d15 r => ?_))
  obtain ⟨e, hu⟩ := r
  subst e
  have hk2 := hu.1
  dsimp only at hk2
  refine pc_if (fun q => ?_) (fun q => ?_)
  · have k2 := hk2.mp q
    refine pc_if (fun q8 => ?_) (fun q8 => ?_)
    · have k0 : k = 0 := by rw [q8, e8] at hy; omega
      subst k0
      have eY : Y = (T', 2) := by
        rw [← hi]
        exact if_pos ⟨rfl, k2⟩
      rw [eY]
      refine pc_cb (failC_e (w := w') (by decide) SF.rf hX) (fun u32 d30 r => pc_gd (fun _ => pc_some ?_))
      obtain ⟨x1, x2, x3⟩ := r
      exact ⟨x1, hT.tr x2.tf, x3.elim (fun z => absurd z.2.1 (show ¬ (2 : Int32) = 0 by decide)) (fun z => Or.inr z)⟩
    · have k0 : ¬ k = 0 := fun z => q8 (Int32.toInt_inj.mp (by rw [hy, e8, z]; rfl))
      obtain ⟨k', hk'⟩ : ∃ k', k = k' + 1 := ⟨k - 1, by omega⟩
      subst hk'
      have eP : mS (KS t n) 2 (T', 0) = pS (T', 0) := by
        unfold mS
        rw [if_pos rfl, if_pos k2]
      have eY : iS (KS t n) k' (mS (KS t n) 2 (T', 0)) = Y := by
        rw [← hi, eP]
        exact (if_pos ⟨rfl, k2⟩).symm
      have eW : mNt (KS t n) (VS t n) k' (T' + 1) (nW (VS t n) 30 T' w') = W := by
        rw [← hm']
        exact (if_pos k2).symm
      refine pc_gd (fun _ => pc_seqQ (K := KS t n) hT (takeNumber_e hS (hC.tf hT) SF.rf hX hN) (fun z => by rw [← eY]; exact iS_n z) (fun d21 m1 m2 a' b' c' n' => ?_))
      rw [m1] at eY
      refine pc_ob (fun r e => ?_)
      have := gq hS (e := 9) (by decide +kernel) e
      subst this
      have ec : mcF (KS t n) (VS t n) m k' (T' + 1) (8 - k') (mcU ck' m (8 - (k' + 1)) (VS t n T')) = CK := by
        rw [← hcf, show 8 - k' = 8 - (k' + 1) + 1 by omega]
        exact (if_pos k2).symm
      rw [n']
      refine pc_gd (fun _ => pc_cv (addCode_e hS hm (by omega) hl' (hDD.f b'.drf) hc) (fun d27 r => pc_bd (fun u29 e29 => hK _ ⟨k', T' + 1, _, by omega, ?_, a'.q r.1, NT.q c' r.1, (hT.tr b'.tf).tr r.1.2, ⟨_, r.2, ?_, ec⟩, eY, eW⟩)))
      rotate_left
      · rw [show 8 - k' = 8 - (k' + 1) + 1 by omega]
        exact if_pos rfl
      dsimp only
      rw [e29, z_add hy e1 (by omega) (by omega)]
      omega
  · unfold fX7_takeMacro_J105
    have nk : ¬ KS t n T' = 2 := fun z => q (hk2.mpr z)
    have eY : Y = (T', 0) := by
      rw [← hi]
      cases k with
      | zero => exact if_neg (fun z => nk z.2)
      | succ k => exact if_neg (fun z => nk z.2)
    have eW : W = w' := by
      rw [← hm']
      cases k with
      | zero => rfl
      | succ k => exact if_neg nk
    have eC : CK = ck' := by
      rw [← hcf]
      cases k with
      | zero => rfl
      | succ k => exact if_neg nk
    rw [eY, eW, eC]
    exact pc_some ⟨hX, hT, Or.inl ⟨rfl, rfl, hN, hDD⟩⟩
theorem lS_n {K : Nat → Int32} {c : Int32} {x : Nat × Int32} (h : ¬ x.2 = 0) : lS K c x = x := by
  have e7 : iS K 7 x = x := iS_n h
  unfold lS
  rw [mS_n h, mS_n h, dS_n h, e7]
  simp only [ite_self]
theorem line170 {g : Gs} (hS : Shp g) {N : Nat} {y2 : Int32} {y : Nat × Int32} (hC : CT t n d0) (h : CQ d0 (fun d' => DR (VS t n) d' c m ck) d y2 y w) : pc (fX7_takeLine_J170 N g 2 y2 d) (fun u d' => CQ d0 (fun d' => DR (VS t n) d' c m ck) d' u (mS (KS t n) 4 y) w) := by
  obtain ⟨hx, hT, hu⟩ := h
  have j186 : ∀ {dd : Ds} {z : Nat × Int32}, CQ d0 (fun d' => DR (VS t n) d' c m ck) dd 0 z w → pc (fX7_takeLine_J186 N g 2 dd) (fun u d' => CQ d0 (fun d' => DR (VS t n) d' c m ck) d' u z w) := by
    intro dd z hq
    unfold fX7_takeLine_J186 fX7_takeLine_J187
    exact pc_gd (fun _ => pc_some hq)
  unfold fX7_takeLine_J170
  rcases hu with ⟨hu, y0, hw, hD⟩ | ⟨hu, y0⟩ <;> rw [hu]
  · refine pc_if (fun q => absurd q (by decide)) (fun _ => pc_gd (fun _ => ?_))
    obtain ⟨T', f⟩ := y
    dsimp only at y0
    subst y0
    refine pc_cb (takeToken_e (d0 := d) hS (hC.tf hT) SF.rf hx hw hk_4) (fun u46 d44 r => ?_)
    have r2 := r.cq (G := fun d' => DR (VS t n) d' c m ck) hT (fun sf => hD.f sf.drf)
    rcases r.2.2 with ⟨hu, _⟩ | ⟨hu, _⟩
    · rw [hu] at r2 ⊢
      refine pc_if (fun q => absurd q (by decide)) (fun _ => ?_)
      unfold fX7_takeLine_J187
      exact pc_gd (fun _ => pc_some r2)
    · rw [hu] at r2 ⊢
      exact pc_if (fun _ => j186 r2) (fun q => absurd rfl q)
  · rw [mS_n y0]
    exact pc_if (fun _ => j186 ⟨hx, hT, Or.inr ⟨rfl, y0⟩⟩) (fun q => absurd rfl q)
end LINES
