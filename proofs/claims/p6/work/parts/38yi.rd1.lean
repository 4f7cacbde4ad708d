section RDY
variable {t : Nat → Int32} {n s : Nat} {d : Ds}
theorem pc_mono {α : Type} {x : Option (α × Ds)} {P Q : α → Ds → Prop} (h : pc x P) (k : ∀ a d, P a d → Q a d) : pc x Q := fun a d e => k a d (h a d e)
/-- what reading leaves: the verdict, its place; a bad text changes nothing, a good one is laid -/
def RDP (t : Nat → Int32) (n : Nat) (d : Ds) (u : Int32) (d' : Ds) : Prop := ∃ i, stp2 (KS t n) (sx (KS t n) i) ∧ u = (vd (KS t n) (VS t n) i).1 ∧ (u = 0 → dI d' 328 16 = -1) ∧ (¬ u = 0 → (dI d' 328 16).toInt = ((ps t n (vd (KS t n) (VS t n) i).2 : Nat) : Int) ∧ NF d d') ∧ (u = 0 → FW d' ∧ BR (VS t n) ∧ CKM (VS t n) d' (sx (KS t n) i).2.1 (sx (KS t n) i).2.2 (sm (KS t n) (VS t n) i).2)
/-- the model's verdict -/
theorem read_y {g : Gs} (hS : Shp g) (ht : ∀ j, j < n → dI d 329 j = t j) (hb : ∀ j, byr (t j)) (hn : (dI d 328 2).toInt = (n : Int)) (h2 : n ≤ 2000) (hKL : KL d) : pc (fX12_read 10000 g 328 d) (fun u d' => RDP t n d u d') := by
  have e1 : (1 : Int32).toInt = 1 := by decide
  have e0 : (0 : Int32).toInt = 0 := by decide
  unfold fX12_read
  refine pc_gd (fun _ => pc_bd (fun d2 e2 => ?_))
  unfold fX12_read_L10
  refine pc_lp (fun (a : Int32 × Ds) => ∃ k : Nat, k ≤ n ∧ a.1.toInt = (k : Int) ∧ (dI a.2 328 4).toInt = (n : Int) ∧ (∀ j, j < n → dI a.2 329 j = t j) ∧ (∀ j, j < k → dI a.2 330 j = t j) ∧ KL a.2 ∧ NF d a.2) ?_ 10000 (0, d2) ⟨0, Nat.zero_le _, (by decide : (0 : Int32).toInt = ((0 : Nat) : Int)), ?_, fun j hj => ?_, fun j hj => absurd hj (Nat.not_lt_zero _), ?_, NF.i NF.rf rfl e2⟩
  · rintro K ⟨y1, dd⟩ ⟨k, hk, hy, h4, h329, h330, hKd, hNd⟩ hK
    dsimp only at hy h4 h329 h330 hKd hNd hK ⊢
    unfold fX12_read_B10
    refine pc_gd (fun _ => pc_if (fun q => ?_) (fun q => ?_))
    · have q2 := Int32.le_iff_toInt_le.mp q
      have kn : k = n := by omega
      subst kn
      refine pc_bd (fun d5 e5 => ?_)
      have hc := cutsText_e (t := t) hS hb (n := k) (d := d5) h2 (by rw [rdq e5 (Or.inr (by decide))]; exact h4) (fun j hj => by rw [rdq e5 (Or.inl (by decide))]; exact h330 j hj) (by rw [e5]; exact hKd)
      have N5 := NF.i hNd rfl e5
      refine pc_cv (pc_and hc (n_fX12_cutsText 10000 g d5 hS N5)) (fun d6 r => ?_)
      obtain ⟨hMT, N6⟩ := r
      refine pc_bd (fun d8 e8 => pc_bd (fun d9 e9 => pc_bd (fun d10 e10 => pc_bd (fun d11 e11 => pc_bd (fun d12 e12 => ?_)))))
      have f12 : ∀ r j, ¬ (r = 328 ∧ (j = 11 ∨ j = 12 ∨ j = 14 ∨ j = 20 ∨ j = 21)) → dI d12 r j = dI d6 r j := by
        intro r j h
        rw [e12, sI_rd, if_neg (fun z => h ⟨z.1, by omega⟩), e11, sI_rd, if_neg (fun z => h ⟨z.1, by omega⟩), e10, sI_rd, if_neg (fun z => h ⟨z.1, by omega⟩), e9, sI_rd, if_neg (fun z => h ⟨z.1, by omega⟩), e8, sI_rd, if_neg (fun z => h ⟨z.1, by omega⟩)]
      have v11 : dI d12 328 11 = 0 := by rw [rdq e12 (Or.inr (by decide)), rdq e11 (Or.inr (by decide)), rdq e10 (Or.inr (by decide)), rdq e9 (Or.inr (by decide)), e8, sI_rd, if_pos ⟨rfl, rfl⟩]
      have v12 : dI d12 328 12 = 0 := by rw [rdq e12 (Or.inr (by decide)), rdq e11 (Or.inr (by decide)), rdq e10 (Or.inr (by decide)), e9, sI_rd, if_pos ⟨rfl, rfl⟩]
      have v14 : dI d12 328 14 = 0 := by rw [rdq e12 (Or.inr (by decide)), rdq e11 (Or.inr (by decide)), e10, sI_rd, if_pos ⟨rfl, rfl⟩]
      have v20 : dI d12 328 20 = 0 := by rw [rdq e12 (Or.inr (by decide)), e11, sI_rd, if_pos ⟨rfl, rfl⟩]
      have v21 : dI d12 328 21 = 0 := by rw [e12, sI_rd, if_pos ⟨rfl, rfl⟩]
      have tk12 : tk d12 = tk d6 := funext (fun j => f12 331 j (fun z => absurd z.1 (by decide)))
      have hA : Ag (KS t k) (tk d12) := by rw [tk12]; exact MT_ag hMT
      have X12 : XM d12 = (0, 0) := by
        unfold XM pT
        rw [v11, v12]
        rfl
      have F12 : FI d12 := ⟨by rw [v12]; decide, fun z => absurd v12 z, by rw [v11]; exact ⟨by decide, by decide⟩⟩
      have C12 := CM.rf F12
      rw [X12] at C12
      have N12 := NF.i (NF.i (NF.i (NF.i (NF.i N6 rfl e8) rfl e9) rfl e10) rfl e11) rfl e12
      refine pc_cv (pc_and (C12.must hS) (n_fX12_must 10000 g 20 d12 hS N12)) (fun d13 r13 => pc_cv (pc_and (r13.1.must hS) (n_fX12_must 10000 g 2 d13 hS r13.2)) (fun d15 r15 => pc_cv (pc_and (r15.1.must hS) (n_fX12_must 10000 g 2 d15 hS r15.2)) (fun d17 r17 => pc_cv (pc_and (r17.1.must hS) (n_fX12_must 10000 g 4 d17 hS r17.2)) (fun d19 r19' => ?_))))
      obtain ⟨r19, N19⟩ := r19'
      have SM0 : SMx d12 d19 0 := ⟨r19.1, r19.2.1, r19.2.2.t, fun _ => ⟨by rw [r19.2.2 328 20 (by decide), v20]; rfl, by rw [r19.2.2 328 21 (by decide), v21]; rfl⟩⟩
      refine read91_y hS SM0 N19 (fun i de hSM Nde hst => ?_)
      obtain ⟨xe, fe, frt, _⟩ := hSM
      obtain ⟨sxe, gse⟩ := sx_cg hA i
      rw [sxe] at xe hst
      have hst' : stp2 (KS t k) (sx (KS t k) i) := fun z => hst ⟨z.1, by rw [hA.k gse z.1]; exact z.2⟩
      obtain ⟨x2, x1⟩ := XM_0 xe
      have j154 : ∀ {df : Ds} {z0 : Int32}, NF d df → dI df 328 12 = (sx (KS t k) i).1.2 → ((sx (KS t k) i).1.2 = 0 → dI df 328 14 = (sm (KS t k) (VS t k) i).1.1 ∧ ((sm (KS t k) (VS t k) i).1.1 = 0 ∨ 0 < (sm (KS t k) (VS t k) i).1.1.toInt)) → ((vd (KS t k) (VS t k) i).1 = 0 → z0 = -1 ∧ BR (VS t k) ∧ CKM (VS t k) df (sx (KS t k) i).2.1 (sx (KS t k) i).2.2 (sm (KS t k) (VS t k) i).2) → (¬ (vd (KS t k) (VS t k) i).1 = 0 → z0.toInt = ((ps t k (vd (KS t k) (VS t k) i).2 : Nat) : Int)) → pc (fX12_read_J154 10000 g 328 z0 328 df) (fun u d' => RDP t k d u d') := by
        intro df z0 Ndf h12 h14 hg hb
        unfold fX12_read_J154
        refine pc_gd (fun _ => pc_bd (fun d29 e29 => pc_gd (fun _ => ?_)))
        have N29 := NF.i Ndf rfl e29
        have w12 : dI d29 328 12 = (sx (KS t k) i).1.2 := by rw [rdq e29 (Or.inr (by decide))]; exact h12
        have w14 : dI d29 328 14 = dI df 328 14 := rdq e29 (Or.inr (by decide))
        have w16 : dI d29 328 16 = z0 := by rw [e29, sI_rd, if_pos ⟨rfl, rfl⟩]
        have hF := fe.1
        rw [x2] at hF
        refine pc_if (fun q => ?_) (fun q => ?_)
        · have q2 := Int32.le_iff_toInt_le.mp q
          rw [w12] at q2
          have z0' : (sx (KS t k) i).1.2 = 0 := Int32.toInt_inj.mp (by omega)
          have ev : vd (KS t k) (VS t k) i = (sm (KS t k) (VS t k) i).1 := if_pos z0'
          obtain ⟨a, b⟩ := h14 z0'
          refine pc_if (fun q => ?_) (fun q => ?_)
          · have q3 := Int32.le_iff_toInt_le.mp q
            rw [w14, a] at q3
            have c0 : (sm (KS t k) (VS t k) i).1.1 = 0 := by
              rcases b with b | b
              · exact b
              · omega
            have v0 : (vd (KS t k) (VS t k) i).1 = 0 := by rw [ev]; exact c0
            obtain ⟨g1, g2, g3⟩ := hg v0
            refine pc_mono (read183_y hS) (fun u d' r => ?_)
            obtain ⟨hu, hFW, hfr⟩ := r
            refine ⟨i, hst', hu.trans v0.symm, fun _ => ?_, fun z => absurd hu z, fun _ => ⟨hFW, g2, g3.wf (fun j _ => ?_)⟩⟩
            · rw [hfr 328 16 (by decide) (by decide), w16]
              exact g1
            · rw [hfr 337 j (by decide) (by decide)]
              exact rdq e29 (Or.inl (by decide))
          · have n0 : ¬ (vd (KS t k) (VS t k) i).1 = 0 := fun z => q (Int32.le_iff_toInt_le.mpr (by rw [w14, a]; rw [ev] at z; rw [z]; exact Int.le_refl _))
            refine pc_some ⟨i, hst', by rw [ev, w14, a], fun z => absurd ?_ n0, fun _ => ⟨by rw [w16]; exact hb n0, N29⟩, fun z => absurd ?_ n0⟩ <;> · rw [ev, ← a, ← w14]; exact z
        · have q2 := Int32.lt_iff_toInt_lt.mp (nle q)
          have nz : ¬ (sx (KS t k) i).1.2 = 0 := fun z => by rw [w12, z] at q2; omega
          have ev : vd (KS t k) (VS t k) i = ((sx (KS t k) i).1.2, (sx (KS t k) i).1.1) := if_neg nz
          have n0 : ¬ (vd (KS t k) (VS t k) i).1 = 0 := by rw [ev]; exact nz
          refine pc_some ⟨i, hst', by rw [ev, w12], fun z => absurd (w12.symm.trans z) nz, fun _ => ⟨by rw [w16]; exact hb n0, N29⟩, fun z => absurd (w12.symm.trans z) nz⟩
      have j124 : ∀ {df : Ds}, NF d df → dI df 328 12 = (sx (KS t k) i).1.2 → ((sx (KS t k) i).1.2 = 0 → dI df 328 14 = (sm (KS t k) (VS t k) i).1.1 ∧ ((sm (KS t k) (VS t k) i).1.1 = 0 ∨ 0 < (sm (KS t k) (VS t k) i).1.1.toInt)) → ((vd (KS t k) (VS t k) i).1 = 0 → BR (VS t k) ∧ CKM (VS t k) df (sx (KS t k) i).2.1 (sx (KS t k) i).2.2 (sm (KS t k) (VS t k) i).2) → ((sx (KS t k) i).1.2 = 0 → ¬ (sm (KS t k) (VS t k) i).1.1 = 0 → (dI df 328 15).toInt = ((ps t k (sm (KS t k) (VS t k) i).1.2 : Nat) : Int)) → (¬ (sx (KS t k) i).1.2 = 0 → (dI df 328 13).toInt = ((ps t k (sx (KS t k) i).1.1 : Nat) : Int)) → pc (fX12_read_J124 10000 g 328 df) (fun u d' => RDP t k d u d') := by
        intro df Ndf h12 h14 hg h15 h13
        have hF := fe.1
        rw [x2] at hF
        unfold fX12_read_J124
        refine pc_gd (fun _ => pc_if (fun q => ?_) (fun q => ?_))
        · have q2 := Int32.le_iff_toInt_le.mp q
          rw [h12] at q2
          have z0' : (sx (KS t k) i).1.2 = 0 := Int32.toInt_inj.mp (by omega)
          have ev : vd (KS t k) (VS t k) i = (sm (KS t k) (VS t k) i).1 := if_pos z0'
          obtain ⟨a, b⟩ := h14 z0'
          refine pc_if (fun q => ?_) (fun q => ?_)
          · have q3 := Int32.le_iff_toInt_le.mp q
            rw [a] at q3
            have c0 : (sm (KS t k) (VS t k) i).1.1 = 0 := by
              rcases b with b | b
              · exact b
              · omega
            exact j154 Ndf h12 h14 (fun z => ⟨rfl, hg z⟩) (fun z => absurd (by rw [ev]; exact c0) z)
          · refine j154 Ndf h12 h14 (fun z => absurd (Int32.le_iff_toInt_le.mpr ?_) q) (fun z => ?_)
            · rw [ev] at z
              rw [a, z]
              exact Int.le_refl _
            · rw [ev] at z ⊢
              exact h15 z0' z
        · have q2 := Int32.lt_iff_toInt_lt.mp (nle q)
          have nz : ¬ (sx (KS t k) i).1.2 = 0 := fun z => by rw [h12, z] at q2; omega
          have ev : vd (KS t k) (VS t k) i = ((sx (KS t k) i).1.2, (sx (KS t k) i).1.1) := if_neg nz
          refine j154 Ndf h12 h14 (fun z => absurd (by rw [ev] at z; exact z) nz) (fun z => ?_)
          rw [ev]
          exact h13 nz
      have fe6 : ∀ r j, ¬ (r = 328 ∧ (j = 11 ∨ j = 12 ∨ j = 13 ∨ j = 14 ∨ j = 20 ∨ j = 21)) → dI de r j = dI d6 r j := fun r j h => by
        rw [frt r j (fun z => h ⟨z.1, by omega⟩), f12 r j (fun z => h ⟨z.1, by omega⟩)]
      have pl13 : ¬ (sx (KS t k) i).1.2 = 0 → (dI de 328 13).toInt = ((ps t k (sx (KS t k) i).1.1 : Nat) : Int) := by
        intro z
        have hp := fe.2.1 (fun y => z (x2.symm.trans y))
        have h400 := fe.2.2.2
        have hT : (sx (KS t k) i).1.1 ≤ 400 := by
          rw [← x1]
          show (dI de 328 11).toInt.toNat ≤ 400
          omega
        rw [hp, x1, fe6 332 _ (by omega)]
        obtain ⟨s, hs, hTT, hE⟩ := hMT
        rcases hE with ⟨hE, _⟩ | ⟨h1, h3, h5, h6, h7, h8⟩
        · exact (hTT _ (by omega)).2.2.1
        · have hle : (sx (KS t k) i).1.1 ≤ s := by
            rcases Nat.lt_or_ge s (sx (KS t k) i).1.1 with y | y
            · exact absurd (by unfold KS; rw [if_neg h1]) (sx_nz (K := KS t k) i s y)
            · exact y
          rcases Nat.lt_or_ge (sx (KS t k) i).1.1 s with y | y
          · exact (hTT _ y).2.2.1
          · have ee : (sx (KS t k) i).1.1 = s := by omega
            have hps : ps t k s = k := by have := ps_le (t := t) (n := k) s; omega
            rw [ee, hps]
            exact h7
      unfold fX12_read_J113
      refine pc_gd (fun _ => pc_if (fun q => ?_) (fun q => ?_))
      · have z0 : (sx (KS t k) i).1.2 = 0 := x2.symm.trans q
        have kz : KS t k (sx (KS t k) i).1.1 = 0 := by
          by_cases z : KS t k (sx (KS t k) i).1.1 = 0
          · exact z
          · exact absurd ⟨z0, z⟩ hst'
        obtain ⟨p4, pz⟩ := gse z0
        obtain ⟨s, hs, hT, hE⟩ := hMT
        rcases hE with ⟨hE, _⟩ | ⟨h1, h3, h5, h6, h7, h8⟩
        · exact absurd kz (KS_nz (hT _ (by omega)).1)
        · have hM : MTk t k s de := by
            refine ⟨h3, fun j hj => (hT j hj).1, by rw [fe6 328 10 (by decide)]; exact h5, fun j hj => ?_⟩
            rw [fe6 331 j (by omega), fe6 332 j (by omega), fe6 333 j (by omega)]
            by_cases z : j = s
            · subst z
              have hps : ps t k j = k := by have := ps_le (t := t) (n := k) j; omega
              refine ⟨?_, by rw [hps]; exact h7, ?_⟩
              · rw [h6]
                unfold KS
                rw [if_neg h1]
              · rw [h8]
                unfold VS
                rw [if_neg h1]
            · obtain ⟨a, b, c, e⟩ := hT j (by omega)
              refine ⟨?_, c, ?_⟩
              · rw [b]
                unfold KS
                rw [if_pos a]
              · rw [e]
                unfold VS
                rw [if_pos a]
          have w14 : dI de 328 14 = 0 := by rw [frt 328 14 (by decide)]; exact v14
          refine pc_cv (pc_and (means_x hS hM h1 q w14 hst' z0) (n_fX12_means 10000 g de hS Nde)) (fun d53 r' => ?_)
          obtain ⟨r, N53⟩ := r'
          have ev : vd (KS t k) (VS t k) i = (sm (KS t k) (VS t k) i).1 := if_pos z0
          exact j124 N53 (by rw [r.1.1, z0]) (fun _ => ⟨r.1.2.1, r.2.1⟩) (fun z => r.2.2 (by rw [← ev]; exact z)) (fun _ z => r.1.2.2 z) (fun z => absurd z0 z)
      · have nz : ¬ (sx (KS t k) i).1.2 = 0 := fun z => q (x2.trans z)
        exact j124 Nde x2 (fun z => absurd z nz) (fun z => absurd (by have ev : vd (KS t k) (VS t k) i = ((sx (KS t k) i).1.2, (sx (KS t k) i).1.1) := if_neg nz; rw [ev] at z; exact z) nz) (fun z => absurd z nz) pl13
    · have q2 := Int32.lt_iff_toInt_lt.mp (nle q)
      refine pc_ob (fun r61 er61 => ?_)
      have := gq hS (e := 330) (by decide +kernel) er61
      subst this
      refine pc_ob (fun r62 er62 => ?_)
      have := gq hS (e := 329) (by decide +kernel) er62
      subst this
      refine pc_gd (fun _ => pc_gd (fun _ => pc_gd (fun _ => pc_gd (fun _ => pc_bd (fun d67 e67 => pc_bd (fun u68 e68 => ?_))))))
      rw [tn hy, h329 k (by omega), nar_by (hb k)] at e67
      refine hK _ ⟨k + 1, by omega, ?_, ?_, fun j hj => ?_, fun j hj => ?_, ?_, NF.i hNd rfl e67⟩
      · dsimp only
        rw [e68, z_add hy e1 (by omega) (by omega)]
        omega
      · dsimp only
        rw [rdq e67 (Or.inl (by decide))]
        exact h4
      · dsimp only
        rw [rdq e67 (Or.inl (by decide))]
        exact h329 j hj
      · dsimp only
        rw [e67, sI_rd]
        by_cases z : j = k
        · rw [if_pos ⟨rfl, z⟩, z]
        · rw [if_neg (fun y => z y.2)]
          exact h330 j (by omega)
      · dsimp only
        rw [e67]
        exact hKd
  · show (dI d2 328 4).toInt = _
    rw [e2, sI_rd, if_pos ⟨rfl, rfl⟩]
    exact hn
  · show dI d2 329 j = t j
    rw [rdq e2 (Or.inl (by decide))]
    exact ht j hj
  · show KL d2
    rw [e2]
    exact hKL
end RDY
