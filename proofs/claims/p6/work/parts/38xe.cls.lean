section LN
variable {t : Nat → Int32} {n : Nat} {d0 d : Ds} {T c m : Nat} {w : Int32 × Nat} {ck : Nat → Int32}
/-- what a line does to the chords -/
def ckN (K V : Nat → Int32) (T c m : Nat) (ck : Nat → Int32) : Nat → Int32 := if K T = 29 then ckU ck c (V (T + 1)) (V (T + 2)) else if K T = 30 then mcF K V m 8 (T + 1) 0 ck else if K T = 21 then stU ck 100 1 else if K T = 23 then stU ck 101 (V (T + 1)) else ck
theorem wfv3 {k : Int32} (h : 20 ≤ k.toInt) (h2 : k.toInt ≤ 39) : wfv 3 (kk k) = 0 ↔ (k.toInt ≤ 20 ∨ 30 < k.toInt) := by
  have : ∀ m, m < 20 → (wfv 3 m = 0 ↔ (m = 0 ∨ 10 < m)) := by decide
  rw [this (kk k) (by unfold kk; omega)]
  unfold kk
  omega
theorem takeLine_e {g : Gs} (hS : Shp g) (hc : c ≤ 4) (hm : m ≤ 4) (hC : CT t n d) (hx : XC d (T, 0)) (hw : NT d w) (hD : DR (VS t n) d c m ck) : pc (fX7_takeLine 10000 g 2 d) (fun u d' => CQ d (fun d' => DR (VS t n) d' (c + if KS t n T = 29 then 1 else 0) (m + if KS t n T = 30 then 1 else 0) (ckN (KS t n) (VS t n) T c m ck)) d' u (tS (KS t n) c m T) (lNt (KS t n) (VS t n) c ck T w)) := by
  have e4 : (4 : Int32).toInt = 4 := by decide
  have e23 : (23 : Int32).toInt = 23 := by decide
  have e27 : (27 : Int32).toInt = 27 := by decide
  have e29 : (29 : Int32).toInt = 29 := by decide
  have e30 : (30 : Int32).toInt = 30 := by decide
  obtain ⟨b1, b2⟩ := KS_i (t := t) (n := n) T
  obtain ⟨G, hG⟩ : ∃ G : Ds → Prop, G = (fun d' => DR (VS t n) d' (c + if KS t n T = 29 then 1 else 0) (m + if KS t n T = 30 then 1 else 0) (ckN (KS t n) (VS t n) T c m ck)) := ⟨_, rfl⟩
  rw [← hG]
  obtain ⟨W, hW⟩ : ∃ W, lNt (KS t n) (VS t n) c ck T w = W := ⟨_, rfl⟩
  rw [hW]
  have bad : ∀ {dd : Ds} {u : Int32} {k : Int32}, ¬ k = 0 → tS (KS t n) c m T = (T, k) → CP d dd u (T, k) w → CQ d G dd u (tS (KS t n) c m T) W := by
    intro dd u k hk e r
    rw [e]
    exact ⟨r.1, r.2.1.tf, r.2.2.elim (fun z => absurd z.2.1 hk) (fun z => Or.inr z)⟩
  have j23 : ((KS t n T).toInt ≤ 20 ∨ 30 < (KS t n T).toInt) → pc (fX7_takeLine_J23 10000 g 2 d) (fun u d' => CQ d G d' u (tS (KS t n) c m T) W) := by
    intro q
    unfold fX7_takeLine_J23
    have : tS (KS t n) c m T = (T, 1) := by unfold tS; rw [if_pos q]
    exact pc_gd (fun _ => pc_cb (failC_e (w := w) (by decide) SF.rf hx) (fun u11 d9 r => pc_gd (fun _ => pc_some (bad (by decide) this r))))
  have j65 : ¬ ((KS t n T).toInt ≤ 20 ∨ 30 < (KS t n T).toInt) → (KS t n T = 29 ∧ c = 4 ∨ KS t n T = 30 ∧ m = 4) → pc (fX7_takeLine_J65 10000 g 2 d) (fun u d' => CQ d G d' u (tS (KS t n) c m T) W) := by
    intro q q2
    unfold fX7_takeLine_J65
    have : tS (KS t n) c m T = (T, 2) := by unfold tS; rw [if_neg q, if_pos q2]
    exact pc_gd (fun _ => pc_cb (failC_e (w := w) (by decide) SF.rf hx) (fun u11 d9 r => pc_gd (fun _ => pc_some (bad (by decide) this r))))
  have j71 : ¬ ((KS t n T).toInt ≤ 20 ∨ 30 < (KS t n T).toInt) → ¬ (KS t n T = 29 ∧ c = 4 ∨ KS t n T = 30 ∧ m = 4) → pc (fX7_takeLine_J71 10000 g 2 (WD (KS t n T)) d) (fun u d' => CQ d G d' u (tS (KS t n) c m T) W) := by
    intro q q2
    have eT : tS (KS t n) c m T = mS (KS t n) 4 (lS (KS t n) (KS t n T) (pS (T, 0))) := by
      unfold tS
      rw [if_neg q, if_neg q2]
    rw [eT, ← mS_k (K := KS t n)]
    unfold fX7_takeLine_J71
    refine pc_gd (fun _ => pc_seqQ (K := KS t n) (k := KS t n T) TF.rf (pc_r (takeToken_e hS hC SF.rf hx hw (hk_w rfl (by omega)))) (fun z => by rw [lS_n z, mS_n z]) (fun d23 m1 _ a b w23 _ => ?_))
    rw [m1]
    have C23 := hC.tf b.tf
    have D23 := hD.f b.drf
    have up : ∀ {dd : Ds} {u : Int32} {y : Nat × Int32} {w' : Int32 × Nat} {G' : Ds → Prop}, CQ d23 G' dd u y w' → CQ d G' dd u y w' := fun r => ⟨r.1, b.tf.tr r.2.1, r.2.2⟩
    have l170 : ∀ {dd : Ds} {u : Int32} {y : Nat × Int32}, CQ d G dd u y W → y = lS (KS t n) (KS t n T) (T + 1, 0) → pc (fX7_takeLine_J170 10000 g 2 u dd) (fun u d' => CQ d G d' u (mS (KS t n) 4 (lS (KS t n) (KS t n T) (T + 1, 0))) W) := by
      intro dd u y r e
      subst e
      subst hG
      exact line170 hS hC r
    have flag : ∀ {j : Nat}, (KS t n T).toInt < 23 → (j = 2 ∧ KS t n T = 21 ∨ j = 3 ∧ KS t n T = 22) → pc (ob (gR g 2 2) fun r60 => (gd (chk g r60 0) <| bd (sI d23 r60 j 1) fun d62 => (fX7_takeLine_J170 10000 g 2 1 d62))) (fun u d' => CQ d G d' u (mS (KS t n) 4 (lS (KS t n) (KS t n T) (T + 1, 0))) W) := by
      intro j h1 h2
      refine pc_ob (fun r e => ?_)
      have := gq hS (e := 9) (by decide +kernel) e
      subst this
      refine pc_gd (fun _ => pc_bd (fun d62 e62 => l170 (y := (T + 1, 0)) ?_ ?_))
      · have q62 := QF.rf.i e62 (by decide)
        have eW : W = w := by
          rw [← hW]
          exact if_pos h1
        rw [eW]
        refine ⟨a.q q62, b.tf.tr q62.2, Or.inl ⟨rfl, rfl, w23.q q62, ?_⟩⟩
        subst hG
        have n29 : ¬ KS t n T = 29 := fun z => by rw [z, e29] at h1; omega
        have n30 : ¬ KS t n T = 30 := fun z => by rw [z, e30] at h1; omega
        unfold ckN
        rw [if_neg n29, if_neg n30, if_neg n29, if_neg n30]
        rcases h2 with ⟨h2, h3⟩ | ⟨h2, h3⟩
        · rw [if_pos h3]
          exact D23.st hc (Or.inl ⟨rfl, h2⟩) e62
        · rw [if_neg (by rw [h3]; decide), if_neg (by rw [h3]; decide)]
          exact D23.f (DRF.rf.i e62 (by omega))
      · exact (if_pos h1).symm
    have sub : ∀ {X : Option (Int32 × Ds)} {y : Nat × Int32} {w' : Int32 × Nat} {c' m' : Nat} {ck' : Nat → Int32}, pc X (fun u d' => CQ d23 (fun d' => DR (VS t n) d' c' m' ck') d' u y w') → y = lS (KS t n) (KS t n T) (T + 1, 0) → w' = W → (fun d' => DR (VS t n) d' c' m' ck') = G → pc (cb X fun u d' => fX7_takeLine_J170 10000 g 2 u d') (fun u d' => CQ d G d' u (mS (KS t n) 4 (lS (KS t n) (KS t n T) (T + 1, 0))) W) := by
      intro X y w' c' m' ck' h e1 e2 e3
      subst e2
      rw [← e3] at l170 ⊢
      exact pc_cb h (fun u dd r => l170 (up r) e1)
    have nl : ∀ {k : Int32}, KS t n T = k → ¬ k.toInt < 23 → ¬ (KS t n T).toInt < 23 := fun e h => by rw [e]; exact h
    refine pc_gd (fun _ => pc_gd (fun _ => pc_if (fun z => flag (j := 2) (by rw [(wd_i (c := 21) (by decide) (by decide)).mp z]; decide) (Or.inl ⟨rfl, (wd_i (c := 21) (by decide) (by decide)).mp z⟩)) (fun z21 => pc_gd (fun _ => pc_if (fun z => flag (j := 3) (by rw [(wd_i (c := 22) (by decide) (by decide)).mp z]; decide) (Or.inr ⟨rfl, (wd_i (c := 22) (by decide) (by decide)).mp z⟩)) (fun z22 => pc_gd (fun _ => pc_if (fun z => ?_) (fun z28 => pc_gd (fun _ => pc_if (fun z => ?_) (fun z29 => pc_gd (fun _ => pc_if (fun z => ?_) (fun z30 => ?_)))))))))))
    · have k : KS t n T = 28 := (wd_i (by decide) (by decide)).mp z
      refine sub (takeKey_e hS C23 a w23 D23) ?_ ?_ ?_
      · unfold lS
        rw [if_neg (nl k (by decide)), if_pos (Or.inl k)]
      · rw [← hW]
        unfold lNt
        rw [if_neg (nl k (by decide)), if_pos k, k]
      · subst hG
        unfold ckN
        rw [k]
        rfl
    · have k : KS t n T = 29 := (wd_i (by decide) (by decide)).mp z
      have hc4 : c < 4 := by
        have : ¬ c = 4 := fun y => q2 (Or.inl ⟨k, y⟩)
        omega
      refine sub (takeChord_e hS hc4 C23 a w23 D23) ?_ ?_ ?_
      · unfold lS
        rw [if_neg (nl k (by decide)), if_pos (Or.inr k)]
      · rw [← hW]
        unfold lNt
        rw [if_neg (nl k (by decide)), if_neg (by rw [k]; decide), if_pos k]
      · subst hG
        unfold ckN
        rw [k]
        rfl
    · have k : KS t n T = 30 := (wd_i (by decide) (by decide)).mp z
      have hm4 : m < 4 := by
        have : ¬ m = 4 := fun y => q2 (Or.inr ⟨k, y⟩)
        omega
      refine sub (takeMacro_e hS hc hm4 C23 a w23 D23) ?_ ?_ ?_
      · unfold lS
        rw [if_neg (nl k (by decide)), k, if_neg (by decide), if_neg (by decide), if_pos rfl]
      · rw [← hW]
        unfold lNt
        rw [if_neg (nl k (by decide)), k, if_neg (by decide), if_neg (by decide), if_pos rfl]
      · subst hG
        unfold ckN
        rw [k]
        rfl
    · have n21 : ¬ KS t n T = 21 := fun z => z21 ((wd_i (by decide) (by decide)).mpr z)
      have n22 : ¬ KS t n T = 22 := fun z => z22 ((wd_i (by decide) (by decide)).mpr z)
      have n28 : ¬ KS t n T = 28 := fun z => z28 ((wd_i (by decide) (by decide)).mpr z)
      have n29 : ¬ KS t n T = 29 := fun z => z29 ((wd_i (by decide) (by decide)).mpr z)
      have n30 : ¬ KS t n T = 30 := fun z => z30 ((wd_i (by decide) (by decide)).mpr z)
      have ne : ∀ {k : Int32} {v : Int}, k.toInt = v → ¬ KS t n T = k → ¬ (KS t n T).toInt = v := fun e h z => h (Int32.toInt_inj.mp (z.trans e.symm))
      have i21 := ne (k := 21) (v := 21) (by decide) n21
      have i22 := ne (k := 22) (v := 22) (by decide) n22
      have i28 := ne (k := 28) (v := 28) (by decide) n28
      have i29 := ne (k := 29) (v := 29) (by decide) n29
      have i30 := ne (k := 30) (v := 30) (by decide) n30
      have n23 : ¬ (KS t n T).toInt < 23 := by omega
      refine sub (takeSetting_e hS hc (k := KS t n T) (by omega) (by omega) C23 a w23 D23) ?_ ?_ ?_
      · unfold lS
        simp only [if_neg n23, if_neg (show ¬ (KS t n T = 28 ∨ KS t n T = 29) from fun z => z.elim n28 n29), if_neg n30]
      · rw [← hW]
        unfold lNt
        rw [if_neg n23, if_neg n28, if_neg n29, if_neg n30]
      · subst hG
        unfold ckN
        rw [if_neg n29, if_neg n30, if_neg n29, if_neg n30, if_neg n21]
        rfl
  have j47 : ¬ ((KS t n T).toInt ≤ 20 ∨ 30 < (KS t n T).toInt) → ¬ (KS t n T = 29 ∧ c = 4) → pc (fX7_takeLine_J47 10000 g 2 (WD (KS t n T)) d) (fun u d' => CQ d G d' u (tS (KS t n) c m T) W) := by
    intro q q2
    unfold fX7_takeLine_J47
    refine pc_gd (fun _ => pc_gd (fun _ => pc_if (fun z => ?_) (fun z => ?_)))
    · have k : KS t n T = 30 := (wd_i (by decide) (by decide)).mp z
      refine pc_gd (fun _ => pc_ob (fun r e => ?_))
      have := gq hS (e := 9) (by decide +kernel) e
      subst this
      have h16 := hD.2.2.2.1
      refine pc_gd (fun _ => pc_if (fun y => j65 q (Or.inr ⟨k, by rw [y, e4] at h16; omega⟩)) (fun y => j71 q (fun x => x.elim q2 (fun x => y (Int32.toInt_inj.mp (by rw [h16, e4, x.2]; rfl))))))
    · exact j71 q (fun x => x.elim q2 (fun x => z ((wd_i (by decide) (by decide)).mpr x.1)))
  unfold fX7_takeLine
  refine pc_gd (fun _ => pc_ob (fun r e => ?_))
  have := gq hS (e := 3) (by decide +kernel) e
  subst this
  refine pc_gd (fun _ => pc_cb (wordAt_e hS hC hx.1 hx.2.2.1) (fun u d4 r => ?_))
  obtain ⟨e, hu⟩ := r
  subst e
  dsimp only at hu
  rw [hu]
  by_cases h20 : 20 ≤ (KS t n T).toInt
  · have eW := wd_some h20
    refine pc_if (fun q => absurd (eW.symm.trans q) (by simp)) (fun _ => ?_)
    refine pc_ob (fun r e => ?_)
    have er : r = 100000 + kk (KS t n T) := Option.some.inj (e.symm.trans eW)
    subst er
    rw [show 100000 + kk (KS t n T) - 100000 = kk (KS t n T) by omega]
    refine pc_gd (fun _ => pc_if (fun q => j23 ((wfv3 h20 b1).mp q)) (fun q => ?_))
    have nq : ¬ ((KS t n T).toInt ≤ 20 ∨ 30 < (KS t n T).toInt) := fun z => q ((wfv3 h20 b1).mpr z)
    refine pc_gd (fun _ => pc_gd (fun _ => pc_if (fun z => ?_) (fun z => j47 nq (fun x => z ((wd_i (by decide) (by decide)).mpr x.1)))))
    have k : KS t n T = 29 := (wd_i (by decide) (by decide)).mp z
    refine pc_ob (fun r e => ?_)
    have := gq hS (e := 9) (by decide +kernel) e
    subst this
    have h12 := hD.2.2.1
    refine pc_gd (fun _ => pc_if (fun y => j65 nq (Or.inl ⟨k, by rw [y, e4] at h12; omega⟩)) (fun y => j47 nq (fun x => y (Int32.toInt_inj.mp (by rw [h12, e4, x.2]; rfl)))))
  · rw [wd_none h20]
    exact pc_if (fun _ => j23 (Or.inl (by omega))) (fun q => absurd rfl q)
/-- the first line -/
theorem takeBoard_e {g : Gs} (hS : Shp g) {N : Nat} (hC : CT t n d) (hx : XC d (0, 0)) (hw : NT d w) (h12 : dI d 9 12 = 0) (h16 : dI d 9 16 = 0) (h2 : dI d 9 2 = ck 100) (h4 : dI d 9 4 = ck 101) : pc (fX7_takeBoard N g 2 d) (fun u d' => CQ d (fun d' => DR (VS t n) d' 0 0 ck) d' u (mS (KS t n) 4 (mS (KS t n) 2 (mS (KS t n) 2 (mS (KS t n) 20 (0, 0))))) (nNu (VS t n) 1 6 2 (nNu (VS t n) 1 4 1 w))) := by
  unfold fX7_takeBoard
  refine pc_gd (fun _ => pc_ob (fun r e => ?_))
  have := gq hS (e := 3) (by decide +kernel) e
  subst this
  refine pc_gd (fun _ => pc_cb (wordAt_e hS hC hx.1 hx.2.2.1) (fun u d4 r => ?_))
  obtain ⟨e, hu⟩ := r
  subst e
  dsimp only at hu
  rw [hu]
  refine pc_gd (fun _ => pc_gd (fun _ => pc_if (fun z => ?_) (fun z => ?_)))
  · have k : KS t n 0 = 20 := (wd_i (by decide) (by decide)).mp z
    unfold fX7_takeBoard_J40
    refine pc_seqQ (K := KS t n) (k := 20) TF.rf (pc_r (takeToken_e hS hC SF.rf hx hw (hk_w k (by decide)))) (fun q => by rw [mS_n q, mS_n q, mS_n q]) (fun d10 m1 _ a b w10 _ => ?_)
    rw [m1]
    refine pc_seqQ (K := KS t n) b.tf (takeNumber_e hS (hC.tf b.tf) SF.rf a w10) (fun q => by rw [mS_n q, mS_n q]) (fun d14 m1' _ a' b' w14 n14 => ?_)
    rw [m1']
    refine pc_ob (fun r e => ?_)
    have := gq hS (e := 9) (by decide +kernel) e
    subst this
    refine pc_gd (fun _ => pc_bd (fun d20 e20 => ?_))
    have q20 := QF.rf.i e20 (by decide)
    refine pc_seqQ (K := KS t n) ((b.tf.tr b'.tf).tr q20.2) (takeNumber_e hS (((hC.tf b.tf).tf b'.tf).tf q20.2) SF.rf (a'.q q20) (NT.q w14 q20)) (fun q => by rw [mS_n q]) (fun d21 m1'' _ a'' b'' w21 n21 => ?_)
    rw [m1'']
    refine pc_bd (fun d25 e25 => ?_)
    have q25 := QF.rf.i e25 (by decide)
    have tt := (((b.tf.tr b'.tf).tr q20.2).tr b''.tf).tr q25.2
    have f9 : ∀ j, ¬ j = 0 → ¬ j = 1 → dI d25 9 j = dI d4 9 j := fun j h0 h1 => by
      rw [rdq e25 (Or.inr h1), b''.1 9 j (by omega), rdq e20 (Or.inr h0), b'.1 9 j (by omega), b.1 9 j (by omega)]
    have D25 : DR (VS t n) d25 0 0 ck := by
      refine ⟨?_, ?_, ?_, ?_, fun j hj => absurd hj (Nat.not_lt_zero _), by rw [f9 2 (by decide) (by decide)]; exact h2, by rw [f9 4 (by decide) (by decide)]; exact h4, fun i hi => absurd hi (Nat.not_lt_zero _)⟩
      · rw [rdq e25 (Or.inr (by decide)), b''.1 9 0 (by omega), e20, sI_rd, if_pos ⟨rfl, rfl⟩]
        exact n14
      · rw [e25, sI_rd, if_pos ⟨rfl, rfl⟩]
        exact n21
      · rw [f9 12 (by decide) (by decide), h12]
        rfl
      · rw [f9 16 (by decide) (by decide), h16]
        rfl
    refine pc_cb (takeToken_e (d0 := d25) hS (hC.tf tt) SF.rf (a''.q q25) (NT.q w21 q25) hk_4) (fun u28 d26 r => pc_gd (fun _ => pc_some ?_))
    exact r.cq tt (fun sf => D25.f sf.drf)
  · have nk : ¬ KS t n 0 = 20 := fun y => z ((wd_i (by decide) (by decide)).mpr y)
    have e1 : mS (KS t n) 20 (0, 0) = (0, 1) := by
      unfold mS
      rw [if_pos rfl, if_neg nk]
    have e2 : mS (KS t n) 4 (mS (KS t n) 2 (mS (KS t n) 2 (mS (KS t n) 20 (0, 0)))) = (0, 1) := by
      rw [e1, mS_n (show ¬ (1 : Int32) = 0 by decide), mS_n (show ¬ (1 : Int32) = 0 by decide), mS_n (show ¬ (1 : Int32) = 0 by decide)]
    rw [e2]
    refine pc_cb (failC_e (w := w) (by decide) SF.rf hx) (fun u32 d30 r => pc_gd (fun _ => pc_some ?_))
    exact ⟨r.1, r.2.1.tf, r.2.2.elim (fun z => absurd z.2.1 (show ¬ (1 : Int32) = 0 by decide)) (fun z => Or.inr z)⟩
end LN
