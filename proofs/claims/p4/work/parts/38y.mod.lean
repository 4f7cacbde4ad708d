/-! a good line's tokens -/
section LIN
variable {K : Nat → Int32} {k : Int32} {y : Nat × Int32} {T : Nat}
theorem mS_0 (h : (mS K k y).2 = 0) : y.2 = 0 := by
  by_cases z : y.2 = 0
  · exact z
  · rw [mS_n z] at h
    exact h
theorem lmS_0 (h : (lmS K y).2 = 0) : y.2 = 0 := by
  by_cases z : y.2 = 0
  · exact z
  · rw [lmS_n z] at h
    exact h
theorem dS_0 (h : (dS K y).2 = 0) : y.2 = 0 := by
  by_cases z : y.2 = 0
  · exact z
  · rw [dS_n z] at h
    exact h
theorem iS_0 {m : Nat} (h : (iS K m y).2 = 0) : y.2 = 0 := by
  by_cases z : y.2 = 0
  · exact z
  · rw [iS_n z] at h
    exact h
theorem pS_ok (h : (pS (T, 0)).2 = 0) : pS (T, 0) = (T + 1, 0) := by
  unfold pS at h ⊢
  rw [if_pos rfl] at h ⊢
  by_cases z : T = 400
  · rw [if_pos z] at h
    exact absurd h (show ¬ (2 : Int32) = 0 by decide)
  · rw [if_neg z]
theorem lmS_ok (h : (lmS K (T, 0)).2 = 0) : lmS K (T, 0) = (T + 1, 0) ∧ (K T = 33 ∨ K T = 32) := by
  unfold lmS at h ⊢
  rw [if_pos rfl] at h ⊢
  by_cases z : K T = 33 ∨ K T = 32
  · rw [if_pos z] at h ⊢
    exact ⟨pS_ok h, z⟩
  · rw [if_neg z] at h
    exact absurd h (show ¬ (1 : Int32) = 0 by decide)
/-- a deed from here to there -/
def dOK (K : Nat → Int32) (D E : Nat) : Prop := 31 ≤ (K D).toInt ∧ (K D).toInt ≤ 39 ∧ D < E ∧ (∀ j, D < j → j < E → K j = 2 ∨ K j = 33 ∨ K j = 32) ∧ (¬ (K D = 35 ∨ K D = 36) → D + 2 ≤ E) ∧ (K D = 37 → E = D + 4 ∧ (K (D + 2) = 33 ∨ K (D + 2) = 32)) ∧ (K D = 38 → E = D + 3)
theorem dS_ok {D E : Nat} (h : dS K (D, 0) = (E, 0)) : dOK K D E := by
  have h2 : (dS K (D, 0)).2 = 0 := by rw [h]
  unfold dS at h h2
  rw [if_pos rfl] at h h2
  by_cases q : (K D).toInt < 31 ∨ 39 < (K D).toInt
  · rw [if_pos q] at h2
    exact absurd h2 (show ¬ (1 : Int32) = 0 by decide)
  · rw [if_neg q] at h h2
    have b1 : 31 ≤ (K D).toInt := by omega
    have b2 : (K D).toInt ≤ 39 := by omega
    dsimp only at h h2
    by_cases q1 : K D = 35 ∨ K D = 36
    · rw [if_pos q1] at h h2
      rw [pS_ok h2] at h
      have e : D + 1 = E := congrArg Prod.fst h
      refine ⟨b1, b2, by omega, fun j j1 j2 => by omega, fun z => absurd q1 z, fun z => ?_, fun z => ?_⟩
      · rw [z] at q1
        exact absurd q1 (by decide)
      · rw [z] at q1
        exact absurd q1 (by decide)
    · rw [if_neg q1] at h h2
      by_cases q2 : K D = 37
      · rw [if_pos q2] at h h2
        have g3 := mS_0 h2
        have g2 := lmS_0 g3
        have g1 := mS_0 g2
        rw [pS_ok g1] at h h2 g2 g3
        obtain ⟨m1, m2, _⟩ := mS_ok g2
        rw [m1] at h h2 g3
        obtain ⟨l1, l2⟩ := lmS_ok g3
        rw [l1] at h h2
        obtain ⟨n1, n2, _⟩ := mS_ok h2
        rw [n1] at h
        have e : D + 1 + 1 + 1 + 1 = E := congrArg Prod.fst h
        refine ⟨b1, b2, by omega, fun j j1 j2 => ?_, fun _ => by omega, fun _ => ⟨by omega, l2⟩, fun z => ?_⟩
        · rcases (show j = D + 1 ∨ j = D + 1 + 1 ∨ j = D + 1 + 1 + 1 by omega) with z | z | z <;> subst z
          · exact Or.inl m2
          · exact Or.inr l2
          · exact Or.inl n2
        · rw [z] at q2
          exact absurd q2 (by decide)
      · rw [if_neg q2] at h h2
        by_cases q3 : K D = 38
        · rw [if_pos q3] at h h2
          have g2 := mS_0 h2
          have g1 := mS_0 g2
          rw [pS_ok g1] at h h2 g2
          obtain ⟨m1, m2, _⟩ := mS_ok g2
          rw [m1] at h h2
          obtain ⟨n1, n2, _⟩ := mS_ok h2
          rw [n1] at h
          have e : D + 1 + 1 + 1 = E := congrArg Prod.fst h
          refine ⟨b1, b2, by omega, fun j j1 j2 => ?_, fun _ => by omega, fun z => absurd z q2, fun z => by omega⟩
          rcases (show j = D + 1 ∨ j = D + 1 + 1 by omega) with z | z <;> subst z
          · exact Or.inl m2
          · exact Or.inl n2
        · rw [if_neg q3] at h h2
          have g1 := mS_0 h2
          rw [pS_ok g1] at h h2
          obtain ⟨n1, n2, _⟩ := mS_ok h2
          rw [n1] at h
          have e : D + 1 + 1 = E := congrArg Prod.fst h
          refine ⟨b1, b2, by omega, fun j j1 j2 => ?_, fun _ => by omega, fun z => absurd z q2, fun z => absurd z q3⟩
          rw [show j = D + 1 by omega]
          exact Or.inl n2
theorem iS_ok : ∀ m {D E : Nat}, iS K m (D, 0) = (E, 0) → D ≤ E ∧ E ≤ D + m ∧ (∀ j, D ≤ j → j < E → K j = 2) ∧ ¬ K E = 2 := by
  intro m
  induction m with
  | zero =>
    intro D E h
    unfold iS at h
    by_cases q : K D = 2
    · rw [if_pos ⟨rfl, q⟩] at h
      exact absurd (congrArg Prod.snd h) (show ¬ (2 : Int32) = 0 by decide)
    · rw [if_neg (fun z => q z.2)] at h
      have e : D = E := congrArg Prod.fst h
      subst e
      exact ⟨Nat.le_refl _, Nat.le_refl _, fun j j1 j2 => by omega, q⟩
  | succ m ih =>
    intro D E h
    unfold iS at h
    by_cases q : K D = 2
    · rw [if_pos ⟨rfl, q⟩] at h
      have g : (pS (D, 0)).2 = 0 := iS_0 (K := K) (m := m) (by rw [h])
      rw [pS_ok g] at h
      obtain ⟨i1, i2, i3, i4⟩ := ih h
      refine ⟨by omega, by omega, fun j j1 j2 => ?_, i4⟩
      by_cases z : j = D
      · rw [z]
        exact q
      · exact i3 j (by omega) j2
    · rw [if_neg (fun z => q z.2)] at h
      have e : D = E := congrArg Prod.fst h
      subst e
      exact ⟨Nat.le_refl _, by omega, fun j j1 j2 => by omega, q⟩
/-- a line from here to its sign -/
def lOK (K : Nat → Int32) (T E : Nat) : Prop := T < E ∧ K E = 4 ∧ 21 ≤ (K T).toInt ∧ (K T).toInt ≤ 30 ∧ (∀ j, T ≤ j → j < E → ¬ K j = 4 ∧ ¬ K j = 0) ∧ (23 ≤ (K T).toInt → T + 2 ≤ E) ∧ (K T = 27 → T + 3 ≤ E) ∧ (K T = 28 ∨ K T = 29 → dOK K (T + 3) E) ∧ (K T = 30 → T + 2 ≤ E ∧ E ≤ T + 9 ∧ ∀ j, T + 1 ≤ j → j < E → K j = 2)
theorem tS_ok {a b T' : Nat} (h : tS K a b T = (T', 0)) : ∃ E, T' = E + 1 ∧ lOK K T E := by
  have e4 : (4 : Int32).toInt = 4 := by decide
  have e0 : (0 : Int32).toInt = 0 := by decide
  have e27 : (27 : Int32).toInt = 27 := by decide
  have e28 : (28 : Int32).toInt = 28 := by decide
  have e29 : (29 : Int32).toInt = 29 := by decide
  have e30 : (30 : Int32).toInt = 30 := by decide
  have h2 : (tS K a b T).2 = 0 := by rw [h]
  obtain ⟨_, g2, _, _, g5⟩ := tS_gt h2
  rw [g5] at h h2
  have g6 := mS_0 h2
  obtain ⟨E, hE⟩ : ∃ E, lS K (K T) (T + 1, 0) = (E, 0) := ⟨_, Prod.ext rfl g6⟩
  rw [hE] at h h2
  obtain ⟨m1, m2, _⟩ := mS_ok h2
  rw [m1] at h
  refine ⟨E, (congrArg Prod.fst h).symm, ?_⟩
  have k1 : 21 ≤ (K T).toInt := by omega
  have k2 : (K T).toInt ≤ 30 := by omega
  have kT : ¬ K T = 4 ∧ ¬ K T = 0 := ⟨fun z => by rw [z, e4] at k1; omega, fun z => by rw [z, e0] at k1; omega⟩
  have two : ∀ {x : Int32}, x = 2 → ¬ x = 4 ∧ ¬ x = 0 := fun {x} z => by rw [z]; decide
  unfold lS at hE
  by_cases q1 : (K T).toInt < 23
  · rw [if_pos q1] at hE
    have e : T + 1 = E := congrArg Prod.fst hE
    have ne : ∀ {k : Int32}, 23 ≤ k.toInt → ¬ K T = k := fun hk z => by rw [z] at q1; omega
    exact ⟨by omega, m2, k1, k2, fun j j1 j2 => by rw [show j = T by omega]; exact kT, fun z => by omega, fun z => absurd z (ne (by decide)), fun z => z.elim (fun z => absurd z (ne (by decide))) (fun z => absurd z (ne (by decide))), fun z => absurd z (ne (by decide))⟩
  · rw [if_neg q1] at hE
    by_cases q2 : K T = 28 ∨ K T = 29
    · rw [if_pos q2] at hE
      have s3 := dS_0 (K := K) (by rw [hE])
      have s2 := mS_0 s3
      obtain ⟨a1, a2, _⟩ := mS_ok s2
      rw [a1] at hE s3
      obtain ⟨b1, b2, _⟩ := mS_ok s3
      rw [b1] at hE
      have hd := dS_ok hE
      have hd3 := hd.2.2.1
      refine ⟨by omega, m2, k1, k2, fun j j1 j2 => ?_, fun _ => by omega, fun _ => by omega, fun _ => hd, fun z => ?_⟩
      · by_cases z0 : j = T
        · rw [z0]
          exact kT
        · by_cases z1 : j = T + 1
          · rw [z1]
            exact two a2
          · by_cases z2 : j = T + 1 + 1
            · rw [z2]
              exact two b2
            · by_cases z3 : j = T + 3
              · rw [z3]
                have := hd.1
                exact ⟨fun z => by rw [z, e4] at this; omega, fun z => by rw [z, e0] at this; omega⟩
              · rcases hd.2.2.2.1 j (by omega) j2 with z | z | z
                · exact two z
                · rw [z]
                  decide
                · rw [z]
                  decide
      · rw [z] at q2
        exact absurd q2 (by decide)
    · rw [if_neg q2] at hE
      by_cases q3 : K T = 27
      · rw [if_pos q3] at hE
        have s3 : (mS K 2 (mS K 2 (T + 1, 0))).2 = 0 := by rw [hE]
        have s2 := mS_0 s3
        obtain ⟨a1, a2, _⟩ := mS_ok s2
        rw [a1] at hE s3
        obtain ⟨b1, b2, _⟩ := mS_ok s3
        rw [b1] at hE
        have e : T + 1 + 1 + 1 = E := congrArg Prod.fst hE
        refine ⟨by omega, m2, k1, k2, fun j j1 j2 => ?_, fun _ => by omega, fun _ => by omega, fun z => absurd z q2, fun z => ?_⟩
        · rcases (show j = T ∨ j = T + 1 ∨ j = T + 1 + 1 by omega) with z | z | z <;> rw [z]
          · exact kT
          · exact two a2
          · exact two b2
        · rw [z] at q3
          exact absurd q3 (by decide)
      · rw [if_neg q3] at hE
        by_cases q4 : K T = 30
        · rw [if_pos q4] at hE
          have s2 := iS_0 (K := K) (m := 7) (by rw [hE])
          obtain ⟨a1, a2, _⟩ := mS_ok s2
          rw [a1] at hE
          obtain ⟨i1, i2, i3, i4⟩ := iS_ok 7 hE
          refine ⟨by omega, m2, k1, k2, fun j j1 j2 => ?_, fun _ => by omega, fun z => absurd z q3, fun z => absurd z q2, fun _ => ⟨by omega, by omega, fun j j1 j2 => ?_⟩⟩
          · by_cases z0 : j = T
            · rw [z0]
              exact kT
            · by_cases z1 : j = T + 1
              · rw [z1]
                exact two a2
              · exact two (i3 j (by omega) j2)
          · by_cases z1 : j = T + 1
            · rw [z1]
              exact a2
            · exact i3 j (by omega) j2
        · rw [if_neg q4] at hE
          have s2 : (mS K 2 (T + 1, 0)).2 = 0 := by rw [hE]
          obtain ⟨a1, a2, _⟩ := mS_ok s2
          rw [a1] at hE
          have e : T + 1 + 1 = E := congrArg Prod.fst hE
          refine ⟨by omega, m2, k1, k2, fun j j1 j2 => ?_, fun _ => by omega, fun z => absurd z q3, fun z => absurd z q2, fun z => absurd z q4⟩
          rcases (show j = T ∨ j = T + 1 by omega) with z | z <;> rw [z]
          · exact kT
          · exact two a2
end LIN
/-! what the model notes -/
theorem ps_mo {t : Nat → Int32} {n s : Nat} (h : ∀ j, j < s → ps t n j < n) {i j : Nat} (hi : i < j) (hj : j ≤ s) : ps t n i < ps t n j := by
  obtain ⟨m, hm⟩ : ∃ m, j = i + 1 + m := ⟨j - (i + 1), by omega⟩
  subst hm
  induction m with
  | zero => exact ps_lt (h i (by omega))
  | succ m ih =>
    have a := ih (by omega) (by omega)
    have b := ps_lt (h (i + 1 + m) (by omega))
    rw [show i + 1 + (m + 1) = i + 1 + m + 1 by omega]
    omega
/-- the model's tokens, the last of them the end -/
def MTk (t : Nat → Int32) (n s : Nat) (d : Ds) : Prop := s ≤ 400 ∧ (∀ j, j < s → ps t n j < n) ∧ (dI d 328 10).toInt = (s : Int) + 1 ∧ ∀ j, j ≤ s → dI d 331 j = KS t n j ∧ (dI d 332 j).toInt = ((ps t n j : Nat) : Int) ∧ dI d 333 j = VS t n j
def NM (t : Nat → Int32) (n : Nat) (d : Ds) (w : Int32 × Nat) : Prop := dI d 328 12 = 0 ∧ dI d 328 14 = w.1 ∧ (¬ w.1 = 0 → (dI d 328 15).toInt = ((ps t n w.2 : Nat) : Int))
def WF (d d' : Ds) : Prop := ∀ r j, ¬ (r = 328 ∧ (j = 14 ∨ j = 15)) → ¬ r = 339 → dI d' r j = dI d r j
theorem WF.rf {d : Ds} : WF d d := fun _ _ _ _ => rfl
theorem WF.tr {d dd d' : Ds} (h : WF d dd) (h2 : WF dd d') : WF d d' := fun r j q q2 => (h2 r j q q2).trans (h r j q q2)
theorem WF.i {d df de : Ds} {r j : Nat} {v : Int32} (h : WF d df) (e : de = sI df r j v) (hr : r = 328 ∧ (j = 14 ∨ j = 15) ∨ r = 339) : WF d de := by
  subst e
  intro r' j' q q2
  rw [sI_rd, if_neg (fun z => hr.elim (fun y => q (by rw [z.1, z.2]; exact y)) (fun y => q2 (by rw [z.1]; exact y)))]
  exact h r' j' q q2
/-- behind all that is noted -/
def LB (w : Int32 × Nat) (T : Nat) (c : Int32) : Prop := w.1 = 0 ∨ w.2 < T ∨ w.2 = T ∧ w.1.toInt ≤ c.toInt
theorem LB.up {w : Int32 × Nat} {T T' : Nat} {c c' : Int32} (h : LB w T c) (hT : T < T') : LB w T' c' := by
  rcases h with h | h | h
  · exact Or.inl h
  · exact Or.inr (Or.inl (by omega))
  · exact Or.inr (Or.inl (by omega))
theorem LB.nt {w : Int32 × Nat} {T T' : Nat} {c c' : Int32} (h : LB w T c) (hT : T < T') : LB (nT c T w) T' c' := by
  unfold nT
  split
  · exact Or.inr (Or.inl hT)
  · exact h.up hT
theorem LB.nn {V : Nat → Int32} {lo hi : Int32} {w : Int32 × Nat} {T T' : Nat} {c' : Int32} (h : LB w T 5) (hT : T < T') : LB (nNu V lo hi T w) T' c' := by
  unfold nNu
  split
  · exact h.nt hT
  · exact h.up hT
section NOTE
variable {t : Nat → Int32} {n s : Nat} {d : Ds} {w : Int32 × Nat} {T : Nat}
theorem MTk.wf {d' : Ds} (h : MTk t n s d) (f : WF d d') : MTk t n s d' := ⟨h.1, h.2.1, by rw [f 328 10 (by decide) (by decide)]; exact h.2.2.1, fun j hj => by
  rw [f 331 j (by omega) (by decide), f 332 j (by omega) (by decide), f 333 j (by omega) (by decide)]
  exact h.2.2.2 j hj⟩
theorem wrong_x {g : Gs} (hS : Shp g) {N : Nat} {c x : Int32} (hM : MTk t n s d) (hN : NM t n d w) (hx : x.toInt = (T : Int)) (hT : T ≤ s) (hL : LB w T c) : pc (fX12_wrong N g 328 c x d) (fun _ d' => NM t n d' (nT c T w) ∧ WF d d') := by
  have e0 : (0 : Int32).toInt = 0 := by decide
  obtain ⟨n12, n14, n15⟩ := hN
  unfold fX12_wrong
  refine pc_gd (fun _ => pc_ob (fun r e => ?_))
  have := gq hS (e := 332) (by decide +kernel) e
  subst this
  refine pc_gd (fun _ => pc_gd (fun _ => pc_bd (fun u5 e5 => ?_)))
  have hu : u5.toInt = ((ps t n T : Nat) : Int) := by
    rw [e5, tn hx]
    exact (hM.2.2.2 T hT).2.1
  have keep : ¬ w.1 = 0 → pc (fX12_wrong_J45 N g 328 c x d) (fun _ d' => NM t n d' (nT c T w) ∧ WF d d') := by
    intro z
    unfold fX12_wrong_J45 nT
    rw [if_neg z]
    exact pc_some ⟨⟨n12, n14, n15⟩, WF.rf⟩
  refine pc_if (fun q => ?_) (fun _ => pc_if (fun q => ?_) (fun q => ?_))
  · have := Int32.lt_iff_toInt_lt.mp q
    rw [n12] at this
    omega
  · unfold fX12_wrong_J46 nT
    rw [if_pos (n14.symm.trans q)]
    refine pc_gd (fun _ => pc_bd (fun d9 e9 => pc_bd (fun d10 e10 => pc_some ⟨⟨?_, ?_, fun _ => ?_⟩, (WF.rf.i e9 (Or.inl ⟨rfl, by omega⟩)).i e10 (Or.inl ⟨rfl, by omega⟩)⟩)))
    · rw [rdq e10 (Or.inr (by decide)), rdq e9 (Or.inr (by decide))]
      exact n12
    · rw [rdq e10 (Or.inr (by decide)), e9, sI_rd, if_pos ⟨rfl, rfl⟩]
    · rw [e10, sI_rd, if_pos ⟨rfl, rfl⟩]
      exact hu
  · have nz : ¬ w.1 = 0 := fun z => q (n14.trans z)
    have h15 := n15 nz
    refine pc_if (fun _ => keep nz) (fun q2 => ?_)
    have q22 := Int32.le_iff_toInt_le.mp (nlt q2)
    rcases hL with z | z | ⟨z, z2⟩
    · exact absurd z nz
    · have := ps_mo hM.2.1 z hT
      omega
    · refine pc_if (fun _ => pc_if (fun q4 => ?_) (fun _ => keep nz)) (fun q3 => ?_)
      · have := Int32.lt_iff_toInt_lt.mp q4
        rw [n14] at this
        omega
      · exact absurd (Int32.toInt_inj.mp (by rw [hu, h15, z])) q3
theorem in_x {N : Nat} {g : Gs} {x lo hi : Int32} : pc (fX12_in N g x lo hi d) (fun u d' => d' = d ∧ (u = 0 ∧ (x.toInt < lo.toInt ∨ hi.toInt < x.toInt) ∨ u = 1 ∧ ¬ (x.toInt < lo.toInt ∨ hi.toInt < x.toInt))) := by
  unfold fX12_in fX12_in_J14 fX12_in_J15
  refine pc_if (fun c => pc_gd (fun _ => pc_some ⟨rfl, Or.inl ⟨rfl, Or.inl (Int32.lt_iff_toInt_lt.mp c)⟩⟩)) (fun c1 => pc_if (fun c => pc_gd (fun _ => pc_some ⟨rfl, Or.inl ⟨rfl, Or.inr (Int32.lt_iff_toInt_lt.mp c)⟩⟩)) (fun c2 => pc_gd (fun _ => pc_some ⟨rfl, Or.inr ⟨rfl, ?_⟩⟩)))
  have h1 := Int32.le_iff_toInt_le.mp (nlt c1)
  have h2 := Int32.le_iff_toInt_le.mp (nlt c2)
  omega
theorem within_x {g : Gs} (hS : Shp g) {N : Nat} {x lo hi : Int32} (hM : MTk t n s d) (hN : NM t n d w) (hx : x.toInt = (T : Int)) (hT : T ≤ s) (hL : LB w T 5) : pc (fX12_within N g 328 x lo hi d) (fun u d' => u = VS t n T ∧ NM t n d' (nNu (VS t n) lo hi T w) ∧ WF d d') := by
  have hV : dI d 333 x.toNatClampNeg = VS t n T := by
    rw [tn hx]
    exact (hM.2.2.2 T hT).2.2
  have j20 : ∀ {dd : Ds} {w' : Int32 × Nat}, WF d dd → NM t n dd w' → pc (fX12_within_J20 N g 328 x lo hi dd) (fun u d' => u = VS t n T ∧ NM t n d' w' ∧ WF d d') := by
    intro dd w' f h
    unfold fX12_within_J20
    refine pc_gd (fun _ => pc_ob (fun r e => ?_))
    have := gq hS (e := 333) (by decide +kernel) e
    subst this
    refine pc_gd (fun _ => pc_gd (fun _ => pc_some ⟨?_, h, f⟩))
    rw [f 333 _ (by omega) (by decide)]
    exact hV
  unfold fX12_within
  refine pc_gd (fun _ => pc_ob (fun r e => ?_))
  have := gq hS (e := 333) (by decide +kernel) e
  subst this
  refine pc_gd (fun _ => pc_gd (fun _ => ?_))
  rw [hV]
  refine pc_cb in_x (fun u7 d5 r => ?_)
  obtain ⟨e, hu⟩ := r
  subst e
  unfold nNu
  rcases hu with ⟨hu, h⟩ | ⟨hu, h⟩ <;> rw [hu]
  · refine pc_if (fun _ => pc_cv (wrong_x hS hM hN hx hT hL) (fun d13 r => ?_)) (fun z => absurd rfl z)
    rw [if_pos h]
    exact j20 r.2 r.1
  · refine pc_if (fun z => absurd z (by decide)) (fun _ => ?_)
    rw [if_neg h]
    exact j20 WF.rf hN
end NOTE
def SB (w : Int32 × Nat) (T : Nat) : Prop := w.1 = 0 ∨ w.2 < T
theorem SB.lb {w : Int32 × Nat} {T : Nat} {c : Int32} (h : SB w T) : LB w T c := h.elim Or.inl (fun z => Or.inr (Or.inl z))
theorem SB.up {w : Int32 × Nat} {T T' : Nat} (h : SB w T) (hT : T ≤ T') : SB w T' := h.elim Or.inl (fun z => Or.inr (by omega))
theorem LB.sb {w : Int32 × Nat} {T T' : Nat} {c : Int32} (h : LB w T c) (hT : T < T') : SB w T' := by
  rcases h with h | h | h
  · exact Or.inl h
  · exact Or.inr (by omega)
  · exact Or.inr (by omega)
theorem LB.nts {w : Int32 × Nat} {T T' : Nat} {c : Int32} (h : LB w T c) (hT : T < T') : SB (nT c T w) T' := by
  unfold nT
  split
  · exact Or.inr hT
  · exact h.sb hT
theorem LB.nns {V : Nat → Int32} {lo hi : Int32} {w : Int32 × Nat} {T T' : Nat} (h : LB w T 5) (hT : T < T') : SB (nNu V lo hi T w) T' := by
  unfold nNu
  split
  · exact h.nts hT
  · exact h.sb hT
theorem nW_e {V : Nat → Int32} {k lo hi : Int32} {T : Nat} {w : Int32 × Nat} (h : wfv 0 (kk k) = lo) (h2 : wfv 1 (kk k) = hi) : nW V k T w = nNu V lo hi T w := by
  unfold nW
  rw [h, h2]
theorem nNu_n {V : Nat → Int32} {lo hi : Int32} {T : Nat} {w : Int32 × Nat} (h : ¬ w.1 = 0) : nNu V lo hi T w = w := by
  unfold nNu nT
  rw [if_neg h]
  simp only [ite_self]
section DEEDX
variable {t : Nat → Int32} {n s : Nat} {d : Ds} {w : Int32 × Nat} {T D E : Nat}
theorem NM.i {df de : Ds} {r j : Nat} {v : Int32} (h : NM t n df w) (e : de = sI df r j v) (hr : ¬ (r = 328 ∧ (j = 12 ∨ j = 14 ∨ j = 15))) : NM t n de w := by
  have f : ∀ i, i = 12 ∨ i = 14 ∨ i = 15 → dI de 328 i = dI df 328 i := fun i hi => by
    rw [e, sI_rd, if_neg (fun z => hr ⟨z.1.symm, by omega⟩)]
  exact ⟨by rw [f 12 (by omega)]; exact h.1, by rw [f 14 (by omega)]; exact h.2.1, fun z => by rw [f 15 (by omega)]; exact h.2.2 z⟩
theorem keyTold_x {g : Gs} (hS : Shp g) {N : Nat} {x : Int32} (hM : MTk t n s d) (hN : NM t n d w) (hx : x.toInt = (T : Int)) (hT : T ≤ s) (hL : LB w T 5) (h22 : dI d 328 22 = 0 → ¬ w.1 = 0) (hD : w.1 = 0 → dI d 337 0 = VS t n 1 ∧ dI d 337 1 = VS t n 2) : pc (fX12_keyTold N g 328 x d) (fun u d' => (u = VS t n T ∨ ¬ w.1 = 0) ∧ NM t n d' (nNu (VS t n) 0 (kyN (VS t n)) T w) ∧ WF d d') := by
  unfold fX12_keyTold fX12_keyTold_J32
  refine pc_gd (fun _ => pc_if (fun q => ?_) (fun q => pc_ob (fun r e => ?_)))
  · rw [nNu_n (h22 q)]
    exact pc_some ⟨Or.inr (h22 q), hN, WF.rf⟩
  · have := gq hS (e := 337) (by decide +kernel) e
    subst this
    refine pc_gd (fun _ => pc_gd (fun _ => pc_gd (fun _ => pc_cb (within_x hS hM hN hx hT hL) (fun u9 d7 r => pc_some ⟨Or.inl r.1, ?_, r.2.2⟩))))
    by_cases z : w.1 = 0
    · obtain ⟨a, b⟩ := hD z
      have h2 := r.2.1
      rw [show (0 : Int32).toNatClampNeg = 0 by decide, show (1 : Int32).toNatClampNeg = 1 by decide, a, b] at h2
      exact h2
    · have h2 := r.2.1
      rw [nNu_n z] at h2 ⊢
      exact h2
theorem meansDeed_x {g : Gs} (hS : Shp g) {N : Nat} {x : Int32} (hM : MTk t n s d) (hN : NM t n d w) (hx : x.toInt = (D : Int)) (hd : dOK (KS t n) D E) (hE : E ≤ s) (hL : SB w (D + 1)) : pc (fX12_meansDeed N g 328 x d) (fun _ d' => NM t n d' (dNt (KS t n) (VS t n) D w) ∧ SB (dNt (KS t n) (VS t n) D w) E ∧ WF d d') := by
  have e1 : (1 : Int32).toInt = 1 := by decide
  have e2 : (2 : Int32).toInt = 2 := by decide
  have e3 : (3 : Int32).toInt = 3 := by decide
  obtain ⟨k1, k2, k3, k4, k5, k6, k7⟩ := hd
  have hs := hM.1
  have x1 : (x + 1).toInt = ((D + 1 : Nat) : Int) := by rw [z_add hx e1 (by omega) (by omega)]; omega
  have x2 : (x + 2).toInt = ((D + 2 : Nat) : Int) := by rw [z_add hx e2 (by omega) (by omega)]; omega
  have x3 : (x + 3).toInt = ((D + 3 : Nat) : Int) := by rw [z_add hx e3 (by omega) (by omega)]; omega
  unfold fX12_meansDeed
  refine pc_gd (fun _ => pc_ob (fun r e => ?_))
  have := gq hS (e := 339) (by decide +kernel) e
  subst this
  refine pc_gd (fun _ => pc_gd (fun _ => pc_bd (fun d5 e5 => pc_gd (fun _ => pc_bd (fun d7 e7 => pc_ob (fun r e => ?_))))))
  have := gq hS (e := 331) (by decide +kernel) e
  subst this
  have f7 : WF d d7 := (WF.rf.i e5 (Or.inr rfl)).i e7 (Or.inr rfl)
  have N7 : NM t n d7 w := (hN.i e5 (by omega)).i e7 (by omega)
  have K7 : dI d7 331 x.toNatClampNeg = KS t n D := by
    rw [tn hx, f7 331 D (by omega) (by decide)]
    exact (hM.2.2.2 D (by omega)).1
  rw [K7]
  -- one number
  have one : ∀ {lo hi : Int32} {j : Nat} {v : Int32}, (D + 2 ≤ E) → pc (bd (sI d7 339 j v) fun d20 => (cb (fX12_within N g 328 (x + 1) lo hi d20) fun u23 d21 => (bd (sI d21 339 (1 : Int32).toNatClampNeg u23) fun d24 => (fX12_meansDeed_J347 N g 328 x d24)))) (fun _ d' => NM t n d' (nNu (VS t n) lo hi (D + 1) w) ∧ SB (nNu (VS t n) lo hi (D + 1) w) E ∧ WF d d') := by
    intro lo hi j v hE2
    refine pc_bd (fun d20 e20 => ?_)
    have f20 := f7.i e20 (Or.inr rfl)
    refine pc_cb (within_x hS (hM.wf f20) (N7.i e20 (by omega)) x1 (by omega) hL.lb) (fun u23 d21 r => pc_bd (fun d24 e24 => ?_))
    unfold fX12_meansDeed_J347
    exact pc_some ⟨r.2.1.i e24 (by omega), hL.lb.nns (by omega), (f20.tr r.2.2).i e24 (Or.inr rfl)⟩
  have none0 : ∀ {j : Nat} {v : Int32}, (KS t n D = 35 ∨ KS t n D = 36) → pc (bd (sI d7 339 j v) fun d52 => (fX12_meansDeed_J347 N g 328 x d52)) (fun _ d' => NM t n d' (dNt (KS t n) (VS t n) D w) ∧ SB (dNt (KS t n) (VS t n) D w) E ∧ WF d d') := by
    intro j v q
    unfold fX12_meansDeed_J347 dNt
    rw [if_pos q]
    exact pc_bd (fun d52 e52 => pc_some ⟨N7.i e52 (by omega), hL.up (by omega), f7.i e52 (Or.inr rfl)⟩)
  have sng : ∀ {k lo hi : Int32}, KS t n D = k → ¬ (k = 35 ∨ k = 36) → ¬ k = 37 → ¬ k = 38 → wfv 0 (kk k) = lo → wfv 1 (kk k) = hi → dNt (KS t n) (VS t n) D w = nNu (VS t n) lo hi (D + 1) w := by
    intro k lo hi e a b c h1 h2
    unfold dNt
    rw [e, if_neg a, if_neg b, if_neg c]
    exact nW_e h1 h2
  refine pc_gd (fun _ => pc_gd (fun _ => pc_if (fun q => ?_) (fun q0 => pc_if (fun q => ?_) (fun q1 => pc_if (fun q => ?_) (fun q2 => pc_if (fun q => ?_) (fun q3 => pc_if (fun q => ?_) (fun q4 => pc_if (fun q => ?_) (fun q5 => pc_if (fun q => ?_) (fun q6 => pc_if (fun q => ?_) (fun q7 => pc_if (fun q => ?_) (fun q8 => ?_)))))))))))
  · have k : KS t n D = 39 := Int32.toInt_inj.mp (by rw [show (39 : Int32).toInt = 39 by decide]; omega)
    rw [sng k (by decide) (by decide) (by decide) (show wfv 0 (kk 39) = 0 by decide +kernel) (show wfv 1 (kk 39) = 3 by decide +kernel)]
    exact pc_gd (fun _ => one (k5 (by rw [k]; decide)))
  · rw [sng q (by decide) (by decide) (by decide) (show wfv 0 (kk 31) = 1 by decide +kernel) (show wfv 1 (kk 31) = 200 by decide +kernel)]
    exact pc_gd (fun _ => one (k5 (by rw [q]; decide)))
  · rw [sng q (by decide) (by decide) (by decide) (show wfv 0 (kk 32) = 0 by decide +kernel) (show wfv 1 (kk 32) = 7 by decide +kernel)]
    exact pc_gd (fun _ => one (k5 (by rw [q]; decide)))
  · rw [sng q (by decide) (by decide) (by decide) (show wfv 0 (kk 33) = 1 by decide +kernel) (show wfv 1 (kk 33) = 3 by decide +kernel)]
    exact pc_gd (fun _ => one (k5 (by rw [q]; decide)))
  · rw [sng q (by decide) (by decide) (by decide) (show wfv 0 (kk 34) = 1 by decide +kernel) (show wfv 1 (kk 34) = 3 by decide +kernel)]
    refine pc_gd (fun _ => pc_bd (fun d41 e41 => ?_))
    have f41 := f7.i e41 (Or.inr rfl)
    unfold fX12_meansDeed_J153
    refine pc_gd (fun _ => pc_ob (fun r e => ?_))
    have := gq hS (e := 339) (by decide +kernel) e
    subst this
    have hE2 := k5 (by rw [q]; decide)
    refine pc_cb (within_x hS (hM.wf f41) (N7.i e41 (by omega)) x1 (by omega) hL.lb) (fun u23 d21 r => pc_gd (fun _ => pc_gd (fun _ => pc_bd (fun d24 e24 => ?_))))
    unfold fX12_meansDeed_J347
    exact pc_some ⟨r.2.1.i e24 (by omega), hL.lb.nns (by omega), (f41.tr r.2.2).i e24 (Or.inr rfl)⟩
  · exact pc_gd (fun _ => none0 (Or.inl q))
  · exact pc_gd (fun _ => none0 (Or.inr q))
  · obtain ⟨kE, kL⟩ := k6 q
    have K2 : dI d7 331 (x + 2).toNatClampNeg = KS t n (D + 2) := by
      rw [tn x2, f7 331 (D + 2) (by omega) (by decide)]
      exact (hM.2.2.2 (D + 2) (by omega)).1
    have eN : dNt (KS t n) (VS t n) D w = nW (VS t n) (KS t n (D + 2)) (D + 3) (nNu (VS t n) 1 200 (D + 1) w) := by
      unfold dNt
      rw [if_neg (by rw [q]; decide), if_pos q, q, nW_e (k := 37) (lo := 1) (hi := 200) (by decide +kernel) (by decide +kernel)]
    rw [eN, K2]
    have j226 : ∀ {y z : Int32}, (y = 0 ∧ KS t n (D + 2) = 32 ∨ ¬ y = 0 ∧ KS t n (D + 2) = 33) → pc (fX12_meansDeed_J226 N g 328 x y z 0 339 d7) (fun _ d' => NM t n d' (nW (VS t n) (KS t n (D + 2)) (D + 3) (nNu (VS t n) 1 200 (D + 1) w)) ∧ SB (nW (VS t n) (KS t n (D + 2)) (D + 3) (nNu (VS t n) 1 200 (D + 1) w)) E ∧ WF d d') := by
      intro y z hy
      unfold fX12_meansDeed_J226
      refine pc_gd (fun _ => pc_gd (fun _ => pc_bd (fun d64 e64 => pc_gd (fun _ => pc_ob (fun r e => ?_)))))
      have := gq hS (e := 339) (by decide +kernel) e
      subst this
      have f64 := f7.i e64 (Or.inr rfl)
      refine pc_cb (within_x hS (hM.wf f64) (N7.i e64 (by omega)) x1 (by omega) hL.lb) (fun u69 d67 r => pc_gd (fun _ => pc_gd (fun _ => pc_bd (fun d72 e72 => ?_))))
      have f72 := (f64.tr r.2.2).i e72 (Or.inr rfl)
      have N72 := r.2.1.i e72 (by omega)
      have S72 : SB (nNu (VS t n) 1 200 (D + 1) w) (D + 3) := hL.lb.nns (by omega)
      have last : ∀ {lo hi : Int32}, wfv 0 (kk (KS t n (D + 2))) = lo → wfv 1 (kk (KS t n (D + 2))) = hi → pc (cb (fX12_within N g 328 (x + 3) lo hi d72) fun u76 d74 => (fX12_meansDeed_J275 N g 328 x u76 2 339 d74)) (fun _ d' => NM t n d' (nW (VS t n) (KS t n (D + 2)) (D + 3) (nNu (VS t n) 1 200 (D + 1) w)) ∧ SB (nW (VS t n) (KS t n (D + 2)) (D + 3) (nNu (VS t n) 1 200 (D + 1) w)) E ∧ WF d d') := by
        intro lo hi h1 h2
        rw [nW_e h1 h2]
        refine pc_cb (within_x hS (hM.wf f72) N72 x3 (by omega) S72.lb) (fun u76 d74 r => ?_)
        unfold fX12_meansDeed_J275 fX12_meansDeed_J347
        exact pc_gd (fun _ => pc_gd (fun _ => pc_bd (fun d79 e79 => pc_some ⟨r.2.1.i e79 (by omega), S72.lb.nns (by omega), (f72.tr r.2.2).i e79 (Or.inr rfl)⟩)))
      rcases hy with ⟨hy, hk⟩ | ⟨hy, hk⟩
      · exact pc_if (fun _ => last (by rw [hk]; decide +kernel) (by rw [hk]; decide +kernel)) (fun z => absurd hy z)
      · exact pc_if (fun z => absurd z hy) (fun _ => last (by rw [hk]; decide +kernel) (by rw [hk]; decide +kernel))
    have j209 : ∀ {z : Int32}, (z = 0 ∧ KS t n (D + 2) = 32 ∨ ¬ z = 0 ∧ KS t n (D + 2) = 33) → pc (fX12_meansDeed_J209 N g 328 x z d7) (fun _ d' => NM t n d' (nW (VS t n) (KS t n (D + 2)) (D + 3) (nNu (VS t n) 1 200 (D + 1) w)) ∧ SB (nW (VS t n) (KS t n (D + 2)) (D + 3) (nNu (VS t n) 1 200 (D + 1) w)) E ∧ WF d d') := by
      intro z hz
      unfold fX12_meansDeed_J209
      refine pc_gd (fun _ => pc_ob (fun r e => ?_))
      have := gq hS (e := 339) (by decide +kernel) e
      subst this
      exact pc_if (fun _ => j226 hz) (fun _ => j226 hz)
    refine pc_gd (fun _ => pc_if (fun q33 => j209 (Or.inr ⟨by decide, q33⟩)) (fun q33 => j209 (Or.inl ⟨rfl, kL.elim (fun y => absurd y q33) id⟩)))
  · have kE := k7 q
    have eN : dNt (KS t n) (VS t n) D w = nNu (VS t n) 1 200 (D + 2) (nNu (VS t n) 1 200 (D + 1) w) := by
      unfold dNt
      rw [if_neg (by rw [q]; decide), if_neg (by rw [q]; decide), if_pos q, q, nW_e (k := 38) (lo := 1) (hi := 200) (by decide +kernel) (by decide +kernel), nW_e (k := 38) (lo := 1) (hi := 200) (by decide +kernel) (by decide +kernel)]
    rw [eN]
    refine pc_gd (fun _ => pc_bd (fun d85 e85 => ?_))
    have f85 := f7.i e85 (Or.inr rfl)
    refine pc_cb (within_x hS (hM.wf f85) (N7.i e85 (by omega)) x1 (by omega) hL.lb) (fun u88 d86 r => pc_bd (fun d89 e89 => ?_))
    have f89 := (f85.tr r.2.2).i e89 (Or.inr rfl)
    have S89 : SB (nNu (VS t n) 1 200 (D + 1) w) (D + 2) := hL.lb.nns (by omega)
    refine pc_cb (within_x hS (hM.wf f89) (r.2.1.i e89 (by omega)) x2 (by omega) S89.lb) (fun u92 d90 r => pc_bd (fun d93 e93 => ?_))
    unfold fX12_meansDeed_J347
    exact pc_some ⟨r.2.1.i e93 (by omega), S89.lb.nns (by omega), (f89.tr r.2.2).i e93 (Or.inr rfl)⟩
  · intro a b e
    cases e
end DEEDX
/-! the model's lines -/
def CKM (V : Nat → Int32) (d : Ds) (c m : Nat) (ck : Nat → Int32) : Prop := dI d 337 0 = V 1 ∧ dI d 337 1 = V 2 ∧ (dI d 337 10).toInt = (c : Int) ∧ (dI d 337 11).toInt = (m : Int) ∧ (∀ j, j < c → dI d 337 (300 + 4 * j) = ck (2 * j) ∧ dI d 337 (300 + 4 * j + 1) = ck (2 * j + 1)) ∧ ∀ i, m ≤ i → i < 4 → dI d 337 (316 + 9 * i) = 0
def BR (V : Nat → Int32) : Prop := (1 ≤ (V 1).toInt ∧ (V 1).toInt ≤ 4) ∧ 1 ≤ (V 2).toInt ∧ (V 2).toInt ≤ 6
def RM (t : Nat → Int32) (n s : Nat) (d : Ds) (w : Int32 × Nat) (c m : Nat) (ck : Nat → Int32) : Prop := MTk t n s d ∧ NM t n d w ∧ (dI d 328 22 = 0 → ¬ w.1 = 0) ∧ (w.1 = 0 ∨ 0 < w.1.toInt) ∧ (w.1 = 0 → BR (VS t n) ∧ CKM (VS t n) d c m ck)
/-- a note more or none -/
def NX (w w' : Int32 × Nat) : Prop := (w'.1 = 0 → w.1 = 0) ∧ ((w.1 = 0 ∨ 0 < w.1.toInt) → w'.1 = 0 ∨ 0 < w'.1.toInt)
theorem NX.rf {w : Int32 × Nat} : NX w w := ⟨id, id⟩
theorem NX.tr {w w' w'' : Int32 × Nat} (h : NX w w') (k : NX w' w'') : NX w w'' := ⟨fun z => h.1 (k.1 z), fun z => k.2 (h.2 z)⟩
theorem NX.t {w : Int32 × Nat} {c : Int32} {T : Nat} (hc : 0 < c.toInt) : NX w (nT c T w) := by
  unfold nT
  split
  · rename_i h
    exact ⟨fun _ => h, fun _ => Or.inr hc⟩
  · exact NX.rf
theorem NX.n {V : Nat → Int32} {lo hi : Int32} {w : Int32 × Nat} {T : Nat} : NX w (nNu V lo hi T w) := by
  unfold nNu
  split
  · exact NX.t (by decide)
  · exact NX.rf
theorem NX.d {K V : Nat → Int32} {w : Int32 × Nat} {T : Nat} : NX w (dNt K V T w) := by
  unfold dNt nW
  split
  · exact NX.rf
  · split
    · exact NX.n.tr NX.n
    · split
      · exact NX.n.tr NX.n
      · exact NX.n
theorem nNu_0 {V : Nat → Int32} {lo hi : Int32} {w : Int32 × Nat} {T : Nat} (h : (nNu V lo hi T w).1 = 0) : w.1 = 0 ∧ ¬ ((V T).toInt < lo.toInt ∨ hi.toInt < (V T).toInt) := by
  refine ⟨NX.n.1 h, fun z => ?_⟩
  have h0 : w.1 = 0 := NX.n.1 h
  unfold nNu nT at h
  rw [if_pos z, if_pos h0] at h
  exact absurd h (show ¬ (5 : Int32) = 0 by decide)
section RML
variable {t : Nat → Int32} {n s : Nat} {d : Ds} {w : Int32 × Nat} {c m : Nat} {ck : Nat → Int32} {T E : Nat}
theorem CKM.wf {V : Nat → Int32} {d' : Ds} (h : CKM V d c m ck) (f : ∀ j, j = 0 ∨ j = 1 ∨ j = 10 ∨ j = 11 ∨ 300 ≤ j → dI d' 337 j = dI d 337 j) : CKM V d' c m ck := by
  obtain ⟨a, b, c1, d1, e, h⟩ := h
  refine ⟨by rw [f 0 (by omega)]; exact a, by rw [f 1 (by omega)]; exact b, by rw [f 10 (by omega)]; exact c1, by rw [f 11 (by omega)]; exact d1, fun j hj => ?_, fun i hi h4 => ?_⟩
  · rw [f _ (by omega), f _ (by omega)]
    exact e j hj
  · rw [f _ (by omega)]
    exact h i hi h4
theorem RM.wf {d' : Ds} {w' : Int32 × Nat} (h : RM t n s d w c m ck) (f : WF d d') (hN : NM t n d' w') (hx : NX w w') : RM t n s d' w' c m ck := ⟨h.1.wf f, hN, fun z => fun y => h.2.2.1 (by rw [← f 328 22 (by decide) (by decide)]; exact z) (hx.1 y), hx.2 h.2.2.2.1, fun z => ⟨(h.2.2.2.2 (hx.1 z)).1, (h.2.2.2.2 (hx.1 z)).2.wf (fun j _ => f 337 j (by omega) (by decide))⟩⟩
/-- a setting -/
theorem RM.put {d' : Ds} {j : Nat} {v : Int32} (h : RM t n s d w c m ck) (e : d' = sI d 337 j v) (hj : ¬ (j = 0 ∨ j = 1 ∨ j = 10 ∨ j = 11 ∨ 300 ≤ j)) : RM t n s d' w c m ck := by
  have f : ∀ r i, ¬ r = 337 → dI d' r i = dI d r i := fun r i q => rdq e (Or.inl q)
  refine ⟨⟨h.1.1, h.1.2.1, by rw [f 328 10 (by decide)]; exact h.1.2.2.1, fun i hi => ?_⟩, h.2.1.i e (by omega), fun z => h.2.2.1 (by rw [← f 328 22 (by decide)]; exact z), h.2.2.2.1, fun z => ⟨(h.2.2.2.2 z).1, (h.2.2.2.2 z).2.wf (fun i hi => ?_)⟩⟩
  · rw [f 331 i (by decide), f 332 i (by decide), f 333 i (by decide)]
    exact h.1.2.2.2 i hi
  · rw [e, sI_rd, if_neg (fun z => hj (by rw [← z.2]; exact hi))]
theorem isChorded_x {g : Gs} (hS : Shp g) {x : Int32} {V : Nat → Int32} : pc (fX12_isChorded 10000 g 328 x d) (fun u d' => d' = d ∧ (c ≤ 4 → CKM V d c m ck → (u = 0 ∧ tld ck x (2 * c) = false ∨ ¬ u = 0 ∧ tld ck x (2 * c) = true))) := by
  have e1 : (1 : Int32).toInt = 1 := by decide
  have e4 : (4 : Int32).toInt = 4 := by decide
  have e300 : (300 : Int32).toInt = 300 := by decide
  have e10 : (10 : Int32).toNatClampNeg = 10 := by decide
  unfold fX12_isChorded fX12_isChorded_L2
  refine pc_lp (fun (a : Int32 × Ds) => a.2 = d ∧ (c ≤ 4 → CKM V d c m ck → ∃ j : Nat, j ≤ c ∧ a.1.toInt = (j : Int) ∧ tld ck x (2 * j) = false)) ?_ 10000 (0, d) ⟨rfl, fun _ _ => ⟨0, Nat.zero_le _, (by decide : (0 : Int32).toInt = ((0 : Nat) : Int)), rfl⟩⟩
  rintro K ⟨y2, dd⟩ ⟨e, h⟩ hK
  dsimp only at e h hK ⊢
  subst e
  unfold fX12_isChorded_B2
  refine pc_gd (fun _ => pc_ob (fun r e => ?_))
  have := gq hS (e := 337) (by decide +kernel) e
  subst this
  refine pc_gd (fun _ => pc_gd (fun _ => ?_))
  rw [e10]
  refine pc_if (fun q => pc_some ⟨rfl, fun h4 hc => ?_⟩) (fun q => pc_gd (fun _ => ?_))
  · obtain ⟨j, j1, j2, j3⟩ := h h4 hc
    have q2 := Int32.le_iff_toInt_le.mp q
    have h10 := hc.2.2.1
    have : j = c := by omega
    subst this
    exact Or.inl ⟨rfl, j3⟩
  · have key : ∀ (h4 : c ≤ 4) (hc : CKM V dd c m ck), ∃ j : Nat, j < c ∧ y2.toInt = (j : Int) ∧ tld ck x (2 * j) = false ∧ dI dd 337 ((300 : Int32) + ((4 : Int32) * y2)).toNatClampNeg = ck (2 * j) ∧ dI dd 337 (((300 : Int32) + ((4 : Int32) * y2)) + 1).toNatClampNeg = ck (2 * j + 1) := by
      intro h4 hc
      obtain ⟨j, j1, j2, j3⟩ := h h4 hc
      have q2 := Int32.lt_iff_toInt_lt.mp (nle q)
      have h10 := hc.2.2.1
      have hl : j < c := by omega
      obtain ⟨k1, k2⟩ := hc.2.2.2.2.1 j hl
      have m4 := z_mul (x := 4) (y := y2) e4 j2 (by omega) (by omega)
      have a1 := z_add (x := 300) (y := 4 * y2) e300 m4 (by omega) (by omega)
      have a2 := z_add a1 e1 (by omega) (by omega)
      refine ⟨j, hl, j2, j3, ?_, ?_⟩
      · rw [tn (p := 300 + 4 * j) (by rw [a1]; omega)]
        exact k1
      · rw [tn (p := 300 + 4 * j + 1) (by rw [a2]; omega)]
        exact k2
    refine pc_if (fun z => ?_) (fun z1 => pc_gd (fun _ => pc_if (fun z => ?_) (fun z2 => ?_)))
    · unfold fX12_isChorded_J47
      refine pc_some ⟨rfl, fun h4 hc => Or.inr ⟨by decide, ?_⟩⟩
      obtain ⟨j, a, b, _, k1, k2⟩ := key h4 hc
      exact tld_hit (k1.symm.trans z) (by omega)
    · unfold fX12_isChorded_J47
      refine pc_some ⟨rfl, fun h4 hc => Or.inr ⟨by decide, ?_⟩⟩
      obtain ⟨j, a, b, _, k1, k2⟩ := key h4 hc
      exact tld_hit (k2.symm.trans z) (by omega)
    · refine pc_bd (fun u e => hK _ ⟨rfl, fun h4 hc => ?_⟩)
      obtain ⟨j, a, b, f, k1, k2⟩ := key h4 hc
      refine ⟨j + 1, by omega, ?_, ?_⟩
      · dsimp only
        rw [e, z_add b e1 (by omega) (by omega)]
        omega
      · rw [show 2 * (j + 1) = 2 * j + 1 + 1 by omega]
        show (tld ck x (2 * j) || ck (2 * j) == x || ck (2 * j + 1) == x) = false
        rw [f, beq_false_of_ne (fun y => z1 (k1.trans y)), beq_false_of_ne (fun y => z2 (k2.trans y))]
        rfl
theorem meansKey_x {g : Gs} (hS : Shp g) {x : Int32} (hR : RM t n s d w c m ck) (hx : x.toInt = (T : Int)) (hd : dOK (KS t n) (T + 3) E) (hE : E ≤ s) (hL : SB w (T + 1)) : pc (fX12_meansKey 10000 g 328 x d) (fun _ d' => RM t n s d' (dNt (KS t n) (VS t n) (T + 3) (nNu (VS t n) 0 (kyN (VS t n)) (T + 2) (nNu (VS t n) 0 3 (T + 1) w))) c m ck ∧ SB (dNt (KS t n) (VS t n) (T + 3) (nNu (VS t n) 0 (kyN (VS t n)) (T + 2) (nNu (VS t n) 0 3 (T + 1) w))) E) := by
  have e1 : (1 : Int32).toInt = 1 := by decide
  have e2 : (2 : Int32).toInt = 2 := by decide
  have e3 : (3 : Int32).toInt = 3 := by decide
  have e0 : (0 : Int32).toInt = 0 := by decide
  have e24 : (24 : Int32).toInt = 24 := by decide
  have e12 : (12 : Int32).toInt = 12 := by decide
  have hd3 := hd.2.2.1
  have hs := hR.1.1
  have x1 : (x + 1).toInt = ((T + 1 : Nat) : Int) := by rw [z_add hx e1 (by omega) (by omega)]; omega
  have x2 : (x + 2).toInt = ((T + 2 : Nat) : Int) := by rw [z_add hx e2 (by omega) (by omega)]; omega
  have x3 : (x + 3).toInt = ((T + 3 : Nat) : Int) := by rw [z_add hx e3 (by omega) (by omega)]; omega
  unfold fX12_meansKey
  refine pc_gd (fun _ => pc_cb (within_x hS hR.1 hR.2.1 x1 (by omega) hL.lb) (fun u4 d2 r => ?_))
  obtain ⟨h4, N2, f2⟩ := r
  have R2 := hR.wf f2 N2 NX.n
  have S2 : SB (nNu (VS t n) 0 3 (T + 1) w) (T + 2) := hL.lb.nns (by omega)
  refine pc_cb (keyTold_x hS R2.1 R2.2.1 x2 (by omega) S2.lb R2.2.2.1 (fun z => ⟨(R2.2.2.2.2 z).2.1, (R2.2.2.2.2 z).2.2.1⟩)) (fun u7 d5 r => ?_)
  obtain ⟨h7, N5, f5⟩ := r
  have R5 := R2.wf f5 N5 NX.n
  have S5 : SB (nNu (VS t n) 0 (kyN (VS t n)) (T + 2) (nNu (VS t n) 0 3 (T + 1) w)) (T + 3 + 1) := S2.lb.nns (by omega)
  refine pc_cv (meansDeed_x hS R5.1 R5.2.1 x3 hd hE S5) (fun d8 r => ?_)
  obtain ⟨N8, S8, f8⟩ := r
  have R8 := R5.wf f8 N8 NX.d
  refine pc_if (fun q => ?_) (fun _ => pc_some ⟨R8, S8⟩)
  have q2 := Int32.le_iff_toInt_le.mp q
  have w0 : (dNt (KS t n) (VS t n) (T + 3) (nNu (VS t n) 0 (kyN (VS t n)) (T + 2) (nNu (VS t n) 0 3 (T + 1) w))).1 = 0 := by
    rcases R8.2.2.2.1 with z | z
    · exact z
    · rw [R8.2.1.2.1] at q2
      omega
  have w1 := NX.d.1 w0
  obtain ⟨w2, b2⟩ := nNu_0 w1
  obtain ⟨w3, b3⟩ := nNu_0 w2
  have br := (R8.2.2.2.2 w0).1
  have hky : (kyN (VS t n)).toInt ≤ 23 := by
    obtain ⟨⟨p1, p2⟩, p3, p4⟩ := br
    unfold kyN
    have hm : (VS t n 1).toInt * (VS t n 2).toInt ≤ 24 := by
      have := Int.mul_le_mul p2 p4 (by omega) (by omega)
      omega
    have hm0 : 0 ≤ (VS t n 1).toInt * (VS t n 2).toInt := Int.mul_nonneg (by omega) (by omega)
    rw [z_sub (z_mul rfl rfl (by omega) (by omega)) e1 (by omega) (by omega)]
    omega
  rw [e0] at b2 b3
  rw [e3] at b3
  have i4 : 0 ≤ u4.toInt ∧ u4.toInt ≤ 3 := by rw [h4]; omega
  have i7 : 0 ≤ u7.toInt ∧ u7.toInt ≤ 23 := by
    rcases h7 with h7 | h7
    · rw [h7]
      omega
    · exact absurd w2 h7
  obtain ⟨p, hp⟩ : ∃ p : Nat, u4.toInt = (p : Int) := ⟨u4.toInt.toNat, by omega⟩
  obtain ⟨q, hq⟩ : ∃ q : Nat, u7.toInt = (q : Int) := ⟨u7.toInt.toNat, by omega⟩
  unfold fX12_meansKey_L36
  refine pc_lp (fun (a : Int32 × Int32 × Int32 × Ds) => a.1 = u4 ∧ a.2.1 = u7 ∧ (∃ k : Nat, k ≤ 3 ∧ a.2.2.1.toInt = (k : Int)) ∧ RM t n s a.2.2.2 (dNt (KS t n) (VS t n) (T + 3) (nNu (VS t n) 0 (kyN (VS t n)) (T + 2) (nNu (VS t n) 0 3 (T + 1) w))) c m ck) ?_ 10000 (u4, u7, 0, d8) ⟨rfl, rfl, ⟨0, by decide, (by decide : (0 : Int32).toInt = ((0 : Nat) : Int))⟩, R8⟩
  rintro K ⟨y2, y3, y4, dd⟩ ⟨ea, eb, ⟨k, hk, hy⟩, hRR⟩ hK
  dsimp only at ea eb hy hRR hK ⊢
  subst ea
  subst eb
  unfold fX12_meansKey_B36
  refine pc_if (fun _ => pc_some ⟨hRR, S8⟩) (fun qq => pc_gd (fun _ => pc_ob (fun r e => ?_)))
  have k3 := Int32.lt_iff_toInt_lt.mp (nle qq)
  have := gq hS (e := 337) (by decide +kernel) e
  subst this
  refine pc_ob (fun r14 _ => pc_gd (fun _ => pc_gd (fun _ => pc_gd (fun _ => pc_gd (fun _ => pc_bd (fun d19 e19 => pc_bd (fun u20 e20 => ?_)))))))
  have m24 := z_mul (x := 24) (y := y2) e24 hp (by omega) (by omega)
  have a24 := z_add m24 hq (by omega) (by omega)
  have m3 := z_mul (x := 3) (y := 24 * y2 + y3) e3 a24 (by omega) (by omega)
  have a12 := z_add (x := 12) (y := 3 * (24 * y2 + y3)) e12 m3 (by omega) (by omega)
  have a4 := z_add a12 hy (by omega) (by omega)
  have ix : ((12 : Int32) + ((3 : Int32) * (((24 : Int32) * y2) + y3)) + y4).toNatClampNeg = 12 + 3 * (24 * p + q) + k := tn (by rw [a4]; omega)
  rw [ix] at e19
  refine hK _ ⟨rfl, rfl, ⟨k + 1, by omega, ?_⟩, hRR.put e19 (by omega)⟩
  dsimp only
  rw [e20, z_add hy e1 (by omega) (by omega)]
  omega
end RML
/-! numbers aren't below nought -/
theorem vlF_r {t : Nat → Int32} {p : Nat} : ∀ k, k ≤ 4 → (∀ j, j < k → dgt (t (p + j)) = true) → 0 ≤ (vlF t p k).toInt ∧ (vlF t p k).toInt < 10 ^ k := by
  have e10 : (10 : Int32).toInt = 10 := by decide
  have e48 : (48 : Int32).toInt = 48 := by decide
  intro k
  induction k with
  | zero => intro _ _; exact ⟨(show 0 ≤ (0 : Int32).toInt by decide), (show (0 : Int32).toInt < 1 by decide)⟩
  | succ k ih =>
    intro hk hd
    obtain ⟨i1, i2⟩ := ih (by omega) (fun j hj => hd j (by omega))
    obtain ⟨d1, d2⟩ := dgt_i.mp (hd k (by omega))
    have hb : (10 : Int) ^ k ≤ 1000 := by
      rcases (show k = 0 ∨ k = 1 ∨ k = 2 ∨ k = 3 by omega) with z | z | z | z <;> subst z <;> decide
    have m := z_mul (x := vlF t p k) (y := 10) rfl e10 (by omega) (by omega)
    have a := z_sub (x := t (p + k)) (y := 48) rfl e48 (by omega) (by omega)
    have b := z_add m a (by omega) (by omega)
    show 0 ≤ (vlF t p k * 10 + (t (p + k) - 48)).toInt ∧ (vlF t p k * 10 + (t (p + k) - 48)).toInt < 10 ^ (k + 1)
    rw [b, Int.pow_succ]
    omega
theorem VS_r {t : Nat → Int32} {n : Nat} (i : Nat) : 0 ≤ (VS t n i).toInt := by
  unfold VS vl
  split
  · split
    · rename_i h1 h2
      refine (vlF_r _ (Nat.min_le_right _ _) (fun j hj => ?_)).1
      exact rn_in (q := dgt) (p := ps t n i) (n := n) (by omega) (by have := Nat.min_le_left (rn dgt t n (ps t n i) - ps t n i) 4; omega)
    · decide
  · decide
section CHX
variable {t : Nat → Int32} {n s : Nat} {d : Ds} {w : Int32 × Nat} {c m : Nat} {ck : Nat → Int32} {T E : Nat}
theorem RM.any {d' : Ds} {c' m' : Nat} {ck' : Nat → Int32} (h : RM t n s d w c m ck) (f : ∀ r i, ¬ r = 337 → dI d' r i = dI d r i) (hc : w.1 = 0 → CKM (VS t n) d' c' m' ck') : RM t n s d' w c' m' ck' := by
  refine ⟨⟨h.1.1, h.1.2.1, by rw [f 328 10 (by decide)]; exact h.1.2.2.1, fun i hi => ?_⟩, ⟨by rw [f 328 12 (by decide)]; exact h.2.1.1, by rw [f 328 14 (by decide)]; exact h.2.1.2.1, fun z => by rw [f 328 15 (by decide)]; exact h.2.1.2.2 z⟩, fun z => h.2.2.1 (by rw [← f 328 22 (by decide)]; exact z), h.2.2.2.1, fun z => ⟨(h.2.2.2.2 z).1, hc z⟩⟩
  rw [f 331 i (by decide), f 332 i (by decide), f 333 i (by decide)]
  exact h.1.2.2.2 i hi
theorem cNt_n {V : Nat → Int32} {u : Int32} (h : ¬ w.1 = 0) : cNt V c ck u T w = w := by
  unfold cNt
  have e : nT 3 T w = w := if_neg h
  rw [e, ite_self, nNu_n h]
theorem NX.cn {V : Nat → Int32} {u : Int32} : NX w (cNt V c ck u T w) := by
  unfold cNt
  split
  · exact (NX.t (by decide)).tr NX.n
  · exact NX.n
theorem meansChord_x {g : Gs} (hS : Shp g) {x : Int32} (hc4 : c < 4) (hR : RM t n s d w c m ck) (hx : x.toInt = (T : Int)) (hd : dOK (KS t n) (T + 3) E) (hE : E ≤ s) (hL : SB w (T + 1)) : pc (fX12_meansChord 10000 g 328 x d) (fun _ d' => RM t n s d' (cDt (KS t n) (VS t n) (T + 3) (cNt (VS t n) c ck (VS t n (T + 1)) (T + 2) (cNt (VS t n) c ck (-1) (T + 1) w))) (c + 1) m (ckU ck c (VS t n (T + 1)) (VS t n (T + 2))) ∧ SB (cDt (KS t n) (VS t n) (T + 3) (cNt (VS t n) c ck (VS t n (T + 1)) (T + 2) (cNt (VS t n) c ck (-1) (T + 1) w))) E) := by
  have e1 : (1 : Int32).toInt = 1 := by decide
  have e2 : (2 : Int32).toInt = 2 := by decide
  have e3 : (3 : Int32).toInt = 3 := by decide
  have e4 : (4 : Int32).toInt = 4 := by decide
  have e5 : (5 : Int32).toInt = 5 := by decide
  have em : (-1 : Int32).toInt = -1 := by decide
  have e300 : (300 : Int32).toInt = 300 := by decide
  have n10 : (10 : Int32).toNatClampNeg = 10 := by decide
  have hd3 := hd.2.2.1
  have hs := hR.1.1
  have xk : ∀ {y : Int32} {k : Nat}, y.toInt = (k : Int) → k ≤ 3 → (x + y).toInt = ((T + k : Nat) : Int) := fun {y k} hy hk => by rw [z_add hx hy (by omega) (by omega)]; omega
  obtain ⟨w1, hw1⟩ : ∃ w1, cNt (VS t n) c ck (-1) (T + 1) w = w1 := ⟨_, rfl⟩
  obtain ⟨w2, hw2⟩ : ∃ w2, cNt (VS t n) c ck (VS t n (T + 1)) (T + 2) w1 = w2 := ⟨_, rfl⟩
  rw [hw1, hw2]
  have hb : ∀ {u : Int32} {T : Nat} {w : Int32 × Nat}, SB w T → SB (cNt (VS t n) c ck u T w) (T + 1) := by
    intro u T w h
    unfold cNt
    refine LB.nns ?_ (Nat.lt_succ_self T)
    split
    · unfold nT
      split
      · exact Or.inr (Or.inr ⟨rfl, (by decide : (3 : Int32).toInt ≤ (5 : Int32).toInt)⟩)
      · exact h.lb
    · exact h.lb
  have S1 : SB w1 (T + 2) := by rw [← hw1]; exact hb hL
  have S2 : SB w2 (T + 3) := by rw [← hw2]; exact hb S1
  unfold fX12_meansChord
  refine pc_gd (fun _ => pc_ob (fun r e => ?_))
  have := gq hS (e := 337) (by decide +kernel) e
  subst this
  refine pc_gd (fun _ => pc_gd (fun _ => pc_bd (fun u5 e5' => ?_)))
  rw [n10] at e5'
  have h5 : w.1 = 0 → u5.toInt = 300 + 4 * (c : Int) := by
    intro z
    have h10 := (hR.2.2.2.2 z).2.2.2.1
    rw [e5']
    exact z_add e300 (z_mul e4 h10 (by omega) (by omega)) (by omega) (by omega)
  unfold fX12_meansChord_L16
  refine pc_lp (fun (a : Int32 × Int32 × Ds) => a.1 = u5 ∧ (a.2.1 = 1 ∧ RM t n s a.2.2 w c m ck ∨ a.2.1 = 2 ∧ RM t n s a.2.2 w1 c m ck ∨ a.2.1 = 3 ∧ RM t n s a.2.2 w2 c m ck)) ?_ 10000 (u5, 1, d) ⟨rfl, Or.inl ⟨rfl, hR⟩⟩
  rintro K ⟨y2, y3, dd⟩ ⟨ea, hh⟩ hK
  dsimp only at ea hh hK ⊢
  subst ea
  -- a key
  have stp : ∀ {k : Nat} {w0 w0' : Int32 × Nat} {u : Int32}, y3.toInt = (k : Int) → k = 1 ∨ k = 2 → RM t n s dd w0 c m ck → SB w0 (T + k) → cNt (VS t n) c ck u (T + k) w0 = w0' → (k = 1 → u = -1) → (k = 2 → u = VS t n (T + 1)) → (∀ d', RM t n s d' w0' c m ck → ∀ y, y = y3 + 1 → pc (K (y2, y, d')) (fun _ d' => RM t n s d' (cDt (KS t n) (VS t n) (T + 3) w2) (c + 1) m (ckU ck c (VS t n (T + 1)) (VS t n (T + 2))) ∧ SB (cDt (KS t n) (VS t n) (T + 3) w2) E)) → pc (fX12_meansChord_B16 10000 g 328 x K y2 y3 dd) (fun _ d' => RM t n s d' (cDt (KS t n) (VS t n) (T + 3) w2) (c + 1) m (ckU ck c (VS t n (T + 1)) (VS t n (T + 2))) ∧ SB (cDt (KS t n) (VS t n) (T + 3) w2) E) := by
    intro k w0 w0' u hy hk RR SS hcn hu1 hu2 go
    have xy : (x + y3).toInt = ((T + k : Nat) : Int) := xk hy (by omega)
    unfold fX12_meansChord_B16
    refine pc_if (fun q => ?_) (fun _ => pc_gd (fun _ => pc_ob (fun r e => ?_)))
    · have := Int32.le_iff_toInt_le.mp q
      omega
    have := gq hS (e := 333) (by decide +kernel) e
    subst this
    refine pc_gd (fun _ => pc_gd (fun _ => pc_bd (fun u44 e44 => pc_cb (isChorded_x (c := c) (m := m) (ck := ck) (V := VS t n) hS) (fun u47 d45 r => ?_))))
    obtain ⟨e, hch⟩ := r
    subst e
    have h44 : u44 = VS t n (T + k) := by
      rw [e44, tn xy]
      exact (RR.1.2.2.2 (T + k) (by omega)).2.2
    rw [h44] at hch ⊢
    have j66 : ∀ {de : Ds} {v : Int32 × Nat}, RM t n s de v c m ck → LB v (T + k) 5 → nNu (VS t n) 0 (kyN (VS t n)) (T + k) v = w0' → pc (fX12_meansChord_J66 10000 g 328 x K y2 y3 de) (fun _ d' => RM t n s d' (cDt (KS t n) (VS t n) (T + 3) w2) (c + 1) m (ckU ck c (VS t n (T + 1)) (VS t n (T + 2))) ∧ SB (cDt (KS t n) (VS t n) (T + 3) w2) E) := by
      intro de v Rv Lv ev
      unfold fX12_meansChord_J66
      refine pc_gd (fun _ => pc_cb (keyTold_x hS Rv.1 Rv.2.1 xy (by omega) Lv Rv.2.2.1 (fun z => ⟨(Rv.2.2.2.2 z).2.1, (Rv.2.2.2.2 z).2.2.1⟩)) (fun u55 d53 r => pc_bd (fun u56 e56 => ?_)))
      have := Rv.wf r.2.2 r.2.1 NX.n
      rw [ev] at this
      exact go d53 this u56 e56
    have j58 : (w0.1 = 0 → VS t n (T + k) = u ∨ tld ck (VS t n (T + k)) (2 * c) = true) → pc (fX12_meansChord_J58 10000 g 328 x K y2 y3 d45) (fun _ d' => RM t n s d' (cDt (KS t n) (VS t n) (T + 3) w2) (c + 1) m (ckU ck c (VS t n (T + 1)) (VS t n (T + 2))) ∧ SB (cDt (KS t n) (VS t n) (T + 3) w2) E) := by
      intro hcond
      unfold fX12_meansChord_J58
      refine pc_gd (fun _ => pc_cv (wrong_x hS RR.1 RR.2.1 xy (by omega) SS.lb) (fun d50 r => ?_))
      refine j66 (RR.wf r.2 r.1 (NX.t (by decide))) ?_ ?_
      · unfold nT
        split
        · exact Or.inr (Or.inr ⟨rfl, (by decide : (3 : Int32).toInt ≤ (5 : Int32).toInt)⟩)
        · exact SS.lb
      · rw [← hcn]
        by_cases z : w0.1 = 0
        · unfold cNt
          rw [if_pos (hcond z)]
        · rw [cNt_n z, nNu_n (show ¬ (nT 3 (T + k) w0).1 = 0 from fun y => z (by have e : nT 3 (T + k) w0 = w0 := if_neg z; rw [e] at y; exact y))]
          exact if_neg z
    have j66' : (w0.1 = 0 → ¬ (VS t n (T + k) = u ∨ tld ck (VS t n (T + k)) (2 * c) = true)) → pc (fX12_meansChord_J66 10000 g 328 x K y2 y3 d45) (fun _ d' => RM t n s d' (cDt (KS t n) (VS t n) (T + 3) w2) (c + 1) m (ckU ck c (VS t n (T + 1)) (VS t n (T + 2))) ∧ SB (cDt (KS t n) (VS t n) (T + 3) w2) E) := by
      intro hcond
      refine j66 RR SS.lb ?_
      rw [← hcn]
      by_cases z : w0.1 = 0
      · unfold cNt
        rw [if_neg (hcond z)]
      · rw [cNt_n z, nNu_n z]
    have hch' : w0.1 = 0 → (u47 = 0 ∧ tld ck (VS t n (T + k)) (2 * c) = false ∨ ¬ u47 = 0 ∧ tld ck (VS t n (T + k)) (2 * c) = true) := fun z => hch (by omega) (RR.2.2.2.2 z).2
    refine pc_if (fun q => pc_if (fun q2 => pc_gd (fun _ => ?_)) (fun q2 => ?_)) (fun q => j58 (fun z => (hch' z).elim (fun y => absurd y.1 q) (fun y => Or.inr y.2)))
    · have k2 : k = 2 := by rw [q2, e2] at hy; omega
      subst k2
      have v1 : dI d45 333 (x + 1).toNatClampNeg = VS t n (T + 1) := by
        rw [tn (xk (k := 1) e1 (by omega))]
        exact (RR.1.2.2.2 (T + 1) (by omega)).2.2
      rw [v1]
      refine pc_if (fun q3 => j58 (fun _ => Or.inl (q3.trans (hu2 rfl).symm))) (fun q3 => j66' (fun z y => ?_))
      rcases y with y | y
      · exact q3 (y.trans (hu2 rfl))
      · rcases hch' z with z | z
        · rw [z.2] at y
          exact absurd y (by decide)
        · exact z.1 q
    · have k1 : k = 1 := by
        rcases hk with hk | hk
        · exact hk
        · exact absurd (Int32.toInt_inj.mp (by rw [hy, e2, hk]; rfl)) q2
      subst k1
      refine j66' (fun z y => ?_)
      rcases y with y | y
      · have := VS_r (t := t) (n := n) (T + 1)
        rw [y, hu1 rfl, em] at this
        omega
      · rcases hch' z with z | z
        · rw [z.2] at y
          exact absurd y (by decide)
        · exact z.1 q
  rcases hh with ⟨hy, RR⟩ | ⟨hy, RR⟩ | ⟨hy, RR⟩
  · exact stp (k := 1) (by rw [hy]; exact e1) (Or.inl rfl) RR hL hw1 (fun _ => rfl) (fun z => absurd z (by decide)) (fun d' R' y ey => hK _ ⟨rfl, Or.inr (Or.inl ⟨by rw [ey, hy]; rfl, R'⟩)⟩)
  · exact stp (k := 2) (by rw [hy]; exact e2) (Or.inr rfl) RR S1 hw2 (fun z => absurd z (by decide)) (fun _ => rfl) (fun d' R' y ey => hK _ ⟨rfl, Or.inr (Or.inr ⟨by rw [ey, hy]; rfl, R'⟩)⟩)
  · subst hy
    have x3 := xk (y := 3) (k := 3) e3 (by omega)
    have nxw : w2.1 = 0 → w.1 = 0 := fun z => by
      rw [← hw2, ← hw1] at z
      exact (NX.cn.tr NX.cn).1 z
    have j116 : ∀ {de : Ds}, RM t n s de (if KS t n (T + 3) = 31 ∨ KS t n (T + 3) = 32 ∨ KS t n (T + 3) = 39 then w2 else nT 5 (T + 3) w2) c m ck → pc (fX12_meansChord_J116 10000 g 328 x y2 de) (fun _ d' => RM t n s d' (cDt (KS t n) (VS t n) (T + 3) w2) (c + 1) m (ckU ck c (VS t n (T + 1)) (VS t n (T + 2))) ∧ SB (cDt (KS t n) (VS t n) (T + 3) w2) E) := by
      intro de Re
      have Se : SB (if KS t n (T + 3) = 31 ∨ KS t n (T + 3) = 32 ∨ KS t n (T + 3) = 39 then w2 else nT 5 (T + 3) w2) (T + 3 + 1) := by
        split
        · exact S2.up (by omega)
        · exact S2.lb.nts (by omega)
      have ecD : dNt (KS t n) (VS t n) (T + 3) (if KS t n (T + 3) = 31 ∨ KS t n (T + 3) = 32 ∨ KS t n (T + 3) = 39 then w2 else nT 5 (T + 3) w2) = cDt (KS t n) (VS t n) (T + 3) w2 := rfl
      unfold fX12_meansChord_J116
      refine pc_gd (fun _ => pc_cv (meansDeed_x hS Re.1 Re.2.1 x3 hd hE Se) (fun d14 r => ?_))
      obtain ⟨N14, S14, f14⟩ := r
      have R14 := Re.wf f14 N14 NX.d
      rw [ecD] at R14 S14
      refine pc_ob (fun r e => ?_)
      have := gq hS (e := 337) (by decide +kernel) e
      subst this
      refine pc_ob (fun r e => ?_)
      have := gq hS (e := 333) (by decide +kernel) e
      subst this
      refine pc_gd (fun _ => pc_gd (fun _ => pc_gd (fun _ => pc_gd (fun _ => pc_bd (fun d22 e22 => pc_gd (fun _ => pc_gd (fun _ => pc_bd (fun d25 e25 => pc_ob (fun r26 _ => pc_gd (fun _ => pc_gd (fun _ => pc_gd (fun _ => pc_bd (fun d30 e30 => pc_gd (fun _ => pc_gd (fun _ => pc_bd (fun d33 e33 => pc_gd (fun _ => pc_bd (fun d35 e35 => pc_some ⟨R14.any (fun r i q => ?_) (fun z => ?_), S14⟩))))))))))))))))))
      · rw [rdq e35 (Or.inl q), rdq e33 (Or.inl q), rdq e30 (Or.inl q), rdq e25 (Or.inl q), rdq e22 (Or.inl q)]
      · obtain ⟨k0, k1, k10, k11, kc, km⟩ := (R14.2.2.2.2 z).2
        have w20 : w2.1 = 0 := by
          have h2 : (if KS t n (T + 3) = 31 ∨ KS t n (T + 3) = 32 ∨ KS t n (T + 3) = 39 then w2 else nT 5 (T + 3) w2).1 = 0 := NX.d.1 (by rw [ecD]; exact z)
          split at h2
          · exact h2
          · exact (NX.t (by decide)).1 h2
        have y2i := h5 (nxw w20)
        have i0 : y2.toNatClampNeg = 300 + 4 * c := tn (by omega)
        have i1 : (y2 + 1).toNatClampNeg = 300 + 4 * c + 1 := tn (by rw [z_add y2i e1 (by omega) (by omega)]; omega)
        have i2 : (y2 + 2).toNatClampNeg = 300 + 4 * c + 2 := tn (by rw [z_add y2i e2 (by omega) (by omega)]; omega)
        have i3 : (y2 + 3).toNatClampNeg = 300 + 4 * c + 3 := tn (by rw [z_add y2i e3 (by omega) (by omega)]; omega)
        have v1 : dI d14 333 (x + 1).toNatClampNeg = VS t n (T + 1) := by
          rw [tn (xk (k := 1) e1 (by omega))]
          exact (R14.1.2.2.2 (T + 1) (by omega)).2.2
        have v2 : dI d22 333 (x + 2).toNatClampNeg = VS t n (T + 2) := by
          rw [tn (xk (k := 2) e2 (by omega)), rdq e22 (Or.inl (by decide))]
          exact (R14.1.2.2.2 (T + 2) (by omega)).2.2
        rw [v1, i0] at e22
        rw [v2, i1] at e25
        rw [i2] at e30
        rw [i3] at e33
        rw [n10] at e35
        have rd : ∀ j, dI d35 337 j = if j = 10 then dI d33 337 10 + 1 else if j = 300 + 4 * c + 3 then dI d35 337 (300 + 4 * c + 3) else if j = 300 + 4 * c + 2 then dI d35 337 (300 + 4 * c + 2) else if j = 300 + 4 * c + 1 then VS t n (T + 2) else if j = 300 + 4 * c then VS t n (T + 1) else dI d14 337 j := by
          intro j
          by_cases z1 : j = 10
          · rw [if_pos z1, z1, e35, sI_rd, if_pos ⟨rfl, rfl⟩]
          · rw [if_neg z1]
            by_cases z2 : j = 300 + 4 * c + 3
            · rw [if_pos z2, z2]
            · rw [if_neg z2]
              by_cases z3 : j = 300 + 4 * c + 2
              · rw [if_pos z3, z3]
              · rw [if_neg z3, rdq e35 (Or.inr z1), rdq e33 (Or.inr z2), rdq e30 (Or.inr z3)]
                by_cases z4 : j = 300 + 4 * c + 1
                · rw [if_pos z4, z4, e25, sI_rd, if_pos ⟨rfl, rfl⟩]
                · rw [if_neg z4, rdq e25 (Or.inr z4)]
                  by_cases z5 : j = 300 + 4 * c
                  · rw [if_pos z5, z5, e22, sI_rd, if_pos ⟨rfl, rfl⟩]
                  · rw [if_neg z5, rdq e22 (Or.inr z5)]
        have ot : ∀ j, ¬ j = 10 → ¬ (300 + 4 * c ≤ j ∧ j ≤ 300 + 4 * c + 3) → dI d35 337 j = dI d14 337 j := by
          intro j a b
          rw [rd, if_neg a, if_neg (by omega), if_neg (by omega), if_neg (by omega), if_neg (by omega)]
        have a10 : dI d33 337 10 = dI d14 337 10 := by rw [rdq e33 (Or.inr (by omega)), rdq e30 (Or.inr (by omega)), rdq e25 (Or.inr (by omega)), rdq e22 (Or.inr (by omega))]
        refine ⟨?_, ?_, ?_, ?_, fun j hj => ?_, fun i hi h4 => ?_⟩
        · rw [ot 0 (by omega) (by omega)]
          exact k0
        · rw [ot 1 (by omega) (by omega)]
          exact k1
        · rw [rd, if_pos rfl, a10, z_add k10 e1 (by omega) (by omega)]
          omega
        · rw [ot 11 (by omega) (by omega)]
          exact k11
        · by_cases q : j = c
          · subst q
            rw [rd, if_neg (by omega), if_neg (by omega), if_neg (by omega), if_neg (by omega), if_pos rfl, rd, if_neg (by omega), if_neg (by omega), if_neg (by omega), if_pos rfl]
            unfold ckU
            rw [if_pos rfl, if_neg (by omega), if_pos rfl]
            exact ⟨rfl, rfl⟩
          · rw [ot _ (by omega) (by omega), ot _ (by omega) (by omega)]
            unfold ckU
            rw [if_neg (by omega), if_neg (by omega), if_neg (by omega), if_neg (by omega)]
            exact kc j (by omega)
        · rw [ot _ (by omega) (by omega)]
          exact km i hi h4
    unfold fX12_meansChord_B16
    refine pc_if (fun _ => pc_gd (fun _ => pc_ob (fun r e => ?_))) (fun q => absurd (Int32.le_iff_toInt_le.mpr (Int.le_refl _)) q)
    have := gq hS (e := 331) (by decide +kernel) e
    subst this
    refine pc_gd (fun _ => pc_gd (fun _ => pc_bd (fun u11 e11 => ?_)))
    have h11 : u11 = KS t n (T + 3) := by
      rw [e11, tn x3]
      exact (RR.1.2.2.2 (T + 3) (by omega)).1
    rw [h11]
    have good : (KS t n (T + 3) = 31 ∨ KS t n (T + 3) = 32 ∨ KS t n (T + 3) = 39) → pc (fX12_meansChord_J116 10000 g 328 x y2 dd) (fun _ d' => RM t n s d' (cDt (KS t n) (VS t n) (T + 3) w2) (c + 1) m (ckU ck c (VS t n (T + 1)) (VS t n (T + 2))) ∧ SB (cDt (KS t n) (VS t n) (T + 3) w2) E) := fun q => j116 (by rw [if_pos q]; exact RR)
    refine pc_if (fun q => good (Or.inl q)) (fun q1 => pc_if (fun q => good (Or.inr (Or.inl q))) (fun q2 => pc_if (fun q => good (Or.inr (Or.inr q))) (fun q3 => ?_)))
    refine pc_cv (wrong_x hS RR.1 RR.2.1 x3 (by omega) S2.lb) (fun d38 r => j116 ?_)
    rw [if_neg (fun z => z.elim q1 (fun z => z.elim q2 q3))]
    exact RR.wf r.2 r.1 (NX.t (by decide))
end CHX
section MAX
variable {t : Nat → Int32} {n s : Nat} {d : Ds} {w : Int32 × Nat} {c m : Nat} {ck : Nat → Int32} {T E : Nat}
/-- while codes are told -/
def CKP (V : Nat → Int32) (d : Ds) (c m cnt : Nat) (ck : Nat → Int32) : Prop := dI d 337 0 = V 1 ∧ dI d 337 1 = V 2 ∧ (dI d 337 10).toInt = (c : Int) ∧ (dI d 337 11).toInt = (m : Int) ∧ (∀ j, j < c → dI d 337 (300 + 4 * j) = ck (2 * j) ∧ dI d 337 (300 + 4 * j + 1) = ck (2 * j + 1)) ∧ (∀ i, m + 1 ≤ i → i < 4 → dI d 337 (316 + 9 * i) = 0) ∧ (dI d 337 (316 + 9 * m)).toInt = (cnt : Int)
theorem CKP.f {V : Nat → Int32} {d' : Ds} {cnt cnt' : Nat} (h : CKP V d c m cnt ck) (hm : m < 4) (f : ∀ j, ¬ (316 + 9 * m ≤ j ∧ j < 316 + 9 * m + 9) → dI d' 337 j = dI d 337 j) (hc : c ≤ 4) (h0 : (dI d' 337 (316 + 9 * m)).toInt = (cnt' : Int)) : CKP V d' c m cnt' ck := by
  obtain ⟨a, b, c1, d1, e, k, _⟩ := h
  refine ⟨by rw [f 0 (by omega)]; exact a, by rw [f 1 (by omega)]; exact b, by rw [f 10 (by omega)]; exact c1, by rw [f 11 (by omega)]; exact d1, fun j hj => ?_, fun i hi h4 => ?_, h0⟩
  · rw [f _ (by omega), f _ (by omega)]
    exact e j hj
  · rw [f _ (by omega)]
    exact k i hi h4
/-- reader's part alone -/
def RBx (t : Nat → Int32) (n s : Nat) (d : Ds) (w : Int32 × Nat) : Prop := MTk t n s d ∧ NM t n d w ∧ (dI d 328 22 = 0 → ¬ w.1 = 0) ∧ (w.1 = 0 ∨ 0 < w.1.toInt) ∧ (w.1 = 0 → BR (VS t n))
theorem RBx.wf {d' : Ds} {w' : Int32 × Nat} (h : RBx t n s d w) (f : WF d d') (hN : NM t n d' w') (hx : NX w w') : RBx t n s d' w' := ⟨h.1.wf f, hN, fun z => fun y => h.2.2.1 (by rw [← f 328 22 (by decide) (by decide)]; exact z) (hx.1 y), hx.2 h.2.2.2.1, fun z => h.2.2.2.2 (hx.1 z)⟩
theorem RBx.put {d' : Ds} {j : Nat} {v : Int32} (h : RBx t n s d w) (e : d' = sI d 337 j v) : RBx t n s d' w := by
  have f : ∀ r i, ¬ r = 337 → dI d' r i = dI d r i := fun r i q => rdq e (Or.inl q)
  refine ⟨⟨h.1.1, h.1.2.1, by rw [f 328 10 (by decide)]; exact h.1.2.2.1, fun i hi => ?_⟩, h.2.1.i e (by omega), fun z => h.2.2.1 (by rw [← f 328 22 (by decide)]; exact z), h.2.2.2.1, h.2.2.2.2⟩
  rw [f 331 i (by decide), f 332 i (by decide), f 333 i (by decide)]
  exact h.1.2.2.2 i hi
theorem RM.rb (h : RM t n s d w c m ck) : RBx t n s d w := ⟨h.1, h.2.1, h.2.2.1, h.2.2.2.1, fun z => (h.2.2.2.2 z).1⟩
theorem RBx.rm (h : RBx t n s d w) (k : w.1 = 0 → CKM (VS t n) d c m ck) : RM t n s d w c m ck := ⟨h.1, h.2.1, h.2.2.1, h.2.2.2.1, fun z => ⟨h.2.2.2.2 z, k z⟩⟩
theorem meansMacro_x {g : Gs} (hS : Shp g) {x : Int32} (hc4 : c ≤ 4) (hm4 : m < 4) (hR : RM t n s d w c m ck) (hx : x.toInt = (T : Int)) (hT : T + 2 ≤ E) (hT2 : E ≤ T + 9) (hk : ∀ j, T + 1 ≤ j → j < E → KS t n j = 2) (hk4 : KS t n E = 4) (hE : E ≤ s) (hL : SB w (T + 1)) : pc (fX12_meansMacro 10000 g 328 x d) (fun _ d' => RM t n s d' (mNt (KS t n) (VS t n) 7 (T + 2) (nNu (VS t n) 1 200 (T + 1) w)) c (m + 1) ck ∧ SB (mNt (KS t n) (VS t n) 7 (T + 2) (nNu (VS t n) 1 200 (T + 1) w)) E) := by
  have e1 : (1 : Int32).toInt = 1 := by decide
  have e9 : (9 : Int32).toInt = 9 := by decide
  have e316 : (316 : Int32).toInt = 316 := by decide
  have n11 : (11 : Int32).toNatClampNeg = 11 := by decide
  have hs := hR.1.1
  obtain ⟨W, hW⟩ : ∃ W, mNt (KS t n) (VS t n) 7 (T + 2) (nNu (VS t n) 1 200 (T + 1) w) = W := ⟨_, rfl⟩
  rw [hW]
  have nw : ∀ {p : Nat} {v : Int32 × Nat}, nW (VS t n) 30 p v = nNu (VS t n) 1 200 p v := fun {p v} => nW_e (by decide +kernel) (by decide +kernel)
  have hW8 : mNt (KS t n) (VS t n) 8 (T + 1) w = W := by
    rw [← hW, ← nw]
    exact if_pos (hk (T + 1) (by omega) (by omega))
  unfold fX12_meansMacro
  refine pc_gd (fun _ => pc_ob (fun r e => ?_))
  have := gq hS (e := 337) (by decide +kernel) e
  subst this
  refine pc_gd (fun _ => pc_gd (fun _ => pc_bd (fun u5 e5 => pc_bd (fun u6 e6 => ?_))))
  rw [n11] at e5
  have h5 : w.1 = 0 → u5.toInt = 316 + 9 * (m : Int) := by
    intro z
    have h11 := (hR.2.2.2.2 z).2.2.2.2.1
    rw [e5]
    exact z_add e316 (z_mul e9 h11 (by omega) (by omega)) (by omega) (by omega)
  have h6 : u6.toInt = ((T + 1 : Nat) : Int) := by rw [e6, z_add hx e1 (by omega) (by omega)]; omega
  unfold fX12_meansMacro_L19
  refine pc_lp (fun (a : Int32 × Int32 × Ds) => a.1 = u5 ∧ ∃ (p : Nat) (w' : Int32 × Nat), T + 1 ≤ p ∧ p ≤ E ∧ a.2.1.toInt = (p : Int) ∧ RBx t n s a.2.2 w' ∧ SB w' p ∧ NX w w' ∧ mNt (KS t n) (VS t n) (8 - (p - (T + 1))) p w' = W ∧ (w'.1 = 0 → CKP (VS t n) a.2.2 c m (p - (T + 1)) ck)) ?_ 10000 (u5, u6, d) ⟨rfl, T + 1, w, by omega, by omega, h6, hR.rb, hL, NX.rf, by rw [Nat.sub_self]; exact hW8, fun z => ?_⟩
  · rintro K ⟨y2, y3, dd⟩ ⟨ea, p, w', hp, hpE, hy, hB, hSB, hNX, hM, hCK⟩ hK
    dsimp only at ea hy hB hCK hK ⊢
    subst ea
    unfold fX12_meansMacro_B19
    refine pc_gd (fun _ => pc_ob (fun r e => ?_))
    have := gq hS (e := 331) (by decide +kernel) e
    subst this
    refine pc_gd (fun _ => pc_gd (fun _ => ?_))
    have hkp : dI dd 331 y3.toNatClampNeg = KS t n p := by
      rw [tn hy]
      exact (hB.1.2.2.2 p (by omega)).1
    rw [hkp]
    refine pc_if (fun q => ?_) (fun q => ?_)
    · have hlt : p < E := by
        rcases Nat.lt_or_ge p E with z | z
        · exact z
        · exfalso
          have : p = E := by omega
          rw [this, hk4] at q
          exact absurd q (by decide)
      refine pc_ob (fun r e => ?_)
      have := gq hS (e := 337) (by decide +kernel) e
      subst this
      refine pc_gd (fun _ => pc_gd (fun _ => pc_bd (fun d19 e19 => ?_)))
      have B19 := hB.put e19
      refine pc_cb (within_x hS B19.1 B19.2.1 hy (by omega) hSB.lb) (fun u22 d20 r => pc_gd (fun _ => pc_bd (fun d24 e24 => pc_bd (fun u25 e25 => ?_))))
      obtain ⟨_, N20, f20⟩ := r
      have B20 := B19.wf f20 N20 NX.n
      have B24 := B20.put e24
      refine hK _ ⟨rfl, p + 1, nNu (VS t n) 1 200 p w', by omega, by omega, ?_, B24, hSB.lb.nns (Nat.lt_succ_self p), hNX.tr NX.n, ?_, fun z => ?_⟩
      · dsimp only
        rw [e25, z_add hy e1 (by omega) (by omega)]
        omega
      · rw [← hM, ← nw, show 8 - (p - (T + 1)) = 8 - (p + 1 - (T + 1)) + 1 by omega]
        exact (if_pos q).symm
      · have z' : w'.1 = 0 := NX.n.1 z
        have hC := hCK z'
        have y2i := h5 (hNX.1 z')
        have i0 : y2.toNatClampNeg = 316 + 9 * m := tn (by omega)
        have hcnt := hC.2.2.2.2.2.2
        rw [i0] at e19 e24
        have v19 : (dI d19 337 (316 + 9 * m)).toInt = ((p - (T + 1) : Nat) : Int) + 1 := by
          rw [e19, sI_rd, if_pos ⟨rfl, rfl⟩]
          exact z_add hcnt e1 (by omega) (by omega)
        have i1 : (y2 + dI d19 337 (316 + 9 * m)).toNatClampNeg = 316 + 9 * m + (p - (T + 1) + 1) := tn (by rw [z_add y2i v19 (by omega) (by omega)]; omega)
        rw [i1] at e24
        refine hC.f hm4 (fun j hj => ?_) hc4 ?_
        · rw [rdq e24 (Or.inr (by omega)), f20 337 j (by omega) (by decide), rdq e19 (Or.inr (by omega))]
        · rw [rdq e24 (Or.inr (by omega)), f20 337 _ (by omega) (by decide), v19]
          omega
    · have hpe : p = E := by
        rcases Nat.lt_or_ge p E with z | z
        · exact absurd (hk p hp z) q
        · omega
      have eW : w' = W := by
        rw [← hM]
        cases (8 - (p - (T + 1))) with
        | zero => rfl
        | succ k => exact (if_neg q).symm
      subst eW
      refine pc_ob (fun r e => ?_)
      have := gq hS (e := 337) (by decide +kernel) e
      subst this
      refine pc_gd (fun _ => pc_gd (fun _ => pc_bd (fun d15 e15 => pc_some ⟨(hB.put e15).rm (fun z => ?_), by rw [← hpe]; exact hSB⟩)))
      rw [n11] at e15
      obtain ⟨a, b, c1, d1, e, k, _⟩ := hCK z
      refine ⟨?_, ?_, ?_, ?_, fun j hj => ?_, fun i hi h4 => ?_⟩
      · rw [rdq e15 (Or.inr (by omega))]
        exact a
      · rw [rdq e15 (Or.inr (by omega))]
        exact b
      · rw [rdq e15 (Or.inr (by omega))]
        exact c1
      · rw [e15, sI_rd, if_pos ⟨rfl, rfl⟩, z_add d1 e1 (by omega) (by omega)]
        omega
      · rw [rdq e15 (Or.inr (by omega)), rdq e15 (Or.inr (by omega))]
        exact e j hj
      · rw [rdq e15 (Or.inr (by omega))]
        exact k i hi h4
  · obtain ⟨a, b, c1, d1, e, k⟩ := (hR.2.2.2.2 z).2
    refine ⟨a, b, c1, d1, e, fun i hi h4 => k i (by omega) h4, ?_⟩
    show (dI d 337 (316 + 9 * m)).toInt = ((T + 1 - (T + 1) : Nat) : Int)
    rw [k m (Nat.le_refl m) hm4, Nat.sub_self]
    decide
/-- a line -/
theorem meansLine_x {g : Gs} (hS : Shp g) {x : Int32} (hc4 : c ≤ 4) (hm4 : m ≤ 4) (hc : KS t n T = 29 → c < 4) (hm : KS t n T = 30 → m < 4) (hR : RM t n s d w c m ck) (hx : x.toInt = (T : Int)) (hl : lOK (KS t n) T E) (hE : E ≤ s) (hL : SB w T) : pc (fX12_meansLine 10000 g 328 x d) (fun _ d' => RM t n s d' (lNt (KS t n) (VS t n) c ck T w) (c + if KS t n T = 29 then 1 else 0) (m + if KS t n T = 30 then 1 else 0) (ckN (KS t n) (VS t n) T c ck) ∧ SB (lNt (KS t n) (VS t n) c ck T w) E) := by
  have e1 : (1 : Int32).toInt = 1 := by decide
  have e2 : (2 : Int32).toInt = 2 := by decide
  have hs := hR.1.1
  obtain ⟨l1, l2, l3, l4, l5, l6, l7, l8, l9⟩ := hl
  have x1 : (x + 1).toInt = ((T + 1 : Nat) : Int) := by rw [z_add hx e1 (by omega) (by omega)]; omega
  have x2 : (x + 2).toInt = ((T + 2 : Nat) : Int) := by rw [z_add hx e2 (by omega) (by omega)]; omega
  have S1 : SB w (T + 1) := hL.up (by omega)
  obtain ⟨k, hk⟩ : ∃ k, KS t n T = k := ⟨_, rfl⟩
  rw [hk] at l3 l4 l6 l7 l8 l9 hc hm
  have hkT : dI d 331 x.toNatClampNeg = k := by
    rw [tn hx, ← hk]
    exact (hR.1.2.2.2 T (by omega)).1
  have same : ∀ {w' : Int32 × Nat} {dd : Ds}, ¬ k = 29 → ¬ k = 30 → lNt (KS t n) (VS t n) c ck T w = w' → RM t n s dd w' c m ck → SB w' E → pc (fX12_meansLine_J219 10000 g 328 x dd) (fun _ d' => RM t n s d' (lNt (KS t n) (VS t n) c ck T w) (c + if KS t n T = 29 then 1 else 0) (m + if KS t n T = 30 then 1 else 0) (ckN (KS t n) (VS t n) T c ck) ∧ SB (lNt (KS t n) (VS t n) c ck T w) E) := by
    intro w' dd n29 n30 ew R S
    unfold fX12_meansLine_J219 ckN
    rw [hk, if_neg n29, if_neg n30, if_neg n29, ew]
    exact pc_some ⟨R, S⟩
  have flg : ∀ {j : Nat} {v : Int32}, k.toInt < 23 → ¬ (j = 0 ∨ j = 1 ∨ j = 10 ∨ j = 11 ∨ 300 ≤ j) → pc (bd (sI d 337 j v) fun d10 => fX12_meansLine_J219 10000 g 328 x d10) (fun _ d' => RM t n s d' (lNt (KS t n) (VS t n) c ck T w) (c + if KS t n T = 29 then 1 else 0) (m + if KS t n T = 30 then 1 else 0) (ckN (KS t n) (VS t n) T c ck) ∧ SB (lNt (KS t n) (VS t n) c ck T w) E) := by
    intro j v h1 h2
    refine pc_bd (fun d10 e10 => same (w' := w) ?_ ?_ ?_ (hR.put e10 h2) (hL.up (by omega)))
    · intro z
      rw [z] at h1
      exact absurd h1 (by decide)
    · intro z
      rw [z] at h1
      exact absurd h1 (by decide)
    · unfold lNt
      rw [hk, if_pos h1]
  have one : ∀ {j : Nat} {lo hi : Int32}, 23 ≤ k.toInt → ¬ k = 27 → ¬ k = 28 → ¬ k = 29 → ¬ k = 30 → wfv 0 (kk k) = lo → wfv 1 (kk k) = hi → ¬ (j = 0 ∨ j = 1 ∨ j = 10 ∨ j = 11 ∨ 300 ≤ j) → pc (cb (fX12_within 10000 g 328 (x + 1) lo hi d) fun u20 d18 => (gd (chk g 337 102) <| gd (¬ ((Int32.ofNat j) < 0 ∨ gL g 337 ≤ (Int32.ofNat j).toNatClampNeg)) <| bd (sI d18 337 j u20) fun d23 => (fX12_meansLine_J219 10000 g 328 x d23))) (fun _ d' => RM t n s d' (lNt (KS t n) (VS t n) c ck T w) (c + if KS t n T = 29 then 1 else 0) (m + if KS t n T = 30 then 1 else 0) (ckN (KS t n) (VS t n) T c ck) ∧ SB (lNt (KS t n) (VS t n) c ck T w) E) := by
    intro j lo hi h23 n27 n28 n29 n30 h1 h2 hj
    have := l6 h23
    refine pc_cb (within_x hS hR.1 hR.2.1 x1 (by omega) S1.lb) (fun u20 d18 r => pc_gd (fun _ => pc_gd (fun _ => pc_bd (fun d23 e23 => same n29 n30 ?_ ((hR.wf r.2.2 r.2.1 NX.n).put e23 hj) (S1.lb.nns (by omega))))))
    unfold lNt
    rw [hk, if_neg (by omega), if_neg n28, if_neg n29, if_neg n30, if_neg n27]
    exact nW_e h1 h2
  unfold fX12_meansLine
  refine pc_gd (fun _ => pc_ob (fun r e => ?_))
  have := gq hS (e := 331) (by decide +kernel) e
  subst this
  refine pc_gd (fun _ => pc_gd (fun _ => ?_))
  rw [hkT]
  have dfr : ∀ {α : Type} {f : Nat → Option (α × Ds)} {Q : α → Ds → Prop}, pc (f 337) Q → pc (ob (gR g 328 18) f) Q := by
    intro α f Q h
    refine pc_ob (fun r e => ?_)
    have := gq hS (e := 337) (by decide +kernel) e
    subst this
    exact h
  refine pc_if (fun q => ?_) (fun q0 => pc_if (fun q => ?_) (fun q1 => pc_if (fun q => ?_) (fun q2 => pc_if (fun q => ?_) (fun q3 => pc_if (fun q => ?_) (fun q4 => pc_if (fun q => ?_) (fun q5 => pc_if (fun q => ?_) (fun q6 => pc_if (fun q => ?_) (fun q7 => pc_if (fun q => ?_) (fun q8 => pc_if (fun q => ?_) (fun q9 => pc_if (fun q => ?_) (fun q10 => ?_)))))))))))
  · omega
  · exact dfr (pc_gd (fun _ => pc_gd (fun _ => flg (by rw [q]; decide) (by decide))))
  · exact dfr (pc_gd (fun _ => pc_gd (fun _ => flg (by rw [q]; decide) (by decide))))
  · exact dfr (one (j := 4) (by rw [q]; decide) (by rw [q]; decide) (by rw [q]; decide) (by rw [q]; decide) (by rw [q]; decide) (by rw [q]; decide +kernel) (by rw [q]; decide +kernel) (by decide))
  · exact dfr (one (j := 5) (by rw [q]; decide) (by rw [q]; decide) (by rw [q]; decide) (by rw [q]; decide) (by rw [q]; decide) (by rw [q]; decide +kernel) (by rw [q]; decide +kernel) (by decide))
  · exact dfr (one (j := 6) (by rw [q]; decide) (by rw [q]; decide) (by rw [q]; decide) (by rw [q]; decide) (by rw [q]; decide) (by rw [q]; decide +kernel) (by rw [q]; decide +kernel) (by decide))
  · exact dfr (one (j := 7) (by rw [q]; decide) (by rw [q]; decide) (by rw [q]; decide) (by rw [q]; decide) (by rw [q]; decide) (by rw [q]; decide +kernel) (by rw [q]; decide +kernel) (by decide))
  · have h3 := l7 q
    refine dfr (pc_cb (within_x hS hR.1 hR.2.1 x1 (by omega) S1.lb) (fun u52 d50 r => pc_gd (fun _ => pc_gd (fun _ => pc_bd (fun d55 e55 => ?_)))))
    have R55 := (hR.wf r.2.2 r.2.1 NX.n).put e55 (by decide)
    have S55 : SB (nNu (VS t n) 1 99 (T + 1) w) (T + 2) := S1.lb.nns (by omega)
    unfold fX12_meansLine_J175
    refine pc_gd (fun _ => dfr (pc_cb (within_x hS R55.1 R55.2.1 x2 (by omega) S55.lb) (fun u60 d58 r => pc_gd (fun _ => pc_gd (fun _ => pc_bd (fun d63 e63 => same (by rw [q]; decide) (by rw [q]; decide) ?_ ((R55.wf r.2.2 r.2.1 NX.n).put e63 (by decide)) (S55.lb.nns (by omega))))))))
    unfold lNt
    rw [hk, q, if_neg (by decide), if_neg (by decide), if_neg (by decide), if_neg (by decide), if_pos rfl, nW_e (k := 27) (lo := 1) (hi := 99) (by decide +kernel) (by decide +kernel)]
  · refine pc_cv (meansKey_x hS hR hx (l8 (Or.inl q)) hE S1) (fun d65 r => same (by rw [q]; decide) (by rw [q]; decide) ?_ r.1 r.2)
    unfold lNt
    rw [hk, q, if_neg (by decide), if_pos rfl, nW_e (k := 28) (lo := 0) (hi := 3) (by decide +kernel) (by decide +kernel)]
  · refine pc_cv (meansChord_x hS (hc q) hR hx (l8 (Or.inr q)) hE S1) (fun d68 r => ?_)
    unfold fX12_meansLine_J219 ckN lNt
    rw [hk, q, if_pos rfl, if_neg (show ¬ (29 : Int32) = 30 by decide), if_pos rfl, if_neg (show ¬ (29 : Int32).toInt < 23 by decide), if_neg (show ¬ (29 : Int32) = 28 by decide), if_pos rfl]
    exact pc_some r
  · obtain ⟨a1, a2, a3⟩ := l9 q
    refine pc_cv (meansMacro_x hS hc4 (hm q) hR hx a1 a2 a3 l2 hE S1) (fun d71 r => ?_)
    unfold fX12_meansLine_J219 ckN lNt
    rw [hk, q, if_neg (show ¬ (30 : Int32) = 29 by decide), if_pos rfl, if_neg (show ¬ (30 : Int32) = 29 by decide), if_neg (show ¬ (30 : Int32).toInt < 23 by decide), if_neg (show ¬ (30 : Int32) = 28 by decide), if_neg (show ¬ (30 : Int32) = 29 by decide), if_pos rfl, nW_e (k := 30) (lo := 1) (hi := 200) (by decide +kernel) (by decide +kernel)]
    exact pc_some r
  · exact absurd (no10 q0 q1 q2 q3 q4 q5 q6 q7 q8 q9 q10) id
end MAX
section MNS
variable {t : Nat → Int32} {n s : Nat} {d : Ds}
theorem begins_x {g : Gs} : pc (fX12_begins 10000 g 337 d) (fun _ d' => (∀ r i, ¬ r = 337 → dI d' r i = dI d r i) ∧ ∀ j, j = 10 ∨ j = 11 ∨ 300 ≤ j → j < 352 → dI d' 337 j = 0) := by
  have e1 : (1 : Int32).toInt = 1 := by decide
  have e2 : (2 : Int32).toInt = 2 := by decide
  have e3 : (3 : Int32).toInt = 3 := by decide
  have e12 : (12 : Int32).toInt = 12 := by decide
  have e96 : (96 : Int32).toInt = 96 := by decide
  have e352 : (352 : Int32).toInt = 352 := by decide
  unfold fX12_begins fX12_begins_L2
  refine pc_lp (fun (a : Int32 × Ds) => ∃ k : Nat, k ≤ 352 ∧ a.1.toInt = (k : Int) ∧ (∀ r i, ¬ r = 337 → dI a.2 r i = dI d r i) ∧ ∀ j, j < k → dI a.2 337 j = 0) ?_ 10000 (0, d) ⟨0, by decide, (by decide : (0 : Int32).toInt = ((0 : Nat) : Int)), fun _ _ _ => rfl, fun j hj => absurd hj (Nat.not_lt_zero _)⟩
  rintro K ⟨y1, dd⟩ ⟨k, hk, hy, hf, hz⟩ hK
  dsimp only at hy hf hz hK ⊢
  unfold fX12_begins_B2
  refine pc_if (fun q => ?_) (fun q => ?_)
  · have q2 := Int32.le_iff_toInt_le.mp q
    refine pc_gd (fun _ => pc_gd (fun _ => pc_bd (fun d4 e4 => pc_gd (fun _ => pc_bd (fun d6 e6 => pc_gd (fun _ => pc_bd (fun d8 e8 => pc_gd (fun _ => pc_bd (fun d10 e10 => pc_gd (fun _ => pc_bd (fun d12 e12' => pc_gd (fun _ => pc_bd (fun d14 e14 => ?_)))))))))))))
    have f14 : ∀ r i, ¬ r = 337 → dI d14 r i = dI d r i := fun r i h => by rw [rdq e14 (Or.inl h), rdq e12' (Or.inl h), rdq e10 (Or.inl h), rdq e8 (Or.inl h), rdq e6 (Or.inl h), rdq e4 (Or.inl h)]; exact hf r i h
    have z14 : ∀ j, j = 10 ∨ j = 11 ∨ 300 ≤ j → j < 352 → dI d14 337 j = 0 := fun j hj h3 => by
      have nn : ∀ {x : Int32} {p : Nat}, x.toInt = (p : Int) → p < 10 → ¬ j = x.toNatClampNeg := fun hx hp => by rw [tn hx]; omega
      rw [rdq e14 (Or.inr (nn (p := 9) (by decide) (by decide))), rdq e12' (Or.inr (nn (p := 8) (by decide) (by decide))), rdq e10 (Or.inr (nn (p := 7) (by decide) (by decide))), rdq e8 (Or.inr (nn (p := 6) (by decide) (by decide))), rdq e6 (Or.inr (nn (p := 5) (by decide) (by decide))), rdq e4 (Or.inr (nn (p := 4) (by decide) (by decide)))]
      exact hz j (by omega)
    unfold fX12_begins_L52
    refine pc_lp (fun (a : Int32 × Ds) => ∃ k : Nat, k ≤ 96 ∧ a.1.toInt = (k : Int) ∧ (∀ r i, ¬ r = 337 → dI a.2 r i = dI d r i) ∧ ∀ j, j = 10 ∨ j = 11 ∨ 300 ≤ j → j < 352 → dI a.2 337 j = 0) ?_ 10000 (0, d14) ⟨0, by decide, (by decide : (0 : Int32).toInt = ((0 : Nat) : Int)), f14, z14⟩
    rintro K2 ⟨y, de⟩ ⟨k2, hk2, hy2, hf2, hz2⟩ hK2
    dsimp only at hy2 hf2 hz2 hK2 ⊢
    unfold fX12_begins_B52
    refine pc_if (fun _ => pc_some ⟨hf2, hz2⟩) (fun q3 => ?_)
    have q4 := Int32.lt_iff_toInt_lt.mp (nle q3)
    have m3 := z_mul (x := 3) (y := y) e3 hy2 (by omega) (by omega)
    have a12 := z_add (x := 12) (y := 3 * y) e12 m3 (by omega) (by omega)
    have i0 : ((12 : Int32) + ((3 : Int32) * y)).toNatClampNeg = 12 + 3 * k2 := tn (by rw [a12]; omega)
    have i1 : (((12 : Int32) + ((3 : Int32) * y)) + 1).toNatClampNeg = 12 + 3 * k2 + 1 := tn (by rw [z_add a12 e1 (by omega) (by omega)]; omega)
    have i2 : (((12 : Int32) + ((3 : Int32) * y)) + 2).toNatClampNeg = 12 + 3 * k2 + 2 := tn (by rw [z_add a12 e2 (by omega) (by omega)]; omega)
    have j76 : ∀ {v : Int32}, pc (fX12_begins_J76 10000 g 337 K2 y v ((12 : Int32) + ((3 : Int32) * y)) 337 de) (fun _ d' => (∀ r i, ¬ r = 337 → dI d' r i = dI d r i) ∧ ∀ j, j = 10 ∨ j = 11 ∨ 300 ≤ j → j < 352 → dI d' 337 j = 0) := by
      intro v
      unfold fX12_begins_J76
      refine pc_gd (fun _ => pc_gd (fun _ => pc_bd (fun d19 e19 => pc_gd (fun _ => pc_gd (fun _ => pc_bd (fun d22 e22 => pc_gd (fun _ => pc_bd (fun d24 e24 => pc_bd (fun u25 e25 => ?_)))))))))
      rw [i0] at e19
      rw [i1] at e22
      rw [i2] at e24
      refine hK2 _ ⟨k2 + 1, by omega, ?_, fun r i h => ?_, fun j hj h3 => ?_⟩
      · dsimp only
        rw [e25, z_add hy2 e1 (by omega) (by omega)]
        omega
      · dsimp only
        rw [rdq e24 (Or.inl h), rdq e22 (Or.inl h), rdq e19 (Or.inl h)]
        exact hf2 r i h
      · dsimp only
        rw [rdq e24 (Or.inr (by omega)), rdq e22 (Or.inr (by omega)), rdq e19 (Or.inr (by omega))]
        exact hz2 j hj h3
    exact pc_if (fun _ => j76) (fun _ => j76)
  · have q2 := Int32.lt_iff_toInt_lt.mp (nle q)
    refine pc_gd (fun _ => pc_gd (fun _ => pc_bd (fun d28 e28 => pc_bd (fun u29 e29 => hK _ ⟨k + 1, by omega, ?_, fun r i h => ?_, fun j hj => ?_⟩))))
    · dsimp only
      rw [e29, z_add hy e1 (by omega) (by omega)]
      omega
    · dsimp only
      rw [rdq e28 (Or.inl h)]
      exact hf r i h
    · dsimp only
      rw [tn hy] at e28
      rw [e28, sI_rd]
      by_cases z : j = k
      · rw [if_pos ⟨rfl, z⟩]
      · rw [if_neg (fun y => z y.2)]
        exact hz j (by omega)
theorem KS_nz {i : Nat} (h : ps t n i < n) : ¬ KS t n i = 0 := by
  have e0 : (0 : Int32).toInt = 0 := by decide
  intro z
  have := (kdc_c (t := t) (n := n) (p := ps t n i)).2.2.2
  unfold KS at z
  rw [if_pos h] at z
  rw [z, e0] at this
  omega
theorem sx_gs {K : Nat → Int32} (i : Nat) : GS K (sx K i).1 := (sx_cg (K := K) (K' := K) (fun _ _ _ => rfl) i).2
/-- what a good text means -/
theorem means_x {g : Gs} (hS : Shp g) {ie : Nat} (hM : MTk t n s d) (hse : ¬ ps t n s < n) (h12 : dI d 328 12 = 0) (h14 : dI d 328 14 = 0) (hst : stp2 (KS t n) (sx (KS t n) ie)) (hgd : (sx (KS t n) ie).1.2 = 0) : pc (fX12_means 10000 g 328 d) (fun _ d' => NM t n d' (sm (KS t n) (VS t n) ie).1 ∧ ((sm (KS t n) (VS t n) ie).1.1 = 0 ∨ 0 < (sm (KS t n) (VS t n) ie).1.1.toInt)) := by
  have e1 : (1 : Int32).toInt = 1 := by decide
  have e2 : (2 : Int32).toInt = 2 := by decide
  have e4 : (4 : Int32).toInt = 4 := by decide
  have n0 : (0 : Int32).toNatClampNeg = 0 := by decide
  have n1 : (1 : Int32).toNatClampNeg = 1 := by decide
  have hs := hM.1
  have kS : KS t n s = 0 := by unfold KS; rw [if_neg hse]
  have good : ∀ i, (sx (KS t n) i).1.2 = 0 := by
    intro i
    by_cases z : (sx (KS t n) i).1.2 = 0
    · exact z
    · have := sx_un (K := KS t n) (i := i) (j := ie) (fun y => z y.1) hst
      rw [this]
      exact hgd
  have le_s : ∀ i, (sx (KS t n) i).1.1 ≤ s := by
    intro i
    rcases Nat.lt_or_ge s (sx (KS t n) i).1.1 with z | z
    · exact absurd kS ((sx_gs i (good i)).2 s z)
    · exact z
  -- the board
  have g0 := good 0
  have b0 : (sx (KS t n) 0).1 = (4, 0) ∧ KS t n 3 = 4 := by
    have h4 : (mS (KS t n) 4 (mS (KS t n) 2 (mS (KS t n) 2 (mS (KS t n) 20 (0, 0))))).2 = 0 := g0
    have h3 := mS_0 h4
    have h2 := mS_0 h3
    have h1 := mS_0 h2
    obtain ⟨a1, a2, _⟩ := mS_ok h1
    show mS (KS t n) 4 (mS (KS t n) 2 (mS (KS t n) 2 (mS (KS t n) 20 (0, 0)))) = (4, 0) ∧ _
    rw [a1] at h2 h3 h4 ⊢
    obtain ⟨b1, b2, _⟩ := mS_ok h2
    rw [b1] at h3 h4 ⊢
    obtain ⟨c1, c2, _⟩ := mS_ok h3
    rw [c1] at h4 ⊢
    obtain ⟨d1, d2, _⟩ := mS_ok h4
    exact ⟨d1, d2⟩
  have s4 : 4 ≤ s := by
    have := le_s 0
    rw [b0.1] at this
    exact this
  unfold fX12_means
  refine pc_gd (fun _ => pc_ob (fun r e => ?_))
  have := gq hS (e := 337) (by decide +kernel) e
  subst this
  refine pc_cv begins_x (fun d3 r => ?_)
  obtain ⟨f3, z3⟩ := r
  have M3 : MTk t n s d3 := ⟨hM.1, hM.2.1, by rw [f3 328 10 (by decide)]; exact hM.2.2.1, fun j hj => by
    rw [f3 331 j (by decide), f3 332 j (by decide), f3 333 j (by decide)]
    exact hM.2.2.2 j hj⟩
  have N3 : NM t n d3 (0, 0) := ⟨by rw [f3 328 12 (by decide)]; exact h12, by rw [f3 328 14 (by decide)]; exact h14, fun z => absurd rfl z⟩
  refine pc_cb (within_x (T := 1) hS M3 N3 e1 (by omega) (Or.inl rfl)) (fun u7 d5 r => pc_gd (fun _ => pc_gd (fun _ => pc_bd (fun d10 e10 => ?_))))
  obtain ⟨v5, N5, f5⟩ := r
  rw [n0] at e10
  have N10 := N5.i e10 (by omega)
  have g10 : ∀ r i, ¬ r = 337 → dI d10 r i = dI d5 r i := fun r i h => rdq e10 (Or.inl h)
  have M5 := M3.wf f5
  have M10 : MTk t n s d10 := ⟨M5.1, M5.2.1, by rw [g10 328 10 (by decide)]; exact M5.2.2.1, fun j hj => by
    rw [g10 331 j (by decide), g10 332 j (by decide), g10 333 j (by decide)]
    exact M5.2.2.2 j hj⟩
  have L10 : LB (nNu (VS t n) 1 4 1 (0, 0)) 2 5 := (LB.nns (T := 1) (Or.inl rfl) (by decide)).lb
  refine pc_cb (within_x (T := 2) hS M10 N10 e2 (by omega) L10) (fun u13 d11 r => pc_gd (fun _ => pc_bd (fun d15 e15 => ?_)))
  obtain ⟨v11, N11, f11⟩ := r
  rw [n1] at e15
  have N15 := N11.i e15 (by omega)
  have g15 : ∀ r i, ¬ r = 337 → dI d15 r i = dI d11 r i := fun r i h => rdq e15 (Or.inl h)
  have M11 := M10.wf f11
  have M15 : MTk t n s d15 := ⟨M11.1, M11.2.1, by rw [g15 328 10 (by decide)]; exact M11.2.2.1, fun j hj => by
    rw [g15 331 j (by decide), g15 332 j (by decide), g15 333 j (by decide)]
    exact M11.2.2.2 j hj⟩
  have ew0 : (sm (KS t n) (VS t n) 0).1 = nNu (VS t n) 1 6 2 (nNu (VS t n) 1 4 1 (0, 0)) := rfl
  rw [← ew0] at N15
  have C15 : CKM (VS t n) d15 0 0 (sm (KS t n) (VS t n) 0).2 := by
    have fz : ∀ j, j = 10 ∨ j = 11 ∨ 300 ≤ j → j < 352 → dI d15 337 j = 0 := fun j hj h3 => by
      rw [rdq e15 (Or.inr (by omega)), f11 337 j (by omega) (by decide), rdq e10 (Or.inr (by omega)), f5 337 j (by omega) (by decide)]
      exact z3 j hj h3
    refine ⟨?_, ?_, ?_, ?_, fun j hj => absurd hj (Nat.not_lt_zero _), fun i _ h4 => fz _ (by omega) (by omega)⟩
    · rw [rdq e15 (Or.inr (by decide)), f11 337 0 (by decide) (by decide), e10, sI_rd, if_pos ⟨rfl, rfl⟩]
      exact v5
    · rw [e15, sI_rd, if_pos ⟨rfl, rfl⟩]
      exact v11
    · rw [fz 10 (by omega) (by omega)]
      rfl
    · rw [fz 11 (by omega) (by omega)]
      rfl
  have B15 : (sm (KS t n) (VS t n) 0).1.1 = 0 → BR (VS t n) := by
    intro z
    rw [ew0] at z
    obtain ⟨z1, z2⟩ := nNu_0 z
    obtain ⟨_, z4⟩ := nNu_0 z1
    have a1 : (1 : Int32).toInt = 1 := by decide
    have a6 : (6 : Int32).toInt = 6 := by decide
    rw [a1, a6] at z2
    rw [a1, e4] at z4
    exact ⟨⟨by omega, by omega⟩, by omega, by omega⟩
  have P15 : (sm (KS t n) (VS t n) 0).1.1 = 0 ∨ 0 < (sm (KS t n) (VS t n) 0).1.1.toInt := (NX.n.tr NX.n).2 (Or.inl rfl)
  have S15 : SB (sm (KS t n) (VS t n) 0).1 4 := by
    rw [ew0]
    exact (LB.nns (T := 2) L10 (by decide)).up (by decide : 3 ≤ 4)
  -- the lines
  have j47 : ∀ {z0 : Int32}, (z0 = 0 → ¬ (sm (KS t n) (VS t n) 0).1.1 = 0) → pc (fX12_means_J47 10000 g 328 z0 328 d15) (fun _ d' => NM t n d' (sm (KS t n) (VS t n) ie).1 ∧ ((sm (KS t n) (VS t n) ie).1.1 = 0 ∨ 0 < (sm (KS t n) (VS t n) ie).1.1.toInt)) := by
    intro z0 hz0
    unfold fX12_means_J47
    refine pc_gd (fun _ => pc_gd (fun _ => pc_bd (fun d19 e19 => ?_)))
    have g19 : ∀ r i, ¬ (r = 328 ∧ i = 22) → dI d19 r i = dI d15 r i := fun r i h => by rw [e19, sI_rd, if_neg h]
    have R19 : RM t n s d19 (sm (KS t n) (VS t n) 0).1 0 0 (sm (KS t n) (VS t n) 0).2 := by
      refine ⟨⟨M15.1, M15.2.1, by rw [g19 328 10 (by decide)]; exact M15.2.2.1, fun j hj => ?_⟩, N15.i e19 (by decide), fun z => hz0 ?_, P15, fun z => ⟨B15 z, C15.wf (fun j _ => g19 337 j (by omega))⟩⟩
      · rw [g19 331 j (by omega), g19 332 j (by omega), g19 333 j (by omega)]
        exact M15.2.2.2 j hj
      · rw [e19, sI_rd, if_pos ⟨rfl, rfl⟩] at z
        exact z
    unfold fX12_means_L52
    refine pc_lp (fun (a : Int32 × Ds) => ∃ k i : Nat, 4 ≤ k ∧ a.1.toInt = (k : Int) ∧ RM t n s a.2 (sm (KS t n) (VS t n) i).1 (sx (KS t n) i).2.1 (sx (KS t n) i).2.2 (sm (KS t n) (VS t n) i).2 ∧ (k = s + 1 ∧ stp2 (KS t n) (sx (KS t n) i) ∨ k ≤ (sx (KS t n) i).1.1 ∧ (∀ j, k ≤ j → j < (sx (KS t n) i).1.1 → ¬ KS t n (j - 1) = 4) ∧ KS t n ((sx (KS t n) i).1.1 - 1) = 4 ∧ SB (sm (KS t n) (VS t n) i).1 (sx (KS t n) i).1.1)) ?_ 10000 (4, d19) ⟨4, 0, by decide, e4, R19, Or.inr ⟨by rw [b0.1]; exact Nat.le_refl 4, fun j j1 j2 => by rw [b0.1] at j2; dsimp only at j2; omega, by rw [b0.1]; exact b0.2, by rw [b0.1]; exact S15⟩⟩
    rintro K ⟨y1, dd⟩ ⟨k, i, hk4, hy, hR, hh⟩ hK
    dsimp only at hy hR hK ⊢
    have h10 := hR.1.2.2.1
    unfold fX12_means_B52
    refine pc_gd (fun _ => pc_if (fun q => ?_) (fun q => pc_ob (fun r e => ?_)))
    · have q2 := Int32.le_iff_toInt_le.mp q
      rcases hh with ⟨hh, hstp⟩ | ⟨hh, _⟩
      · have e := sx_un (K := KS t n) hstp hst
        have es : sm (KS t n) (VS t n) i = sm (KS t n) (VS t n) ie := by
          rcases Nat.le_total i ie with z | z
          · have a := sm_st (V := VS t n) hstp (ie - i)
            rw [show i + (ie - i) = ie by omega] at a
            exact a.symm
          · have a := sm_st (V := VS t n) hst (i - ie)
            rw [show ie + (i - ie) = i by omega] at a
            exact a
        rw [es] at hR
        exact pc_some ⟨hR.2.1, hR.2.2.2.1⟩
      · have := le_s i
        omega
    · have q2 := Int32.lt_iff_toInt_lt.mp (nle q)
      have := gq hS (e := 331) (by decide +kernel) e
      subst this
      have ym : (y1 - 1).toInt = ((k - 1 : Nat) : Int) := by rw [z_sub hy e1 (by omega) (by omega)]; omega
      have kk1 : dI dd 331 (y1 - 1).toNatClampNeg = KS t n (k - 1) := by
        rw [tn ym]
        exact (hR.1.2.2.2 (k - 1) (by omega)).1
      rw [kk1]
      have nx : ∀ {de : Ds} {i' : Nat}, RM t n s de (sm (KS t n) (VS t n) i').1 (sx (KS t n) i').2.1 (sx (KS t n) i').2.2 (sm (KS t n) (VS t n) i').2 → (k + 1 = s + 1 ∧ stp2 (KS t n) (sx (KS t n) i') ∨ k + 1 ≤ (sx (KS t n) i').1.1 ∧ (∀ j, k + 1 ≤ j → j < (sx (KS t n) i').1.1 → ¬ KS t n (j - 1) = 4) ∧ KS t n ((sx (KS t n) i').1.1 - 1) = 4 ∧ SB (sm (KS t n) (VS t n) i').1 (sx (KS t n) i').1.1) → pc (fX12_means_J77 10000 g 328 K y1 de) (fun _ d' => NM t n d' (sm (KS t n) (VS t n) ie).1 ∧ ((sm (KS t n) (VS t n) ie).1.1 = 0 ∨ 0 < (sm (KS t n) (VS t n) ie).1.1.toInt)) := by
        intro de i' R h
        unfold fX12_means_J77
        refine pc_bd (fun u e => hK _ ⟨k + 1, i', by omega, ?_, R, h⟩)
        dsimp only
        rw [e, z_add hy e1 (by omega) (by omega)]
        omega
      refine pc_gd (fun _ => pc_gd (fun _ => pc_if (fun q4 => ?_) (fun q4 => ?_)))
      · have hkp : k = (sx (KS t n) i).1.1 ∧ SB (sm (KS t n) (VS t n) i).1 (sx (KS t n) i).1.1 := by
          rcases hh with ⟨hh, _⟩ | ⟨h1, h2, h3, h4⟩
          · omega
          · refine ⟨?_, h4⟩
            rcases Nat.lt_or_ge k (sx (KS t n) i).1.1 with z | z
            · exact absurd q4 (h2 k (Nat.le_refl k) z)
            · omega
        obtain ⟨hkp, hSB⟩ := hkp
        by_cases kz : KS t n k = 0
        · have hks : k = s := by
            have h1 := le_s i
            rcases Nat.lt_or_ge k s with z | z
            · exact absurd kz (KS_nz (hM.2.1 k z))
            · omega
          have line0 : pc (fX12_meansLine 10000 g 328 y1 dd) (fun _ d' => d' = dd) := by
            unfold fX12_meansLine
            refine pc_gd (fun _ => pc_ob (fun r e => ?_))
            have := gq hS (e := 331) (by decide +kernel) e
            subst this
            have kk0 : dI dd 331 y1.toNatClampNeg = 0 := by
              rw [tn hy, (hR.1.2.2.2 k (by omega)).1]
              exact kz
            rw [kk0]
            refine pc_gd (fun _ => pc_gd (fun _ => pc_if (fun _ => ?_) (fun z => absurd (Or.inl (by decide)) z)))
            unfold fX12_meansLine_J219
            exact pc_some rfl
          refine pc_cv line0 (fun d27 r => ?_)
          subst r
          exact nx hR (Or.inl ⟨by omega, fun z => z.2 (by rw [← hkp]; exact kz)⟩)
        · have ex : sx (KS t n) (i + 1) = (tS (KS t n) (sx (KS t n) i).2.1 (sx (KS t n) i).2.2 (sx (KS t n) i).1.1, (sx (KS t n) i).2.1 + (if KS t n (sx (KS t n) i).1.1 = 29 then 1 else 0), (sx (KS t n) i).2.2 + (if KS t n (sx (KS t n) i).1.1 = 30 then 1 else 0)) := if_pos ⟨good i, by rw [← hkp]; exact kz⟩
          have em : sm (KS t n) (VS t n) (i + 1) = (lNt (KS t n) (VS t n) (sx (KS t n) i).2.1 (sm (KS t n) (VS t n) i).2 (sx (KS t n) i).1.1 (sm (KS t n) (VS t n) i).1, ckN (KS t n) (VS t n) (sx (KS t n) i).1.1 (sx (KS t n) i).2.1 (sm (KS t n) (VS t n) i).2) := if_pos ⟨good i, by rw [← hkp]; exact kz⟩
          have gT : (tS (KS t n) (sx (KS t n) i).2.1 (sx (KS t n) i).2.2 (sx (KS t n) i).1.1).2 = 0 := by
            have := good (i + 1)
            rw [ex] at this
            exact this
          obtain ⟨E, hE, hl⟩ := tS_ok (K := KS t n) (T' := (tS (KS t n) (sx (KS t n) i).2.1 (sx (KS t n) i).2.2 (sx (KS t n) i).1.1).1) (Prod.ext rfl gT)
          have nfull := (tS_gt gT).2.2.1
          obtain ⟨c4, m4⟩ := sx_c i (good i)
          have pE : (sx (KS t n) (i + 1)).1.1 = E + 1 := by rw [ex]; exact hE
          have Es := le_s (i + 1)
          rw [pE] at Es
          rw [hkp] at hy
          refine pc_cv (meansLine_x hS c4 m4 (fun z => ?_) (fun z => ?_) hR hy hl (by omega) hSB) (fun d27 r => nx (i' := i + 1) ?_ (Or.inr ⟨?_, fun j j1 j2 => ?_, ?_, ?_⟩))
          · have : ¬ (sx (KS t n) i).2.1 = 4 := fun y => nfull (Or.inl ⟨z, y⟩)
            omega
          · have : ¬ (sx (KS t n) i).2.2 = 4 := fun y => nfull (Or.inr ⟨z, y⟩)
            omega
          · rw [ex, em]
            exact r.1
          · rw [pE]
            have := hl.1
            omega
          · rw [pE] at j2
            exact (hl.2.2.2.2.1 (j - 1) (by omega) (by omega)).1
          · rw [pE]
            exact hl.2.1
          · rw [pE, em]
            exact r.2.up (by omega)
      · rcases hh with ⟨hh, _⟩ | ⟨h1, h2, h3, h4⟩
        · omega
        · have hlt : k < (sx (KS t n) i).1.1 := by
            rcases Nat.lt_or_ge k (sx (KS t n) i).1.1 with z | z
            · exact z
            · exfalso
              have : k = (sx (KS t n) i).1.1 := by omega
              rw [this] at q4
              exact q4 h3
          exact nx hR (Or.inr ⟨hlt, fun j j1 j2 => h2 j (by omega) j2, h3, h4⟩)
  refine pc_if (fun q => j47 (fun z => absurd z (by decide))) (fun q => j47 (fun _ => ?_))
  rw [← N15.2.1]
  exact q
end MNS
theorem nar_by {c : Int32} (h : byr c) : vp_nar .byte c = c := by
  have all : ∀ k : Nat, k < 256 → vp_nar .byte (Int32.ofInt ((k : Int) - 128)) = Int32.ofInt ((k : Int) - 128) := by decide +kernel
  have h1 := h.1
  have h2 := h.2
  have e : c = Int32.ofInt (((c.toInt + 128).toNat : Int) - 128) := by
    rw [show (((c.toInt + 128).toNat : Nat) : Int) - 128 = c.toInt by omega, Int32.ofInt_toInt]
  have := all (c.toInt + 128).toNat (by omega)
  rw [← e] at this
  exact this
theorem pc_true {α : Type} {x : Option (α × Ds)} : pc x (fun _ _ => True) := fun _ _ _ => trivial
section RDX
variable {t : Nat → Int32} {n s : Nat} {d : Ds}
theorem read183_x {g : Gs} {Q : Int32 → Ds → Prop} (h : ∀ d', Q 0 d') : pc (fX12_read_L183 10000 g 328 (0, d)) Q := by
  unfold fX12_read_L183
  refine pc_lp (fun _ => True) ?_ 10000 (0, d) trivial
  rintro K ⟨y1, dd⟩ _ hK
  unfold fX12_read_B183
  refine pc_if (fun _ => pc_gd (fun _ => pc_cv pc_true (fun d35 _ => ?_))) (fun _ => pc_gd (fun _ => pc_ob (fun r45 _ => pc_ob (fun r46 _ => pc_gd (fun _ => pc_gd (fun _ => pc_gd (fun _ => pc_gd (fun _ => pc_bd (fun d51 _ => pc_bd (fun u52 _ => hK _ trivial))))))))))
  unfold fX12_read_L214
  refine pc_lp (fun _ => True) ?_ 10000 (0, d35) trivial
  rintro K ⟨y1, dd⟩ _ hK
  unfold fX12_read_B214
  exact pc_if (fun _ => pc_some (h dd)) (fun _ => pc_gd (fun _ => pc_ob (fun r39 _ => pc_gd (fun _ => pc_gd (fun _ => pc_bd (fun d42 _ => pc_bd (fun u43 _ => hK _ trivial)))))))
/-- the model's verdict -/
theorem read_x {g : Gs} (hS : Shp g) (ht : ∀ j, j < n → dI d 329 j = t j) (hb : ∀ j, byr (t j)) (hn : (dI d 328 2).toInt = (n : Int)) (h2 : n ≤ 2000) (hKL : KL d) : pc (fX12_read 10000 g 328 d) (fun u _ => ∃ i, stp2 (KS t n) (sx (KS t n) i) ∧ u = (vd (KS t n) (VS t n) i).1) := by
  have e1 : (1 : Int32).toInt = 1 := by decide
  have e0 : (0 : Int32).toInt = 0 := by decide
  unfold fX12_read
  refine pc_gd (fun _ => pc_bd (fun d2 e2 => ?_))
  unfold fX12_read_L10
  refine pc_lp (fun (a : Int32 × Ds) => ∃ k : Nat, k ≤ n ∧ a.1.toInt = (k : Int) ∧ (dI a.2 328 4).toInt = (n : Int) ∧ (∀ j, j < n → dI a.2 329 j = t j) ∧ (∀ j, j < k → dI a.2 330 j = t j) ∧ KL a.2) ?_ 10000 (0, d2) ⟨0, Nat.zero_le _, (by decide : (0 : Int32).toInt = ((0 : Nat) : Int)), ?_, fun j hj => ?_, fun j hj => absurd hj (Nat.not_lt_zero _), ?_⟩
  · rintro K ⟨y1, dd⟩ ⟨k, hk, hy, h4, h329, h330, hKd⟩ hK
    dsimp only at hy h4 h329 h330 hKd hK ⊢
    unfold fX12_read_B10
    refine pc_gd (fun _ => pc_if (fun q => ?_) (fun q => ?_))
    · have q2 := Int32.le_iff_toInt_le.mp q
      have kn : k = n := by omega
      subst kn
      refine pc_bd (fun d5 e5 => ?_)
      have hc := cutsText_e (t := t) hS hb (n := k) (d := d5) h2 (by rw [rdq e5 (Or.inr (by decide))]; exact h4) (fun j hj => by rw [rdq e5 (Or.inl (by decide))]; exact h330 j hj) (by rw [e5]; exact hKd)
      refine pc_cv hc (fun d6 hMT => ?_)
      refine pc_bd (fun d8 e8 => pc_bd (fun d9 e9 => pc_bd (fun d10 e10 => pc_bd (fun d11 e11 => pc_bd (fun d12 e12 => ?_)))))
      have f12 : ∀ r j, ¬ (r = 328 ∧ (j = 11 ∨ j = 12 ∨ j = 14 ∨ j = 20 ∨ j = 21)) → dI d12 r j = dI d6 r j := by
        intro r j h
        rw [e12, sI_rd, if_neg (fun z => h ⟨z.1, by omega⟩), e11, sI_rd, if_neg (fun z => h ⟨z.1, by omega⟩), e10, sI_rd, if_neg (fun z => h ⟨z.1, by omega⟩), e9, sI_rd, if_neg (fun z => h ⟨z.1, by omega⟩), e8, sI_rd, if_neg (fun z => h ⟨z.1, by omega⟩)]
      have v11 : dI d12 328 11 = 0 := by rw [rdq e12 (Or.inr (by decide)), rdq e11 (Or.inr (by decide)), rdq e10 (Or.inr (by decide)), rdq e9 (Or.inr (by decide)), e8, sI_rd, if_pos ⟨rfl, rfl⟩]
      have v12 : dI d12 328 12 = 0 := by rw [rdq e12 (Or.inr (by decide)), rdq e11 (Or.inr (by decide)), rdq e10 (Or.inr (by decide)), e9, sI_rd, if_pos ⟨rfl, rfl⟩]
      have v14 : dI d12 328 14 = 0 := by rw [rdq e12 (Or.inr (by decide)), rdq e11 (Or.inr (by decide)), e10, sI_rd, if_pos ⟨rfl, rfl⟩]
      have v20 : dI d12 328 20 = 0 := by rw [rdq e12 (Or.inr (by decide)), e11, sI_rd, if_pos ⟨rfl, rfl⟩]
      have v21 : dI d12 328 21 = 0 := by rw [e12, sI_rd, if_pos ⟨rfl, rfl⟩]
      have tk12 : tk d12 = tk d6 := funext (fun j => f12 331 j (fun z => absurd z.1 (by decide)))
      have hA : Ag (KS t k) (tk d12) := by rw [tk12]; exact MT_ag hMT
      have X12 : XM d12 = (0, 0) := by
        unfold XM pT
        rw [v11, v12]
        rfl
      have F12 : FI d12 := ⟨by rw [v12]; decide, fun z => absurd v12 z, by rw [v11]; exact ⟨by decide, by decide⟩⟩
      have C12 := CM.rf F12
      rw [X12] at C12
      refine pc_cv (C12.must hS) (fun d13 r13 => pc_cv (r13.must hS) (fun d15 r15 => pc_cv (r15.must hS) (fun d17 r17 => pc_cv (r17.must hS) (fun d19 r19 => ?_))))
      have SM0 : SMx d12 d19 0 := ⟨r19.1, r19.2.1, r19.2.2.t, fun _ => ⟨by rw [r19.2.2 328 20 (by decide), v20]; rfl, by rw [r19.2.2 328 21 (by decide), v21]; rfl⟩⟩
      refine read91_x hS SM0 (fun i de hSM hst => ?_)
      obtain ⟨xe, fe, frt, _⟩ := hSM
      obtain ⟨sxe, gse⟩ := sx_cg hA i
      rw [sxe] at xe hst
      have hst' : stp2 (KS t k) (sx (KS t k) i) := fun z => hst ⟨z.1, by rw [hA.k gse z.1]; exact z.2⟩
      obtain ⟨x2, x1⟩ := XM_0 xe
      have j154 : ∀ {df : Ds} {z0 : Int32}, dI df 328 12 = (sx (KS t k) i).1.2 → ((sx (KS t k) i).1.2 = 0 → dI df 328 14 = (sm (KS t k) (VS t k) i).1.1 ∧ ((sm (KS t k) (VS t k) i).1.1 = 0 ∨ 0 < (sm (KS t k) (VS t k) i).1.1.toInt)) → pc (fX12_read_J154 10000 g 328 z0 328 df) (fun u _ => ∃ i, stp2 (KS t k) (sx (KS t k) i) ∧ u = (vd (KS t k) (VS t k) i).1) := by
        intro df z0 h12 h14
        unfold fX12_read_J154
        refine pc_gd (fun _ => pc_bd (fun d29 e29 => pc_gd (fun _ => ?_)))
        have w12 : dI d29 328 12 = (sx (KS t k) i).1.2 := by rw [rdq e29 (Or.inr (by decide))]; exact h12
        have w14 : dI d29 328 14 = dI df 328 14 := rdq e29 (Or.inr (by decide))
        have hF := fe.1
        rw [x2] at hF
        refine pc_if (fun q => ?_) (fun q => ?_)
        · have q2 := Int32.le_iff_toInt_le.mp q
          rw [w12] at q2
          have z0 : (sx (KS t k) i).1.2 = 0 := Int32.toInt_inj.mp (by omega)
          have ev : vd (KS t k) (VS t k) i = (sm (KS t k) (VS t k) i).1 := if_pos z0
          obtain ⟨a, b⟩ := h14 z0
          refine pc_if (fun q => ?_) (fun q => pc_some ⟨i, hst', by rw [ev, w14, a]⟩)
          have q3 := Int32.le_iff_toInt_le.mp q
          rw [w14, a] at q3
          have c0 : (sm (KS t k) (VS t k) i).1.1 = 0 := by
            rcases b with b | b
            · exact b
            · omega
          exact read183_x (fun _ => ⟨i, hst', by rw [ev, c0]⟩)
        · have q2 := Int32.lt_iff_toInt_lt.mp (nle q)
          have nz : ¬ (sx (KS t k) i).1.2 = 0 := fun z => by rw [w12, z] at q2; omega
          have ev : vd (KS t k) (VS t k) i = ((sx (KS t k) i).1.2, (sx (KS t k) i).1.1) := if_neg nz
          exact pc_some ⟨i, hst', by rw [ev, w12]⟩
      have j124 : ∀ {df : Ds}, dI df 328 12 = (sx (KS t k) i).1.2 → ((sx (KS t k) i).1.2 = 0 → dI df 328 14 = (sm (KS t k) (VS t k) i).1.1 ∧ ((sm (KS t k) (VS t k) i).1.1 = 0 ∨ 0 < (sm (KS t k) (VS t k) i).1.1.toInt)) → pc (fX12_read_J124 10000 g 328 df) (fun u _ => ∃ i, stp2 (KS t k) (sx (KS t k) i) ∧ u = (vd (KS t k) (VS t k) i).1) := by
        intro df h12 h14
        unfold fX12_read_J124
        exact pc_gd (fun _ => pc_if (fun _ => pc_if (fun _ => j154 h12 h14) (fun _ => j154 h12 h14)) (fun _ => j154 h12 h14))
      unfold fX12_read_J113
      refine pc_gd (fun _ => pc_if (fun q => ?_) (fun q => ?_))
      · have z0 : (sx (KS t k) i).1.2 = 0 := x2.symm.trans q
        have kz : KS t k (sx (KS t k) i).1.1 = 0 := by
          by_cases z : KS t k (sx (KS t k) i).1.1 = 0
          · exact z
          · exact absurd ⟨z0, z⟩ hst'
        obtain ⟨p4, pz⟩ := gse z0
        obtain ⟨s, hs, hT, hE⟩ := hMT
        have fe6 : ∀ r j, ¬ (r = 328 ∧ (j = 11 ∨ j = 12 ∨ j = 13 ∨ j = 14 ∨ j = 20 ∨ j = 21)) → dI de r j = dI d6 r j := fun r j h => by
          rw [frt r j (fun z => h ⟨z.1, by omega⟩), f12 r j (fun z => h ⟨z.1, by omega⟩)]
        rcases hE with ⟨hE, _⟩ | ⟨h1, h3, h5, h6, h7, h8⟩
        · exact absurd kz (KS_nz (hT _ (by omega)).1)
        · have hM : MTk t k s de := by
            refine ⟨h3, fun j hj => (hT j hj).1, by rw [fe6 328 10 (by decide)]; exact h5, fun j hj => ?_⟩
            rw [fe6 331 j (by omega), fe6 332 j (by omega), fe6 333 j (by omega)]
            by_cases z : j = s
            · subst z
              have hps : ps t k j = k := by have := ps_le (t := t) (n := k) j; omega
              refine ⟨?_, by rw [hps]; exact h7, ?_⟩
              · rw [h6]
                unfold KS
                rw [if_neg h1]
              · rw [h8]
                unfold VS
                rw [if_neg h1]
            · obtain ⟨a, b, c, e⟩ := hT j (by omega)
              refine ⟨?_, c, ?_⟩
              · rw [b]
                unfold KS
                rw [if_pos a]
              · rw [e]
                unfold VS
                rw [if_pos a]
          have w14 : dI de 328 14 = 0 := by rw [frt 328 14 (by decide)]; exact v14
          refine pc_cv (means_x hS hM h1 q w14 hst' z0) (fun d53 r => ?_)
          exact j124 (by rw [r.1.1, z0]) (fun _ => ⟨r.1.2.1, r.2⟩)
      · exact j124 x2 (fun z => absurd (x2.trans z) q)
    · have q2 := Int32.lt_iff_toInt_lt.mp (nle q)
      refine pc_ob (fun r61 er61 => ?_)
      have := gq hS (e := 330) (by decide +kernel) er61
      subst this
      refine pc_ob (fun r62 er62 => ?_)
      have := gq hS (e := 329) (by decide +kernel) er62
      subst this
      refine pc_gd (fun _ => pc_gd (fun _ => pc_gd (fun _ => pc_gd (fun _ => pc_bd (fun d67 e67 => pc_bd (fun u68 e68 => ?_))))))
      rw [tn hy, h329 k (by omega), nar_by (hb k)] at e67
      refine hK _ ⟨k + 1, by omega, ?_, ?_, fun j hj => ?_, fun j hj => ?_, ?_⟩
      · dsimp only
        rw [e68, z_add hy e1 (by omega) (by omega)]
        omega
      · dsimp only
        rw [rdq e67 (Or.inl (by decide))]
        exact h4
      · dsimp only
        rw [rdq e67 (Or.inl (by decide))]
        exact h329 j hj
      · dsimp only
        rw [e67, sI_rd]
        by_cases z : j = k
        · rw [if_pos ⟨rfl, z⟩, z]
        · rw [if_neg (fun y => z y.2)]
          exact h330 j (by omega)
      · dsimp only
        rw [e67]
        exact hKd
  · show (dI d2 328 4).toInt = _
    rw [e2, sI_rd, if_pos ⟨rfl, rfl⟩]
    exact hn
  · show dI d2 329 j = t j
    rw [rdq e2 (Or.inl (by decide))]
    exact ht j hj
  · show KL d2
    rw [e2]
    exact hKL
/-- both verdicts -/
theorem verdict_un {u v : Int32} (h : ∃ i, stp2 (KS t n) (sx (KS t n) i) ∧ u = (vd (KS t n) (VS t n) i).1) (k : ∃ i, stp2 (KS t n) (sx (KS t n) i) ∧ v = (vd (KS t n) (VS t n) i).1) : u = v := by
  obtain ⟨i, hi, hu⟩ := h
  obtain ⟨j, hj, hv⟩ := k
  rw [hu, hv, vd_un hi hj]
end RDX
