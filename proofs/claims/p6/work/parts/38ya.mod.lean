/-! a good line's tokens -/
section LIN
variable {K : Nat → Int32} {k : Int32} {y : Nat × Int32} {T : Nat}
theorem mS_0 (h : (mS K k y).2 = 0) : y.2 = 0 := by
  by_cases z : y.2 = 0
  · exact z
  · rw [mS_n z] at h
    exact h
theorem lmS_0 (h : (lmS K y).2 = 0) : y.2 = 0 := by
  by_cases z : y.2 = 0
  · exact z
  · rw [lmS_n z] at h
    exact h
theorem dS_0 (h : (dS K y).2 = 0) : y.2 = 0 := by
  by_cases z : y.2 = 0
  · exact z
  · rw [dS_n z] at h
    exact h
theorem iS_0 {m : Nat} (h : (iS K m y).2 = 0) : y.2 = 0 := by
  by_cases z : y.2 = 0
  · exact z
  · rw [iS_n z] at h
    exact h
theorem pS_ok (h : (pS (T, 0)).2 = 0) : pS (T, 0) = (T + 1, 0) := by
  unfold pS at h ⊢
  rw [if_pos rfl] at h ⊢
  by_cases z : T = 400
  · rw [if_pos z] at h
    exact absurd h (show ¬ (2 : Int32) = 0 by decide)
  · rw [if_neg z]
theorem lmS_ok (h : (lmS K (T, 0)).2 = 0) : lmS K (T, 0) = (T + 1, 0) ∧ (K T = 33 ∨ K T = 32) := by
  unfold lmS at h ⊢
  rw [if_pos rfl] at h ⊢
  by_cases z : K T = 33 ∨ K T = 32
  · rw [if_pos z] at h ⊢
    exact ⟨pS_ok h, z⟩
  · rw [if_neg z] at h
    exact absurd h (show ¬ (1 : Int32) = 0 by decide)
/-- a deed from here to there -/
def dOK (K : Nat → Int32) (D E : Nat) : Prop := 31 ≤ (K D).toInt ∧ (K D).toInt ≤ 39 ∧ D < E ∧ (∀ j, D < j → j < E → K j = 2 ∨ K j = 33 ∨ K j = 32) ∧ (¬ (K D = 35 ∨ K D = 36) → D + 2 ≤ E) ∧ (K D = 37 → E = D + 4 ∧ (K (D + 2) = 33 ∨ K (D + 2) = 32)) ∧ (K D = 38 → E = D + 3)
theorem dS_ok {D E : Nat} (h : dS K (D, 0) = (E, 0)) : dOK K D E := by
  have h2 : (dS K (D, 0)).2 = 0 := by rw [h]
  unfold dS at h h2
  rw [if_pos rfl] at h h2
  by_cases q : (K D).toInt < 31 ∨ 39 < (K D).toInt
  · rw [if_pos q] at h2
    exact absurd h2 (show ¬ (1 : Int32) = 0 by decide)
  · rw [if_neg q] at h h2
    have b1 : 31 ≤ (K D).toInt := by omega
    have b2 : (K D).toInt ≤ 39 := by omega
    dsimp only at h h2
    by_cases q1 : K D = 35 ∨ K D = 36
    · rw [if_pos q1] at h h2
      rw [pS_ok h2] at h
      have e : D + 1 = E := congrArg Prod.fst h
      refine ⟨b1, b2, by omega, fun j j1 j2 => by omega, fun z => absurd q1 z, fun z => ?_, fun z => ?_⟩
      · rw [z] at q1
        exact absurd q1 (by decide)
      · rw [z] at q1
        exact absurd q1 (by decide)
    · rw [if_neg q1] at h h2
      by_cases q2 : K D = 37
      · rw [if_pos q2] at h h2
        have g3 := mS_0 h2
        have g2 := lmS_0 g3
        have g1 := mS_0 g2
        rw [pS_ok g1] at h h2 g2 g3
        obtain ⟨m1, m2, _⟩ := mS_ok g2
        rw [m1] at h h2 g3
        obtain ⟨l1, l2⟩ := lmS_ok g3
        rw [l1] at h h2
        obtain ⟨n1, n2, _⟩ := mS_ok h2
        rw [n1] at h
        have e : D + 1 + 1 + 1 + 1 = E := congrArg Prod.fst h
        refine ⟨b1, b2, by omega, fun j j1 j2 => ?_, fun _ => by omega, fun _ => ⟨by omega, l2⟩, fun z => ?_⟩
        · rcases (show j = D + 1 ∨ j = D + 1 + 1 ∨ j = D + 1 + 1 + 1 by omega) with z | z | z <;> subst z
          · exact Or.inl m2
          · exact Or.inr l2
          · exact Or.inl n2
        · rw [z] at q2
          exact absurd q2 (by decide)
      · rw [if_neg q2] at h h2
        by_cases q3 : K D = 38
        · rw [if_pos q3] at h h2
          have g2 := mS_0 h2
          have g1 := mS_0 g2
          rw [pS_ok g1] at h h2 g2
          obtain ⟨m1, m2, _⟩ := mS_ok g2
          rw [m1] at h h2
          obtain ⟨n1, n2, _⟩ := mS_ok h2
          rw [n1] at h
          have e : D + 1 + 1 + 1 = E := congrArg Prod.fst h
          refine ⟨b1, b2, by omega, fun j j1 j2 => ?_, fun _ => by omega, fun z => absurd z q2, fun z => by omega⟩
          rcases (show j = D + 1 ∨ j = D + 1 + 1 by omega) with z | z <;> subst z
          · exact Or.inl m2
          · exact Or.inl n2
        · rw [if_neg q3] at h h2
          have g1 := mS_0 h2
          rw [pS_ok g1] at h h2
          obtain ⟨n1, n2, _⟩ := mS_ok h2
          rw [n1] at h
          have e : D + 1 + 1 = E := congrArg Prod.fst h
          refine ⟨b1, b2, by omega, fun j j1 j2 => ?_, fun _ => by omega, fun z => absurd z q2, fun z => absurd z q3⟩
          rw [show j = D + 1 by omega]
          exact Or.inl n2
theorem iS_ok : ∀ m {D E : Nat}, iS K m (D, 0) = (E, 0) → D ≤ E ∧ E ≤ D + m ∧ (∀ j, D ≤ j → j < E → K j = 2) ∧ ¬ K E = 2 := by
  intro m
  induction m with
  | zero =>
    intro D E h
    unfold iS at h
    by_cases q : K D = 2
    · rw [if_pos ⟨rfl, q⟩] at h
      exact absurd (congrArg Prod.snd h) (show ¬ (2 : Int32) = 0 by decide)
    · rw [if_neg (fun z => q z.2)] at h
      have e : D = E := congrArg Prod.fst h
      subst e
      exact ⟨Nat.le_refl _, Nat.le_refl _, fun j j1 j2 => by omega, q⟩
  | succ m ih =>
    intro D E h
    unfold iS at h
    by_cases q : K D = 2
    · rw [if_pos ⟨rfl, q⟩] at h
      have g : (pS (D, 0)).2 = 0 := iS_0 (K := K) (m := m) (by rw [h])
      rw [pS_ok g] at h
      obtain ⟨i1, i2, i3, i4⟩ := ih h
      refine ⟨by omega, by omega, fun j j1 j2 => ?_, i4⟩
      by_cases z : j = D
      · rw [z]
        exact q
      · exact i3 j (by omega) j2
    · rw [if_neg (fun z => q z.2)] at h
      have e : D = E := congrArg Prod.fst h
      subst e
      exact ⟨Nat.le_refl _, by omega, fun j j1 j2 => by omega, q⟩
/-- a line from here to its sign -/
def lOK (K : Nat → Int32) (T E : Nat) : Prop := T < E ∧ K E = 4 ∧ 21 ≤ (K T).toInt ∧ (K T).toInt ≤ 30 ∧ (∀ j, T ≤ j → j < E → ¬ K j = 4 ∧ ¬ K j = 0) ∧ (23 ≤ (K T).toInt → T + 2 ≤ E) ∧ (K T = 27 → T + 3 ≤ E) ∧ (K T = 28 ∨ K T = 29 → dOK K (T + 3) E) ∧ (K T = 30 → T + 2 ≤ E ∧ E ≤ T + 9 ∧ ∀ j, T + 1 ≤ j → j < E → K j = 2)
theorem tS_ok {a b T' : Nat} (h : tS K a b T = (T', 0)) : ∃ E, T' = E + 1 ∧ lOK K T E := by
  have e4 : (4 : Int32).toInt = 4 := by decide
  have e0 : (0 : Int32).toInt = 0 := by decide
  have e27 : (27 : Int32).toInt = 27 := by decide
  have e28 : (28 : Int32).toInt = 28 := by decide
  have e29 : (29 : Int32).toInt = 29 := by decide
  have e30 : (30 : Int32).toInt = 30 := by decide
  have h2 : (tS K a b T).2 = 0 := by rw [h]
  obtain ⟨_, g2, _, _, g5⟩ := tS_gt h2
  rw [g5] at h h2
  have g6 := mS_0 h2
  obtain ⟨E, hE⟩ : ∃ E, lS K (K T) (T + 1, 0) = (E, 0) := ⟨_, Prod.ext rfl g6⟩
  rw [hE] at h h2
  obtain ⟨m1, m2, _⟩ := mS_ok h2
  rw [m1] at h
  refine ⟨E, (congrArg Prod.fst h).symm, ?_⟩
  have k1 : 21 ≤ (K T).toInt := by omega
  have k2 : (K T).toInt ≤ 30 := by omega
  have kT : ¬ K T = 4 ∧ ¬ K T = 0 := ⟨fun z => by rw [z, e4] at k1; omega, fun z => by rw [z, e0] at k1; omega⟩
  have two : ∀ {x : Int32}, x = 2 → ¬ x = 4 ∧ ¬ x = 0 := fun {x} z => by rw [z]; decide
  unfold lS at hE
  by_cases q1 : (K T).toInt < 23
  · rw [if_pos q1] at hE
    have e : T + 1 = E := congrArg Prod.fst hE
    have ne : ∀ {k : Int32}, 23 ≤ k.toInt → ¬ K T = k := fun hk z => by rw [z] at q1; omega
    exact ⟨by omega, m2, k1, k2, fun j j1 j2 => by rw [show j = T by omega]; exact kT, fun z => by omega, fun z => absurd z (ne (by decide)), fun z => z.elim (fun z => absurd z (ne (by decide))) (fun z => absurd z (ne (by decide))), fun z => absurd z (ne (by decide))⟩
  · rw [if_neg q1] at hE
    by_cases q2 : K T = 28 ∨ K T = 29
    · rw [if_pos q2] at hE
      have s3 := dS_0 (K := K) (by rw [hE])
      have s2 := mS_0 s3
      obtain ⟨a1, a2, _⟩ := mS_ok s2
      rw [a1] at hE s3
      obtain ⟨b1, b2, _⟩ := mS_ok s3
      rw [b1] at hE
      have hd := dS_ok hE
      have hd3 := hd.2.2.1
      refine ⟨by omega, m2, k1, k2, fun j j1 j2 => ?_, fun _ => by omega, fun _ => by omega, fun _ => hd, fun z => ?_⟩
      · by_cases z0 : j = T
        · rw [z0]
          exact kT
        · by_cases z1 : j = T + 1
          · rw [z1]
            exact two a2
          · by_cases z2 : j = T + 1 + 1
            · rw [z2]
              exact two b2
            · by_cases z3 : j = T + 3
              · rw [z3]
                have := hd.1
                exact ⟨fun z => by rw [z, e4] at this; omega, fun z => by rw [z, e0] at this; omega⟩
              · rcases hd.2.2.2.1 j (by omega) j2 with z | z | z
                · exact two z
                · rw [z]
                  decide
                · rw [z]
                  decide
      · rw [z] at q2
        exact absurd q2 (by decide)
    · rw [if_neg q2] at hE
      by_cases q3 : K T = 27
      · rw [if_pos q3] at hE
        have s3 : (mS K 2 (mS K 2 (T + 1, 0))).2 = 0 := by rw [hE]
        have s2 := mS_0 s3
        obtain ⟨a1, a2, _⟩ := mS_ok s2
        rw [a1] at hE s3
        obtain ⟨b1, b2, _⟩ := mS_ok s3
        rw [b1] at hE
        have e : T + 1 + 1 + 1 = E := congrArg Prod.fst hE
        refine ⟨by omega, m2, k1, k2, fun j j1 j2 => ?_, fun _ => by omega, fun _ => by omega, fun z => absurd z q2, fun z => ?_⟩
        · rcases (show j = T ∨ j = T + 1 ∨ j = T + 1 + 1 by omega) with z | z | z <;> rw [z]
          · exact kT
          · exact two a2
          · exact two b2
        · rw [z] at q3
          exact absurd q3 (by decide)
      · rw [if_neg q3] at hE
        by_cases q4 : K T = 30
        · rw [if_pos q4] at hE
          have s2 := iS_0 (K := K) (m := 7) (by rw [hE])
          obtain ⟨a1, a2, _⟩ := mS_ok s2
          rw [a1] at hE
          obtain ⟨i1, i2, i3, i4⟩ := iS_ok 7 hE
          refine ⟨by omega, m2, k1, k2, fun j j1 j2 => ?_, fun _ => by omega, fun z => absurd z q3, fun z => absurd z q2, fun _ => ⟨by omega, by omega, fun j j1 j2 => ?_⟩⟩
          · by_cases z0 : j = T
            · rw [z0]
              exact kT
            · by_cases z1 : j = T + 1
              · rw [z1]
                exact two a2
              · exact two (i3 j (by omega) j2)
          · by_cases z1 : j = T + 1
            · rw [z1]
              exact a2
            · exact i3 j (by omega) j2
        · rw [if_neg q4] at hE
          have s2 : (mS K 2 (T + 1, 0)).2 = 0 := by rw [hE]
          obtain ⟨a1, a2, _⟩ := mS_ok s2
          rw [a1] at hE
          have e : T + 1 + 1 = E := congrArg Prod.fst hE
          refine ⟨by omega, m2, k1, k2, fun j j1 j2 => ?_, fun _ => by omega, fun z => absurd z q3, fun z => absurd z q2, fun z => absurd z q4⟩
          rcases (show j = T ∨ j = T + 1 by omega) with z | z <;> rw [z]
          · exact kT
          · exact two a2
end LIN
/-! what the model notes -/
theorem ps_mo {t : Nat → Int32} {n s : Nat} (h : ∀ j, j < s → ps t n j < n) {i j : Nat} (hi : i < j) (hj : j ≤ s) : ps t n i < ps t n j := by
  obtain ⟨m, hm⟩ : ∃ m, j = i + 1 + m := ⟨j - (i + 1), by omega⟩
  subst hm
  induction m with
  | zero => exact ps_lt (h i (by omega))
  | succ m ih =>
    have a := ih (by omega) (by omega)
    have b := ps_lt (h (i + 1 + m) (by omega))
    rw [show i + 1 + (m + 1) = i + 1 + m + 1 by omega]
    omega
/-- the model's tokens, the last of them the end -/
def MTk (t : Nat → Int32) (n s : Nat) (d : Ds) : Prop := s ≤ 400 ∧ (∀ j, j < s → ps t n j < n) ∧ (dI d 328 10).toInt = (s : Int) + 1 ∧ ∀ j, j ≤ s → dI d 331 j = KS t n j ∧ (dI d 332 j).toInt = ((ps t n j : Nat) : Int) ∧ dI d 333 j = VS t n j
def NM (t : Nat → Int32) (n : Nat) (d : Ds) (w : Int32 × Nat) : Prop := dI d 328 12 = 0 ∧ dI d 328 14 = w.1 ∧ (¬ w.1 = 0 → (dI d 328 15).toInt = ((ps t n w.2 : Nat) : Int))
def WF (d d' : Ds) : Prop := ∀ r j, ¬ (r = 328 ∧ (j = 14 ∨ j = 15)) → ¬ r = 339 → dI d' r j = dI d r j
theorem WF.rf {d : Ds} : WF d d := fun _ _ _ _ => rfl
theorem WF.tr {d dd d' : Ds} (h : WF d dd) (h2 : WF dd d') : WF d d' := fun r j q q2 => (h2 r j q q2).trans (h r j q q2)
theorem WF.i {d df de : Ds} {r j : Nat} {v : Int32} (h : WF d df) (e : de = sI df r j v) (hr : r = 328 ∧ (j = 14 ∨ j = 15) ∨ r = 339) : WF d de := by
  subst e
  intro r' j' q q2
  rw [sI_rd, if_neg (fun z => hr.elim (fun y => q (by rw [z.1, z.2]; exact y)) (fun y => q2 (by rw [z.1]; exact y)))]
  exact h r' j' q q2
/-- behind all that is noted -/
def LB (w : Int32 × Nat) (T : Nat) (c : Int32) : Prop := w.1 = 0 ∨ w.2 < T ∨ w.2 = T ∧ w.1.toInt ≤ c.toInt
theorem LB.up {w : Int32 × Nat} {T T' : Nat} {c c' : Int32} (h : LB w T c) (hT : T < T') : LB w T' c' := by
  rcases h with h | h | h
  · exact Or.inl h
  · exact Or.inr (Or.inl (by omega))
  · exact Or.inr (Or.inl (by omega))
theorem LB.nt {w : Int32 × Nat} {T T' : Nat} {c c' : Int32} (h : LB w T c) (hT : T < T') : LB (nT c T w) T' c' := by
  unfold nT
  split
  · exact Or.inr (Or.inl hT)
  · exact h.up hT
theorem LB.nn {V : Nat → Int32} {lo hi : Int32} {w : Int32 × Nat} {T T' : Nat} {c' : Int32} (h : LB w T 5) (hT : T < T') : LB (nNu V lo hi T w) T' c' := by
  unfold nNu
  split
  · exact h.nt hT
  · exact h.up hT
section NOTE
variable {t : Nat → Int32} {n s : Nat} {d : Ds} {w : Int32 × Nat} {T : Nat}
theorem MTk.wf {d' : Ds} (h : MTk t n s d) (f : WF d d') : MTk t n s d' := ⟨h.1, h.2.1, by rw [f 328 10 (by decide) (by decide)]; exact h.2.2.1, fun j hj => by
  rw [f 331 j (by omega) (by decide), f 332 j (by omega) (by decide), f 333 j (by omega) (by decide)]
  exact h.2.2.2 j hj⟩
theorem wrong_x {g : Gs} (hS : Shp g) {N : Nat} {c x : Int32} (hM : MTk t n s d) (hN : NM t n d w) (hx : x.toInt = (T : Int)) (hT : T ≤ s) (hL : LB w T c) : pc (fX12_wrong N g 328 c x d) (fun _ d' => NM t n d' (nT c T w) ∧ WF d d') := by
  have e0 : (0 : Int32).toInt = 0 := by decide
  obtain ⟨n12, n14, n15⟩ := hN
  unfold fX12_wrong
  refine pc_gd (fun _ => pc_ob (fun r e => ?_))
  have := gq hS (e := 332) (by decide +kernel) e
  subst this
  refine pc_gd (fun _ => pc_gd (fun _ => pc_bd (fun u5 e5 => ?_)))
  have hu : u5.toInt = ((ps t n T : Nat) : Int) := by
    rw [e5, tn hx]
    exact (hM.2.2.2 T hT).2.1
  have keep : ¬ w.1 = 0 → pc (fX12_wrong_J45 N g 328 c x d) (fun _ d' => NM t n d' (nT c T w) ∧ WF d d') := by
    intro z
    unfold fX12_wrong_J45 nT
    rw [if_neg z]
    exact pc_some ⟨⟨n12, n14, n15⟩, WF.rf⟩
  refine pc_if (fun q => ?_) (fun _ => pc_if (fun q => ?_) (fun q => ?_))
  · have := Int32.lt_iff_toInt_lt.mp q
    rw [n12] at this
    omega
  · unfold fX12_wrong_J46 nT
    rw [if_pos (n14.symm.trans q)]
    refine pc_gd (fun _ => pc_bd (fun d9 e9 => pc_bd (fun d10 e10 => pc_some ⟨⟨?_, ?_, fun _ => ?_⟩, (WF.rf.i e9 (Or.inl ⟨rfl, by omega⟩)).i e10 (Or.inl ⟨rfl, by omega⟩)⟩)))
    · rw [rdq e10 (Or.inr (by decide)), rdq e9 (Or.inr (by decide))]
      exact n12
    · rw [rdq e10 (Or.inr (by decide)), e9, sI_rd, if_pos ⟨rfl, rfl⟩]
    · rw [e10, sI_rd, if_pos ⟨rfl, rfl⟩]
      exact hu
  · have nz : ¬ w.1 = 0 := fun z => q (n14.trans z)
    have h15 := n15 nz
    refine pc_if (fun _ => keep nz) (fun q2 => ?_)
    have q22 := Int32.le_iff_toInt_le.mp (nlt q2)
    rcases hL with z | z | ⟨z, z2⟩
    · exact absurd z nz
    · have := ps_mo hM.2.1 z hT
      omega
    · refine pc_if (fun _ => pc_if (fun q4 => ?_) (fun _ => keep nz)) (fun q3 => ?_)
      · have := Int32.lt_iff_toInt_lt.mp q4
        rw [n14] at this
        omega
      · exact absurd (Int32.toInt_inj.mp (by rw [hu, h15, z])) q3
theorem in_x {N : Nat} {g : Gs} {x lo hi : Int32} : pc (fX12_in N g x lo hi d) (fun u d' => d' = d ∧ (u = 0 ∧ (x.toInt < lo.toInt ∨ hi.toInt < x.toInt) ∨ u = 1 ∧ ¬ (x.toInt < lo.toInt ∨ hi.toInt < x.toInt))) := by
  unfold fX12_in fX12_in_J14 fX12_in_J15
  refine pc_if (fun c => pc_gd (fun _ => pc_some ⟨rfl, Or.inl ⟨rfl, Or.inl (Int32.lt_iff_toInt_lt.mp c)⟩⟩)) (fun c1 => pc_if (fun c => pc_gd (fun _ => pc_some ⟨rfl, Or.inl ⟨rfl, Or.inr (Int32.lt_iff_toInt_lt.mp c)⟩⟩)) (fun c2 => pc_gd (fun _ => pc_some ⟨rfl, Or.inr ⟨rfl, ?_⟩⟩)))
  have h1 := Int32.le_iff_toInt_le.mp (nlt c1)
  have h2 := Int32.le_iff_toInt_le.mp (nlt c2)
  omega
theorem within_x {g : Gs} (hS : Shp g) {N : Nat} {x lo hi : Int32} (hM : MTk t n s d) (hN : NM t n d w) (hx : x.toInt = (T : Int)) (hT : T ≤ s) (hL : LB w T 5) : pc (fX12_within N g 328 x lo hi d) (fun u d' => u = VS t n T ∧ NM t n d' (nNu (VS t n) lo hi T w) ∧ WF d d') := by
  have hV : dI d 333 x.toNatClampNeg = VS t n T := by
    rw [tn hx]
    exact (hM.2.2.2 T hT).2.2
  have j20 : ∀ {dd : Ds} {w' : Int32 × Nat}, WF d dd → NM t n dd w' → pc (fX12_within_J20 N g 328 x lo hi dd) (fun u d' => u = VS t n T ∧ NM t n d' w' ∧ WF d d') := by
    intro dd w' f h
    unfold fX12_within_J20
    refine pc_gd (fun _ => pc_ob (fun r e => ?_))
    have := gq hS (e := 333) (by decide +kernel) e
    subst this
    refine pc_gd (fun _ => pc_gd (fun _ => pc_some ⟨?_, h, f⟩))
    rw [f 333 _ (by omega) (by decide)]
    exact hV
  unfold fX12_within
  refine pc_gd (fun _ => pc_ob (fun r e => ?_))
  have := gq hS (e := 333) (by decide +kernel) e
  subst this
  refine pc_gd (fun _ => pc_gd (fun _ => ?_))
  rw [hV]
  refine pc_cb in_x (fun u7 d5 r => ?_)
  obtain ⟨e, hu⟩ := r
  subst e
  unfold nNu
  rcases hu with ⟨hu, h⟩ | ⟨hu, h⟩ <;> rw [hu]
  · refine pc_if (fun _ => pc_cv (wrong_x hS hM hN hx hT hL) (fun d13 r => ?_)) (fun z => absurd rfl z)
    rw [if_pos h]
    exact j20 r.2 r.1
  · refine pc_if (fun z => absurd z (by decide)) (fun _ => ?_)
    rw [if_neg h]
    exact j20 WF.rf hN
end NOTE
def SB (w : Int32 × Nat) (T : Nat) : Prop := w.1 = 0 ∨ w.2 < T
theorem SB.lb {w : Int32 × Nat} {T : Nat} {c : Int32} (h : SB w T) : LB w T c := h.elim Or.inl (fun z => Or.inr (Or.inl z))
theorem SB.up {w : Int32 × Nat} {T T' : Nat} (h : SB w T) (hT : T ≤ T') : SB w T' := h.elim Or.inl (fun z => Or.inr (by omega))
theorem LB.sb {w : Int32 × Nat} {T T' : Nat} {c : Int32} (h : LB w T c) (hT : T < T') : SB w T' := by
  rcases h with h | h | h
  · exact Or.inl h
  · exact Or.inr (by omega)
  · exact Or.inr (by omega)
theorem LB.nts {w : Int32 × Nat} {T T' : Nat} {c : Int32} (h : LB w T c) (hT : T < T') : SB (nT c T w) T' := by
  unfold nT
  split
  · exact Or.inr hT
  · exact h.sb hT
theorem LB.nns {V : Nat → Int32} {lo hi : Int32} {w : Int32 × Nat} {T T' : Nat} (h : LB w T 5) (hT : T < T') : SB (nNu V lo hi T w) T' := by
  unfold nNu
  split
  · exact h.nts hT
  · exact h.sb hT
theorem nW_e {V : Nat → Int32} {k lo hi : Int32} {T : Nat} {w : Int32 × Nat} (h : wfv 0 (kk k) = lo) (h2 : wfv 1 (kk k) = hi) : nW V k T w = nNu V lo hi T w := by
  unfold nW
  rw [h, h2]
theorem nNu_n {V : Nat → Int32} {lo hi : Int32} {T : Nat} {w : Int32 × Nat} (h : ¬ w.1 = 0) : nNu V lo hi T w = w := by
  unfold nNu nT
  rw [if_neg h]
  simp only [ite_self]
section DEEDX
variable {t : Nat → Int32} {n s : Nat} {d : Ds} {w : Int32 × Nat} {T D E : Nat}
theorem NM.i {df de : Ds} {r j : Nat} {v : Int32} (h : NM t n df w) (e : de = sI df r j v) (hr : ¬ (r = 328 ∧ (j = 12 ∨ j = 14 ∨ j = 15))) : NM t n de w := by
  have f : ∀ i, i = 12 ∨ i = 14 ∨ i = 15 → dI de 328 i = dI df 328 i := fun i hi => by
    rw [e, sI_rd, if_neg (fun z => hr ⟨z.1.symm, by omega⟩)]
  exact ⟨by rw [f 12 (by omega)]; exact h.1, by rw [f 14 (by omega)]; exact h.2.1, fun z => by rw [f 15 (by omega)]; exact h.2.2 z⟩
theorem keyTold_x {g : Gs} (hS : Shp g) {N : Nat} {x : Int32} (hM : MTk t n s d) (hN : NM t n d w) (hx : x.toInt = (T : Int)) (hT : T ≤ s) (hL : LB w T 5) (h22 : dI d 328 22 = 0 → ¬ w.1 = 0) (hD : w.1 = 0 → dI d 337 0 = VS t n 1 ∧ dI d 337 1 = VS t n 2) : pc (fX12_keyTold N g 328 x d) (fun u d' => (u = VS t n T ∨ ¬ w.1 = 0) ∧ NM t n d' (nNu (VS t n) 0 (kyN (VS t n)) T w) ∧ WF d d') := by
  unfold fX12_keyTold fX12_keyTold_J32
  refine pc_gd (fun _ => pc_if (fun q => ?_) (fun q => pc_ob (fun r e => ?_)))
  · rw [nNu_n (h22 q)]
    exact pc_some ⟨Or.inr (h22 q), hN, WF.rf⟩
  · have := gq hS (e := 337) (by decide +kernel) e
    subst this
    refine pc_gd (fun _ => pc_gd (fun _ => pc_gd (fun _ => pc_cb (within_x hS hM hN hx hT hL) (fun u9 d7 r => pc_some ⟨Or.inl r.1, ?_, r.2.2⟩))))
    by_cases z : w.1 = 0
    · obtain ⟨a, b⟩ := hD z
      have h2 := r.2.1
      rw [show (0 : Int32).toNatClampNeg = 0 by decide, show (1 : Int32).toNatClampNeg = 1 by decide, a, b] at h2
      exact h2
    · have h2 := r.2.1
      rw [nNu_n z] at h2 ⊢
      exact h2
theorem meansDeed_x {g : Gs} (hS : Shp g) {N : Nat} {x : Int32} (hM : MTk t n s d) (hN : NM t n d w) (hx : x.toInt = (D : Int)) (hd : dOK (KS t n) D E) (hE : E ≤ s) (hL : SB w (D + 1)) : pc (fX12_meansDeed N g 328 x d) (fun _ d' => NM t n d' (dNt (KS t n) (VS t n) D w) ∧ SB (dNt (KS t n) (VS t n) D w) E ∧ WF d d') := by
  have e1 : (1 : Int32).toInt = 1 := by decide
  have e2 : (2 : Int32).toInt = 2 := by decide
  have e3 : (3 : Int32).toInt = 3 := by decide
  obtain ⟨k1, k2, k3, k4, k5, k6, k7⟩ := hd
  have hs := hM.1
  have x1 : (x + 1).toInt = ((D + 1 : Nat) : Int) := by rw [z_add hx e1 (by omega) (by omega)]; omega
  have x2 : (x + 2).toInt = ((D + 2 : Nat) : Int) := by rw [z_add hx e2 (by omega) (by omega)]; omega
  have x3 : (x + 3).toInt = ((D + 3 : Nat) : Int) := by rw [z_add hx e3 (by omega) (by omega)]; omega
  unfold fX12_meansDeed
  refine pc_gd (fun _ => pc_ob (fun r e => ?_))
  have := gq hS (e := 339) (by decide +kernel) e
  subst this
  refine pc_gd (fun _ => pc_gd (fun _ => pc_bd (fun d5 e5 => pc_gd (fun _ => pc_bd (fun d7 e7 => pc_ob (fun r e => ?_))))))
  have := gq hS (e := 331) (by decide +kernel) e
  subst this
  have f7 : WF d d7 := (WF.rf.i e5 (Or.inr rfl)).i e7 (Or.inr rfl)
  have N7 : NM t n d7 w := (hN.i e5 (by omega)).i e7 (by omega)
  have K7 : dI d7 331 x.toNatClampNeg = KS t n D := by
    rw [tn hx, f7 331 D (by omega) (by decide)]
    exact (hM.2.2.2 D (by omega)).1
  rw [K7]
  -- one number
  have one : ∀ {lo hi : Int32} {j : Nat} {v : Int32}, (D + 2 ≤ E) → pc (bd (sI d7 339 j v) fun d20 => (cb (fX12_within N g 328 (x + 1) lo hi d20) fun u23 d21 => (bd (sI d21 339 (1 : Int32).toNatClampNeg u23) fun d24 => (fX12_meansDeed_J347 N g 328 x d24)))) (fun _ d' => NM t n d' (nNu (VS t n) lo hi (D + 1) w) ∧ SB (nNu (VS t n) lo hi (D + 1) w) E ∧ WF d d') := by
    intro lo hi j v hE2
    refine pc_bd (fun d20 e20 => ?_)
    have f20 := f7.i e20 (Or.inr rfl)
    refine pc_cb (within_x hS (hM.wf f20) (N7.i e20 (by omega)) x1 (by omega) hL.lb) (fun u23 d21 r => pc_bd (fun d24 e24 => ?_))
    unfold fX12_meansDeed_J347
    exact pc_some ⟨r.2.1.i e24 (by omega), hL.lb.nns (by omega), (f20.tr r.2.2).i e24 (Or.inr rfl)⟩
  have none0 : ∀ {j : Nat} {v : Int32}, (KS t n D = 35 ∨ KS t n D = 36) → pc (bd (sI d7 339 j v) fun d52 => (fX12_meansDeed_J347 N g 328 x d52)) (fun _ d' => NM t n d' (dNt (KS t n) (VS t n) D w) ∧ SB (dNt (KS t n) (VS t n) D w) E ∧ WF d d') := by
    intro j v q
    unfold fX12_meansDeed_J347 dNt
    rw [if_pos q]
    exact pc_bd (fun d52 e52 => pc_some ⟨N7.i e52 (by omega), hL.up (by omega), f7.i e52 (Or.inr rfl)⟩)
  have sng : ∀ {k lo hi : Int32}, KS t n D = k → ¬ (k = 35 ∨ k = 36) → ¬ k = 37 → ¬ k = 38 → wfv 0 (kk k) = lo → wfv 1 (kk k) = hi → dNt (KS t n) (VS t n) D w = nNu (VS t n) lo hi (D + 1) w := by
    intro k lo hi e a b c h1 h2
    unfold dNt
    rw [e, if_neg a, if_neg b, if_neg c]
    exact nW_e h1 h2
  refine pc_gd (fun _ => pc_gd (fun _ => pc_if (fun q => ?_) (fun q0 => pc_if (fun q => ?_) (fun q1 => pc_if (fun q => ?_) (fun q2 => pc_if (fun q => ?_) (fun q3 => pc_if (fun q => ?_) (fun q4 => pc_if (fun q => ?_) (fun q5 => pc_if (fun q => ?_) (fun q6 => pc_if (fun q => ?_) (fun q7 => pc_if (fun q => ?_) (fun q8 => ?_)))))))))))
  · have k : KS t n D = 39 := Int32.toInt_inj.mp (by rw [show (39 : Int32).toInt = 39 by decide]; omega)
    rw [sng k (by decide) (by decide) (by decide) (show wfv 0 (kk 39) = 0 by decide +kernel) (show wfv 1 (kk 39) = 3 by decide +kernel)]
    exact pc_gd (fun _ => one (k5 (by rw [k]; decide)))
  · rw [sng q (by decide) (by decide) (by decide) (show wfv 0 (kk 31) = 1 by decide +kernel) (show wfv 1 (kk 31) = 200 by decide +kernel)]
    exact pc_gd (fun _ => one (k5 (by rw [q]; decide)))
  · rw [sng q (by decide) (by decide) (by decide) (show wfv 0 (kk 32) = 0 by decide +kernel) (show wfv 1 (kk 32) = 7 by decide +kernel)]
    exact pc_gd (fun _ => one (k5 (by rw [q]; decide)))
  · rw [sng q (by decide) (by decide) (by decide) (show wfv 0 (kk 33) = 1 by decide +kernel) (show wfv 1 (kk 33) = 3 by decide +kernel)]
    exact pc_gd (fun _ => one (k5 (by rw [q]; decide)))
  · rw [sng q (by decide) (by decide) (by decide) (show wfv 0 (kk 34) = 1 by decide +kernel) (show wfv 1 (kk 34) = 3 by decide +kernel)]
    refine pc_gd (fun _ => pc_bd (fun d41 e41 => ?_))
    have f41 := f7.i e41 (Or.inr rfl)
    unfold fX12_meansDeed_J153
    refine pc_gd (fun _ => pc_ob (fun r e => ?_))
    have := gq hS (e := 339) (by decide +kernel) e
    subst this
    have hE2 := k5 (by rw [q]; decide)
    refine pc_cb (within_x hS (hM.wf f41) (N7.i e41 (by omega)) x1 (by omega) hL.lb) (fun u23 d21 r => pc_gd (fun _ => pc_gd (fun _ => pc_bd (fun d24 e24 => ?_))))
    unfold fX12_meansDeed_J347
    exact pc_some ⟨r.2.1.i e24 (by omega), hL.lb.nns (by omega), (f41.tr r.2.2).i e24 (Or.inr rfl)⟩
  · exact pc_gd (fun _ => none0 (Or.inl q))
  · exact pc_gd (fun _ => none0 (Or.inr q))
  · obtain ⟨kE, kL⟩ := k6 q
    have K2 : dI d7 331 (x + 2).toNatClampNeg = KS t n (D + 2) := by
      rw [tn x2, f7 331 (D + 2) (by omega) (by decide)]
      exact (hM.2.2.2 (D + 2) (by omega)).1
    have eN : dNt (KS t n) (VS t n) D w = nW (VS t n) (KS t n (D + 2)) (D + 3) (nNu (VS t n) 1 200 (D + 1) w) := by
      unfold dNt
      rw [if_neg (by rw [q]; decide), if_pos q, q, nW_e (k := 37) (lo := 1) (hi := 200) (by decide +kernel) (by decide +kernel)]
    rw [eN, K2]
    have j226 : ∀ {y z : Int32}, (y = 0 ∧ KS t n (D + 2) = 32 ∨ ¬ y = 0 ∧ KS t n (D + 2) = 33) → pc (fX12_meansDeed_J226 N g 328 x y z 0 339 d7) (fun _ d' => NM t n d' (nW (VS t n) (KS t n (D + 2)) (D + 3) (nNu (VS t n) 1 200 (D + 1) w)) ∧ SB (nW (VS t n) (KS t n (D + 2)) (D + 3) (nNu (VS t n) 1 200 (D + 1) w)) E ∧ WF d d') := by
      intro y z hy
      unfold fX12_meansDeed_J226
      refine pc_gd (fun _ => pc_gd (fun _ => pc_bd (fun d64 e64 => pc_gd (fun _ => pc_ob (fun r e => ?_)))))
      have := gq hS (e := 339) (by decide +kernel) e
      subst this
      have f64 := f7.i e64 (Or.inr rfl)
      refine pc_cb (within_x hS (hM.wf f64) (N7.i e64 (by omega)) x1 (by omega) hL.lb) (fun u69 d67 r => pc_gd (fun _ => pc_gd (fun _ => pc_bd (fun d72 e72 => ?_))))
      have f72 := (f64.tr r.2.2).i e72 (Or.inr rfl)
      have N72 := r.2.1.i e72 (by omega)
      have S72 : SB (nNu (VS t n) 1 200 (D + 1) w) (D + 3) := hL.lb.nns (by omega)
      have last : ∀ {lo hi : Int32}, wfv 0 (kk (KS t n (D + 2))) = lo → wfv 1 (kk (KS t n (D + 2))) = hi → pc (cb (fX12_within N g 328 (x + 3) lo hi d72) fun u76 d74 => (fX12_meansDeed_J275 N g 328 x u76 2 339 d74)) (fun _ d' => NM t n d' (nW (VS t n) (KS t n (D + 2)) (D + 3) (nNu (VS t n) 1 200 (D + 1) w)) ∧ SB (nW (VS t n) (KS t n (D + 2)) (D + 3) (nNu (VS t n) 1 200 (D + 1) w)) E ∧ WF d d') := by
        intro lo hi h1 h2
        rw [nW_e h1 h2]
        refine pc_cb (within_x hS (hM.wf f72) N72 x3 (by omega) S72.lb) (fun u76 d74 r => ?_)
        unfold fX12_meansDeed_J275 fX12_meansDeed_J347
        exact pc_gd (fun _ => pc_gd (fun _ => pc_bd (fun d79 e79 => pc_some ⟨r.2.1.i e79 (by omega), S72.lb.nns (by omega), (f72.tr r.2.2).i e79 (Or.inr rfl)⟩)))
      rcases hy with ⟨hy, hk⟩ | ⟨hy, hk⟩
      · exact pc_if (fun _ => last (by rw [hk]; decide +kernel) (by rw [hk]; decide +kernel)) (fun z => absurd hy z)
      · exact pc_if (fun z => absurd z hy) (fun _ => last (by rw [hk]; decide +kernel) (by rw [hk]; decide +kernel))
    have j209 : ∀ {z : Int32}, (z = 0 ∧ KS t n (D + 2) = 32 ∨ ¬ z = 0 ∧ KS t n (D + 2) = 33) → pc (fX12_meansDeed_J209 N g 328 x z d7) (fun _ d' => NM t n d' (nW (VS t n) (KS t n (D + 2)) (D + 3) (nNu (VS t n) 1 200 (D + 1) w)) ∧ SB (nW (VS t n) (KS t n (D + 2)) (D + 3) (nNu (VS t n) 1 200 (D + 1) w)) E ∧ WF d d') := by
      intro z hz
      unfold fX12_meansDeed_J209
      refine pc_gd (fun _ => pc_ob (fun r e => ?_))
      have := gq hS (e := 339) (by decide +kernel) e
      subst this
      exact pc_if (fun _ => j226 hz) (fun _ => j226 hz)
    refine pc_gd (fun _ => pc_if (fun q33 => j209 (Or.inr ⟨by decide, q33⟩)) (fun q33 => j209 (Or.inl ⟨rfl, kL.elim (fun y => absurd y q33) id⟩)))
  · have kE := k7 q
    have eN : dNt (KS t n) (VS t n) D w = nNu (VS t n) 1 200 (D + 2) (nNu (VS t n) 1 200 (D + 1) w) := by
      unfold dNt
      rw [if_neg (by rw [q]; decide), if_neg (by rw [q]; decide), if_pos q, q, nW_e (k := 38) (lo := 1) (hi := 200) (by decide +kernel) (by decide +kernel), nW_e (k := 38) (lo := 1) (hi := 200) (by decide +kernel) (by decide +kernel)]
    rw [eN]
    refine pc_gd (fun _ => pc_bd (fun d85 e85 => ?_))
    have f85 := f7.i e85 (Or.inr rfl)
    refine pc_cb (within_x hS (hM.wf f85) (N7.i e85 (by omega)) x1 (by omega) hL.lb) (fun u88 d86 r => pc_bd (fun d89 e89 => ?_))
    have f89 := (f85.tr r.2.2).i e89 (Or.inr rfl)
    have S89 : SB (nNu (VS t n) 1 200 (D + 1) w) (D + 2) := hL.lb.nns (by omega)
    refine pc_cb (within_x hS (hM.wf f89) (r.2.1.i e89 (by omega)) x2 (by omega) S89.lb) (fun u92 d90 r => pc_bd (fun d93 e93 => ?_))
    unfold fX12_meansDeed_J347
    exact pc_some ⟨r.2.1.i e93 (by omega), S89.lb.nns (by omega), (f89.tr r.2.2).i e93 (Or.inr rfl)⟩
  · intro a b e
    cases e
end DEEDX
