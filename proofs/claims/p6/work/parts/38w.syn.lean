/-! the grammar that both go through: a token's number and a fault -/
def pS (x : Nat × Int32) : Nat × Int32 := if x.2 = 0 then (if x.1 = 400 then (x.1, 2) else (x.1 + 1, 0)) else x
def mS (K : Nat → Int32) (k : Int32) (x : Nat × Int32) : Nat × Int32 := if x.2 = 0 then (if K x.1 = k then pS x else (x.1, 1)) else x
def lmS (K : Nat → Int32) (x : Nat × Int32) : Nat × Int32 := if x.2 = 0 then (if K x.1 = 33 ∨ K x.1 = 32 then pS x else (x.1, 1)) else x
def dS (K : Nat → Int32) (x : Nat × Int32) : Nat × Int32 := if x.2 = 0 then (if (K x.1).toInt < 31 ∨ 39 < (K x.1).toInt then (x.1, 1) else if K x.1 = 35 ∨ K x.1 = 36 then pS x else if K x.1 = 37 then mS K 2 (lmS K (mS K 2 (pS x))) else if K x.1 = 38 then mS K 2 (mS K 2 (pS x)) else mS K 2 (pS x)) else x
def iS (K : Nat → Int32) : Nat → Nat × Int32 → Nat × Int32
  | 0, x => if x.2 = 0 ∧ K x.1 = 2 then (x.1, 2) else x
  | k + 1, x => if x.2 = 0 ∧ K x.1 = 2 then iS K k (pS x) else x
def lS (K : Nat → Int32) (c : Int32) (x : Nat × Int32) : Nat × Int32 := if c.toInt < 23 then x else if c = 28 ∨ c = 29 then dS K (mS K 2 (mS K 2 x)) else if c = 27 then mS K 2 (mS K 2 x) else if c = 30 then iS K 7 (mS K 2 x) else mS K 2 x
def tS (K : Nat → Int32) (a b : Nat) (T : Nat) : Nat × Int32 := if (K T).toInt ≤ 20 ∨ 30 < (K T).toInt then (T, 1) else if K T = 29 ∧ a = 4 ∨ K T = 30 ∧ b = 4 then (T, 2) else mS K 4 (lS K (K T) (pS (T, 0)))
/-- behind so many lines, with so many chords and macros -/
def sx (K : Nat → Int32) : Nat → (Nat × Int32) × Nat × Nat
  | 0 => (mS K 4 (mS K 2 (mS K 2 (mS K 20 (0, 0)))), 0, 0)
  | i + 1 => if (sx K i).1.2 = 0 ∧ ¬ K (sx K i).1.1 = 0 then (tS K (sx K i).2.1 (sx K i).2.2 (sx K i).1.1, (sx K i).2.1 + (if K (sx K i).1.1 = 29 then 1 else 0), (sx K i).2.2 + (if K (sx K i).1.1 = 30 then 1 else 0)) else sx K i
def stp2 (K : Nat → Int32) (s : (Nat × Int32) × Nat × Nat) : Prop := ¬ (s.1.2 = 0 ∧ ¬ K s.1.1 = 0)
theorem sx_st {K : Nat → Int32} {i : Nat} (h : stp2 K (sx K i)) : ∀ m, sx K (i + m) = sx K i := by
  intro m
  induction m with
  | zero => rfl
  | succ m ih =>
    show (if (sx K (i + m)).1.2 = 0 ∧ ¬ K (sx K (i + m)).1.1 = 0 then _ else sx K (i + m)) = sx K i
    rw [ih, if_neg h]
/-- it stops in one way -/
theorem sx_un {K : Nat → Int32} {i j : Nat} (h : stp2 K (sx K i)) (k : stp2 K (sx K j)) : sx K i = sx K j := by
  rcases Nat.le_total i j with q | q
  · rw [← sx_st h (j - i), show i + (j - i) = j by omega]
  · rw [← sx_st k (i - j), show j + (i - j) = i by omega]
theorem mS_n {K : Nat → Int32} {k : Int32} {x : Nat × Int32} (h : ¬ x.2 = 0) : mS K k x = x := if_neg h
theorem dS_n {K : Nat → Int32} {x : Nat × Int32} (h : ¬ x.2 = 0) : dS K x = x := if_neg h
theorem lmS_n {K : Nat → Int32} {x : Nat × Int32} (h : ¬ x.2 = 0) : lmS K x = x := if_neg h
theorem iS_n {K : Nat → Int32} {k : Nat} {x : Nat × Int32} (h : ¬ x.2 = 0) : iS K k x = x := by
  cases k with
  | zero => exact if_neg (fun z => h z.1)
  | succ k => exact if_neg (fun z => h z.1)
/-! the model's grammar -/
def XM (d : Ds) : Nat × Int32 := (pT d, dI d 328 12)
def FI (d : Ds) : Prop := 0 ≤ (dI d 328 12).toInt ∧ (¬ dI d 328 12 = 0 → dI d 328 13 = dI d 332 (pT d)) ∧ iv (dI d 328 11) 0 400
def FRM (d d' : Ds) : Prop := ∀ r j, ¬ (r = 328 ∧ (j = 11 ∨ j = 12 ∨ j = 13)) → dI d' r j = dI d r j
theorem FRM.rf {d : Ds} : FRM d d := fun _ _ _ => rfl
theorem FRM.tr {d dd d' : Ds} (h : FRM d dd) (h2 : FRM dd d') : FRM d d' := fun r j q => (h2 r j q).trans (h r j q)
theorem FRM.tk {d d' : Ds} (h : FRM d d') : tk d' = tk d := funext (fun j => h 331 j (fun z => absurd z.1 (by decide)))
def CM (d d' : Ds) (y : Nat × Int32) : Prop := XM d' = y ∧ FI d' ∧ FRM d d'
theorem CM.tr {d dd d' : Ds} {y z : Nat × Int32} (h : CM d dd y) (h2 : CM dd d' z) : CM d d' z := ⟨h2.1, h2.2.1, h.2.2.tr h2.2.2⟩
theorem failM_x {N : Nat} {g : Gs} (hS : Shp g) {k : Int32} {d : Ds} (hk : 1 ≤ k.toInt) (hF : FI d) : pc (fX12_fail N g 328 k d) (fun _ d' => CM d d' (if (XM d).2 = 0 then ((XM d).1, k) else XM d)) := by
  have e0 : (0 : Int32).toInt = 0 := by decide
  unfold fX12_fail
  refine pc_gd (fun _ => pc_if (fun c => ?_) (fun c => ?_))
  · have c2 := Int32.le_iff_toInt_le.mp c
    have hz : (XM d).2 = 0 := Int32.toInt_inj.mp (by have := hF.1; show (dI d 328 12).toInt = _; omega)
    rw [if_pos hz]
    refine pc_bd (fun d3 e3 => pc_ob (fun r4 e4 => ?_))
    have := gq hS (e := 332) (by decide +kernel) e4
    subst this
    refine pc_gd (fun _ => pc_gd (fun _ => pc_bd (fun d7 e7 => ?_)))
    have q11 : dI d3 328 11 = dI d 328 11 := rdq e3 (Or.inr (by decide))
    have q11' : dI d7 328 11 = dI d 328 11 := (rdq e7 (Or.inr (by decide))).trans q11
    have q12 : dI d7 328 12 = k := by rw [rdq e7 (Or.inr (by decide)), e3, sI_rd, if_pos ⟨rfl, rfl⟩]
    have pT7 : pT d7 = pT d := by unfold pT; rw [q11']
    refine pc_some ⟨by unfold XM; rw [pT7, q12], ⟨by rw [q12]; omega, fun _ => ?_, by rw [q11']; exact hF.2.2⟩, fun r j h => ?_⟩
    · have a1 : dI d7 328 13 = dI d3 332 (dI d3 328 11).toNatClampNeg := by rw [e7, sI_rd, if_pos ⟨rfl, rfl⟩]
      have a2 : dI d7 332 (pT d) = dI d3 332 (pT d) := rdq e7 (Or.inl (by decide))
      rw [pT7, a1, a2, q11]
      rfl
    · rw [e7, sI_rd, if_neg (fun z => h ⟨z.1, Or.inr (Or.inr z.2)⟩), e3, sI_rd, if_neg (fun z => h ⟨z.1, Or.inr (Or.inl z.2)⟩)]
  · have c2 := Int32.lt_iff_toInt_lt.mp (nle c)
    have hz : ¬ (XM d).2 = 0 := fun z => by
      have : dI d 328 12 = 0 := z
      rw [this] at c2
      omega
    rw [if_neg hz]
    exact pc_some ⟨rfl, hF, FRM.rf⟩
theorem passesM_x {N : Nat} {g : Gs} (hS : Shp g) {d : Ds} (hz : dI d 328 12 = 0) (hF : FI d) : pc (fX12_passes N g 328 d) (fun _ d' => CM d d' (pS (XM d))) := by
  have e1 : (1 : Int32).toInt = 1 := by decide
  have e400 : (400 : Int32).toInt = 400 := by decide
  have hp : pS (XM d) = if pT d = 400 then (pT d, 2) else (pT d + 1, 0) := if_pos hz
  unfold fX12_passes
  refine pc_gd (fun _ => pc_if (fun c => ?_) (fun c => ?_))
  · refine pc_cv (failM_x hS (by decide) hF) (fun d4 r => ?_)
    unfold fX12_passes_J28
    have h4 : pT d = 400 := by unfold pT; rw [c]; decide
    rw [if_pos (show (XM d).2 = 0 from hz)] at r
    exact pc_some (by rw [hp, if_pos h4]; exact r)
  · refine pc_bd (fun d3 e3 => ?_)
    unfold fX12_passes_J28
    have hn : ¬ (dI d 328 11).toInt = 400 := fun z => c (Int32.toInt_inj.mp (z.trans e400.symm))
    have h1 := hF.2.2.1
    have h2 := hF.2.2.2
    have q := z_add (x := dI d 328 11) (y := 1) rfl e1 (by omega) (by omega)
    have p3 : pT d3 = pT d + 1 := by
      show (dI d3 328 11).toInt.toNat = (dI d 328 11).toInt.toNat + 1
      rw [e3, sI_rd, if_pos ⟨rfl, rfl⟩, q]
      omega
    have q12 : dI d3 328 12 = dI d 328 12 := rdq e3 (Or.inr (by decide))
    have hn2 : ¬ pT d = 400 := by
      show ¬ (dI d 328 11).toInt.toNat = 400
      omega
    refine pc_some ⟨by rw [hp, if_neg hn2]; unfold XM; rw [p3, q12, hz], ⟨by rw [q12]; exact hF.1, fun z => absurd (q12.trans hz) z, by rw [e3, sI_rd, if_pos ⟨rfl, rfl⟩]; exact ⟨by omega, by omega⟩⟩, fun r j h => ?_⟩
    rw [e3, sI_rd, if_neg (fun z => h ⟨z.1, Or.inl z.2⟩)]
theorem isM_x {N : Nat} {g : Gs} (hS : Shp g) {k : Int32} {d : Ds} : pc (fX12_is N g 328 k d) (fun u d' => d' = d ∧ (u = 1 ∧ (dI d 328 12 = 0 ∧ tk d (pT d) = k) ∨ u = 0 ∧ ¬ (dI d 328 12 = 0 ∧ tk d (pT d) = k))) := by
  have no : ¬ (dI d 328 12 = 0 ∧ tk d (pT d) = k) → pc (fX12_is_J24 N g 328 k d) (fun u d' => d' = d ∧ (u = 1 ∧ (dI d 328 12 = 0 ∧ tk d (pT d) = k) ∨ u = 0 ∧ ¬ (dI d 328 12 = 0 ∧ tk d (pT d) = k))) := by
    intro h
    unfold fX12_is_J24 fX12_is_J25
    exact pc_gd (fun _ => pc_some ⟨rfl, Or.inr ⟨rfl, h⟩⟩)
  unfold fX12_is
  refine pc_gd (fun _ => pc_if (fun c1 => ?_) (fun c1 => no (fun z => c1 z.1)))
  refine pc_ob (fun r e => ?_)
  have := gq hS (e := 331) (by decide +kernel) e
  subst this
  refine pc_gd (fun _ => pc_gd (fun _ => pc_if (fun c => ?_) (fun c => no (fun z => c z.2))))
  unfold fX12_is_J25
  exact pc_gd (fun _ => pc_some ⟨rfl, Or.inl ⟨rfl, c1, c⟩⟩)
/-- the token's number stays in its bounds -/
theorem XM_t {d d' : Ds} {y : Nat × Int32} (h : CM d d' y) : pT d' = y.1 ∧ dI d' 328 12 = y.2 := ⟨congrArg Prod.fst h.1, congrArg Prod.snd h.1⟩
theorem mustM_x {N : Nat} {g : Gs} (hS : Shp g) {k : Int32} {d : Ds} (hF : FI d) : pc (fX12_must N g 328 k d) (fun _ d' => CM d d' (mS (tk d) k (XM d))) := by
  unfold fX12_must
  refine pc_gd (fun _ => pc_cb (isM_x hS) (fun u4 d2 r => ?_))
  obtain ⟨e, hu⟩ := r
  subst e
  rcases hu with ⟨hu, c0, c1⟩ | ⟨hu, c⟩ <;> rw [hu]
  · refine pc_if (fun z => absurd z (by decide)) (fun _ => pc_cv (passesM_x hS c0 hF) (fun d8 r => ?_))
    unfold fX12_must_J20
    have e : mS (tk d2) k (XM d2) = pS (XM d2) := by
      unfold mS
      rw [if_pos (show (XM d2).2 = 0 from c0), if_pos (show tk d2 (XM d2).1 = k from c1)]
    exact pc_some (by rw [e]; exact r)
  · refine pc_if (fun _ => pc_cv (failM_x hS (by decide) hF) (fun d6 r => ?_)) (fun z => absurd rfl z)
    unfold fX12_must_J20
    refine pc_some ?_
    by_cases z : dI d2 328 12 = 0
    · have e : mS (tk d2) k (XM d2) = ((XM d2).1, 1) := by
        unfold mS
        rw [if_pos (show (XM d2).2 = 0 from z), if_neg (show ¬ tk d2 (XM d2).1 = k from fun y => c ⟨z, y⟩)]
      rw [if_pos (show (XM d2).2 = 0 from z)] at r
      rw [e]
      exact r
    · rw [if_neg (show ¬ (XM d2).2 = 0 from z)] at r
      rw [mS_n (show ¬ (XM d2).2 = 0 from z)]
      exact r
theorem FI.st {d d' : Ds} (h : FI d) (f : ∀ r j, (r = 328 ∧ (j = 11 ∨ j = 12 ∨ j = 13)) ∨ r = 332 → dI d' r j = dI d r j) : FI d' := by
  have a := f 328 11 (Or.inl ⟨rfl, Or.inl rfl⟩)
  have b := f 328 12 (Or.inl ⟨rfl, Or.inr (Or.inl rfl)⟩)
  have c := f 328 13 (Or.inl ⟨rfl, Or.inr (Or.inr rfl)⟩)
  refine ⟨by rw [b]; exact h.1, fun z => ?_, by rw [a]; exact h.2.2⟩
  have e : pT d' = pT d := by unfold pT; rw [a]
  rw [b] at z
  rw [c, e, f 332 (pT d) (Or.inr rfl)]
  exact h.2.1 z
theorem CM.rf {d : Ds} (h : FI d) : CM d d (XM d) := ⟨rfl, h, FRM.rf⟩
theorem CM.must {N : Nat} {g : Gs} (hS : Shp g) {d0 d : Ds} {k : Int32} {x : Nat × Int32} (h : CM d0 d x) : pc (fX12_must N g 328 k d) (fun _ d' => CM d0 d' (mS (tk d0) k x)) := by
  intro a d' e
  have r := mustM_x hS h.2.1 a d' e
  rw [h.2.2.tk, h.1] at r
  exact h.tr r
theorem XM_0 {d : Ds} {x : Nat × Int32} (h : XM d = x) : dI d 328 12 = x.2 ∧ pT d = x.1 := ⟨congrArg Prod.snd h, congrArg Prod.fst h⟩
theorem dgh {x : Int32} {n : Nat} (h : x.toNatClampNeg = n) (k : 0 ≤ x.toInt) : x.toInt = (n : Int) := by
  have : x.toInt.toNat = n := h
  omega
/-- a deed -/
theorem deedRead_x {g : Gs} (hS : Shp g) {d0 d : Ds} {x : Nat × Int32} (h : CM d0 d x) : pc (fX12_deedRead 10000 g 328 d) (fun _ d' => CM d0 d' (dS (tk d0) x)) := by
  have e31 : (31 : Int32).toInt = 31 := by decide
  have e39 : (39 : Int32).toInt = 39 := by decide
  have e0 : (0 : Int32).toInt = 0 := by decide
  obtain ⟨x2, x1⟩ := XM_0 h.1
  have ht : tk d = tk d0 := h.2.2.tk
  obtain ⟨K, hK⟩ : ∃ K, tk d0 = K := ⟨_, rfl⟩
  have jf : (x.2 = 0 → (K x.1).toInt < 31 ∨ 39 < (K x.1).toInt) → pc (fX12_deedRead_J33 10000 g 328 d) (fun _ d' => CM d0 d' (dS (tk d0) x)) := by
    intro q
    unfold fX12_deedRead_J33
    refine pc_gd (fun _ => pc_cv (failM_x hS (by decide) h.2.1) (fun d5 r => pc_some ?_))
    rw [h.1] at r
    have e : dS (tk d0) x = if x.2 = 0 then (x.1, 1) else x := by
      unfold dS
      rw [hK]
      by_cases z : x.2 = 0
      · rw [if_pos z, if_pos z, if_pos (q z)]
      · rw [if_neg z, if_neg z]
    rw [e]
    exact h.tr r
  have j109 : ∀ {d1 : Ds} {y : Nat × Int32}, CM d0 d1 y → pc (fX12_deedRead_J109 10000 g 328 d1) (fun _ d' => CM d0 d' (mS (tk d0) 2 y)) := by
    intro d1 y r
    unfold fX12_deedRead_J109
    exact pc_gd (fun _ => pc_cv (r.must hS) (fun d2 r2 => pc_some r2))
  have j72 : ∀ {d1 : Ds} {y : Nat × Int32} {z0 : Int32}, CM d0 d1 y → pc (fX12_deedRead_J72 10000 g 328 z0 d1) (fun _ d' => CM d0 d' (if z0 = 37 then mS (tk d0) 2 (lmS (tk d0) y) else y)) := by
    intro d1 y z0 r
    obtain ⟨y2, y1⟩ := XM_0 r.1
    have j97 : (y.2 = 0 ∧ (tk d0 y.1 = 33 ∨ tk d0 y.1 = 32)) → pc (fX12_deedRead_J97 10000 g 328 d1) (fun _ d' => CM d0 d' (mS (tk d0) 2 (lmS (tk d0) y))) := by
      intro q
      unfold fX12_deedRead_J97
      refine pc_gd (fun _ => pc_cv (passesM_x hS (by rw [y2]; exact q.1) r.2.1) (fun d2 r2 => ?_))
      rw [r.1] at r2
      have e : lmS (tk d0) y = pS y := by unfold lmS; rw [if_pos q.1, if_pos q.2]
      rw [e]
      exact j109 (r.tr r2)
    unfold fX12_deedRead_J72
    refine pc_if (fun c => ?_) (fun c => ?_)
    · rw [if_pos c]
      refine pc_gd (fun _ => pc_cb (isM_x hS) (fun u d2 q => ?_))
      obtain ⟨e, hu⟩ := q
      subst e
      rw [r.2.2.tk, y2, y1] at hu
      rcases hu with ⟨hu, c0, c1⟩ | ⟨hu, c33⟩ <;> rw [hu]
      · exact pc_if (fun z => absurd z (by decide)) (fun _ => j97 ⟨c0, Or.inl c1⟩)
      · refine pc_if (fun _ => pc_cb (isM_x hS) (fun u d3 q => ?_)) (fun z => absurd rfl z)
        obtain ⟨e, hu⟩ := q
        subst e
        rw [r.2.2.tk, y2, y1] at hu
        rcases hu with ⟨hu, c0, c1⟩ | ⟨hu, c32⟩ <;> rw [hu]
        · exact pc_if (fun z => absurd z (by decide)) (fun _ => j97 ⟨c0, Or.inr c1⟩)
        · refine pc_if (fun _ => pc_cv (failM_x hS (by decide) r.2.1) (fun d5 r5 => ?_)) (fun z => absurd rfl z)
          rw [r.1] at r5
          have e : lmS (tk d0) y = if y.2 = 0 then (y.1, 1) else y := by
            unfold lmS
            by_cases z : y.2 = 0
            · rw [if_pos z, if_pos z, if_neg (fun q => q.elim (fun q => c33 ⟨z, q⟩) (fun q => c32 ⟨z, q⟩))]
            · rw [if_neg z, if_neg z]
          rw [e]
          exact j109 (r.tr r5)
    · rw [if_neg c]
      exact pc_some r
  have j20 : x.2 = 0 → pc (fX12_deedRead_J20 10000 g 328 (K x.1) d) (fun _ d' => CM d0 d' (dS (tk d0) x)) := by
    intro hz
    unfold fX12_deedRead_J20
    refine pc_if (fun c => jf (fun _ => Or.inl (by have := Int32.lt_iff_toInt_lt.mp c; omega))) (fun c1 => pc_if (fun c2 => ?_) (fun c => jf (fun _ => Or.inr (by have := Int32.lt_iff_toInt_lt.mp (nle c); omega))))
    have b1 := Int32.le_iff_toInt_le.mp (nlt c1)
    have b2 := Int32.le_iff_toInt_le.mp c2
    have eD : dS (tk d0) x = if K x.1 = 35 ∨ K x.1 = 36 then pS x else if K x.1 = 37 then mS (tk d0) 2 (lmS (tk d0) (mS (tk d0) 2 (pS x))) else if K x.1 = 38 then mS (tk d0) 2 (mS (tk d0) 2 (pS x)) else mS (tk d0) 2 (pS x) := by
      unfold dS
      rw [if_pos hz, hK, if_neg (fun z => by omega)]
    rw [eD]
    refine pc_gd (fun _ => pc_cv (passesM_x hS (by rw [x2]; exact hz) h.2.1) (fun d9 r9 => ?_))
    rw [h.1] at r9
    have r := h.tr r9
    refine pc_if (fun c => ?_) (fun c35 => pc_if (fun c => ?_) (fun c36 => ?_))
    · rw [if_pos (Or.inl c)]
      unfold fX12_deedRead_J55
      exact pc_some r
    · rw [if_pos (Or.inr c)]
      unfold fX12_deedRead_J55
      exact pc_some r
    · rw [if_neg (fun z => z.elim c35 c36)]
      refine pc_cv (r.must hS) (fun d13 r13 => pc_if (fun c => ?_) (fun c38 => ?_))
      · rw [c, if_neg (by decide), if_pos rfl]
        refine pc_cv (r13.must hS) (fun d34 r34 => ?_)
        intro a d' e
        have := j72 r34 a d' e
        rw [if_neg (by decide)] at this
        exact this
      · rw [if_neg c38]
        exact j72 r13
  unfold fX12_deedRead
  refine pc_gd (fun _ => pc_if (fun c => ?_) (fun c => ?_))
  · refine pc_ob (fun r e => ?_)
    have := gq hS (e := 331) (by decide +kernel) e
    subst this
    refine pc_gd (fun _ => pc_gd (fun _ => ?_))
    have : dI d 331 (dI d 328 11).toNatClampNeg = K x.1 := by
      rw [← hK, ← ht, ← x1]
      rfl
    rw [this]
    exact j20 (by rw [← x2]; exact c)
  · unfold fX12_deedRead_J20
    exact pc_if (fun _ => jf (fun z => absurd (x2.trans z) c)) (fun z => absurd (by decide) z)
/-- a line's frame -/
def FRT (d d' : Ds) : Prop := ∀ r j, ¬ (r = 328 ∧ (j = 11 ∨ j = 12 ∨ j = 13 ∨ j = 20 ∨ j = 21)) → dI d' r j = dI d r j
theorem FRT.rf {d : Ds} : FRT d d := fun _ _ _ => rfl
theorem FRT.tr {d dd d' : Ds} (h : FRT d dd) (h2 : FRT dd d') : FRT d d' := fun r j q => (h2 r j q).trans (h r j q)
theorem FRM.t {d d' : Ds} (h : FRM d d') : FRT d d' := fun r j q => h r j (fun z => q ⟨z.1, z.2.elim Or.inl (fun z => Or.inr (z.elim Or.inl (fun z => Or.inr (Or.inl z))))⟩)
theorem FRT.tk {d d' : Ds} (h : FRT d d') : tk d' = tk d := funext (fun j => h 331 j (fun z => absurd z.1 (by decide)))
section TL
variable {g : Gs} {d0 d : Ds} {x : Nat × Int32} {c : Int32}
theorem t188 (hS : Shp g) (h : CM d0 d x) : pc (fX12_tell_J188 10000 g 328 d) (fun _ d' => CM d0 d' (mS (tk d0) 4 x)) := by
  unfold fX12_tell_J188
  exact pc_gd (fun _ => pc_cv (h.must hS) (fun d2 r2 => pc_some r2))
theorem t156 (hS : Shp g) (h : CM d0 d x) : pc (fX12_tell_L156 10000 g 328 (1, d)) (fun _ d' => CM d0 d' (mS (tk d0) 4 (iS (tk d0) 7 x))) := by
  have e1 : (1 : Int32).toInt = 1 := by decide
  have e8 : (8 : Int32).toInt = 8 := by decide
  obtain ⟨K, hK⟩ : ∃ K, tk d0 = K := ⟨_, rfl⟩
  obtain ⟨X0, hX⟩ : ∃ X0, iS (tk d0) 7 x = X0 := ⟨_, rfl⟩
  rw [hX]
  unfold fX12_tell_L156
  refine pc_lp (fun a => ∃ z, CM d0 a.2 z ∧ ((∃ k : Nat, k ≤ 7 ∧ a.1.toInt = 8 - (k : Int) ∧ iS (tk d0) k z = X0) ∨ ¬ z.2 = 0 ∧ z = X0)) ?_ 10000 (1, d) ⟨x, h, Or.inl ⟨7, by decide, (by decide : (1 : Int32).toInt = 8 - ((7 : Nat) : Int)), hX⟩⟩
  rintro K' ⟨y2, dd⟩ ⟨z, hC, hz⟩ hK'
  dsimp only at hC hz hK' ⊢
  obtain ⟨x2, x1⟩ := XM_0 hC.1
  unfold fX12_tell_B156
  refine pc_gd (fun _ => pc_cb (isM_x hS) (fun u d2 q => ?_))
  obtain ⟨e, hu⟩ := q
  subst e
  rw [hC.2.2.tk, x2, x1] at hu
  rcases hu with ⟨hu, c0, c1⟩ | ⟨hu, cn⟩ <;> rw [hu]
  · refine pc_if (fun z => absurd z (by decide)) (fun _ => ?_)
    rcases hz with ⟨k, hk, hy, hi⟩ | ⟨hz, _⟩
    · refine pc_if (fun c => ?_) (fun c => ?_)
      · have hk0 : k = 0 := by rw [c, e8] at hy; omega
        subst hk0
        refine pc_cv (failM_x hS (by decide) hC.2.1) (fun d5 r5 => ?_)
        rw [hC.1, if_pos c0] at r5
        unfold fX12_tell_J182
        refine pc_bd (fun u39 e39 => hK' _ ⟨(z.1, 2), hC.tr r5, Or.inr ⟨(show ¬ (2 : Int32) = 0 by decide), ?_⟩⟩)
        rw [← hi]
        exact (if_pos ⟨c0, c1⟩).symm
      · have hk0 : ¬ k = 0 := fun q => c (Int32.toInt_inj.mp (by rw [hy, e8, q]; rfl))
        refine pc_cv (passesM_x hS (by rw [x2]; exact c0) hC.2.1) (fun d5 r5 => ?_)
        rw [hC.1] at r5
        unfold fX12_tell_J182
        refine pc_bd (fun u39 e39 => hK' _ ⟨pS z, hC.tr r5, Or.inl ⟨k - 1, by omega, ?_, ?_⟩⟩)
        · dsimp only
          rw [e39, z_add hy e1 (by omega) (by omega)]
          omega
        · rw [← hi]
          obtain ⟨m, hm⟩ : ∃ m, k = m + 1 := ⟨k - 1, by omega⟩
          subst hm
          exact (if_pos ⟨c0, c1⟩).symm
    · exact absurd c0 hz
  · refine pc_if (fun _ => ?_) (fun z => absurd rfl z)
    have : X0 = z := by
      rcases hz with ⟨k, hk, hy, hi⟩ | ⟨_, hz⟩
      · rw [← hi]
        cases k with
        | zero => exact if_neg cn
        | succ k => exact if_neg cn
      · exact hz.symm
    rw [this]
    exact t188 hS hC
theorem t148 (hS : Shp g) (h : CM d0 d x) : pc (fX12_tell_J148 10000 g 328 c d) (fun _ d' => CM d0 d' (mS (tk d0) 4 (if c = 30 then iS (tk d0) 7 x else x))) := by
  unfold fX12_tell_J148
  refine pc_if (fun q => ?_) (fun q => ?_)
  · rw [if_pos q]
    exact t156 hS h
  · rw [if_neg q]
    exact t188 hS h
theorem t132 (hS : Shp g) (h : CM d0 d x) : pc (fX12_tell_J132 10000 g 328 c d) (fun _ d' => CM d0 d' (mS (tk d0) 4 (if c = 30 then iS (tk d0) 7 (if c = 28 ∨ c = 29 then dS (tk d0) x else x) else (if c = 28 ∨ c = 29 then dS (tk d0) x else x)))) := by
  have j : pc (fX12_tell_J144 10000 g 328 c d) (fun _ d' => CM d0 d' (mS (tk d0) 4 (if c = 30 then iS (tk d0) 7 (dS (tk d0) x) else dS (tk d0) x))) := by
    unfold fX12_tell_J144
    exact pc_gd (fun _ => pc_cv (deedRead_x hS h) (fun d2 r2 => t148 hS r2))
  unfold fX12_tell_J132
  refine pc_if (fun q => ?_) (fun q => pc_if (fun q2 => ?_) (fun q2 => ?_))
  · rw [if_pos (Or.inl q)]
    exact j
  · rw [if_pos (Or.inr q2)]
    exact j
  · simp only [if_neg (show ¬ (c = 28 ∨ c = 29) from fun z => z.elim q q2)]
    exact t148 hS h
theorem t109 (hS : Shp g) (h : CM d0 d x) {y : Nat × Int32} (hy : (if c = 27 ∨ c = 28 ∨ c = 29 then mS (tk d0) 2 x else x) = y) : pc (fX12_tell_J109 10000 g 328 c d) (fun _ d' => CM d0 d' (mS (tk d0) 4 (if c = 30 then iS (tk d0) 7 (if c = 28 ∨ c = 29 then dS (tk d0) y else y) else (if c = 28 ∨ c = 29 then dS (tk d0) y else y)))) := by
  have j : mS (tk d0) 2 x = y → pc (fX12_tell_J127 10000 g 328 c d) (fun _ d' => CM d0 d' (mS (tk d0) 4 (if c = 30 then iS (tk d0) 7 (if c = 28 ∨ c = 29 then dS (tk d0) y else y) else (if c = 28 ∨ c = 29 then dS (tk d0) y else y)))) := by
    intro e
    subst e
    unfold fX12_tell_J127
    exact pc_gd (fun _ => pc_cv (h.must hS) (fun d2 r2 => t132 hS r2))
  unfold fX12_tell_J109
  refine pc_if (fun q => j ?_) (fun q => pc_if (fun q2 => j ?_) (fun q2 => pc_if (fun q3 => j ?_) (fun q3 => ?_)))
  · rw [if_pos (Or.inl q)] at hy
    exact hy
  · rw [if_pos (Or.inr (Or.inl q2))] at hy
    exact hy
  · rw [if_pos (Or.inr (Or.inr q3))] at hy
    exact hy
  · rw [if_neg (fun z => z.elim q (fun z => z.elim q2 q3))] at hy
    subst hy
    exact t132 hS h
theorem t98 (hS : Shp g) (h : CM d0 d x) : pc (fX12_tell_J98 10000 g 328 c d) (fun _ d' => CM d0 d' (mS (tk d0) 4 (lS (tk d0) c x))) := by
  have e23 : (23 : Int32).toInt = 23 := by decide
  have e27 : (27 : Int32).toInt = 27 := by decide
  have e28 : (28 : Int32).toInt = 28 := by decide
  have e29 : (29 : Int32).toInt = 29 := by decide
  have e30 : (30 : Int32).toInt = 30 := by decide
  unfold fX12_tell_J98
  refine pc_if (fun q => ?_) (fun q => ?_)
  · have q2 := Int32.lt_iff_toInt_lt.mp q
    have n27 : ¬ c = 27 := fun z => by rw [z, e27] at q2; omega
    have n28 : ¬ c = 28 := fun z => by rw [z, e28] at q2; omega
    have n29 : ¬ c = 29 := fun z => by rw [z, e29] at q2; omega
    have n30 : ¬ c = 30 := fun z => by rw [z, e30] at q2; omega
    have e : lS (tk d0) c x = x := if_pos (by omega)
    rw [e]
    intro a d' r
    have := t109 hS h (y := x) (if_neg (fun z => z.elim n27 (fun z => z.elim n28 n29))) a d' r
    rw [if_neg n30, if_neg (fun z => z.elim n28 n29)] at this
    exact this
  · have q2 := Int32.le_iff_toInt_le.mp (nlt q)
    refine pc_gd (fun _ => pc_cv (h.must hS) (fun d2 r2 => ?_))
    intro a d' r
    have := t109 hS r2 rfl a d' r
    have e : (if c = 30 then iS (tk d0) 7 (if c = 28 ∨ c = 29 then dS (tk d0) (if c = 27 ∨ c = 28 ∨ c = 29 then mS (tk d0) 2 (mS (tk d0) 2 x) else mS (tk d0) 2 x) else (if c = 27 ∨ c = 28 ∨ c = 29 then mS (tk d0) 2 (mS (tk d0) 2 x) else mS (tk d0) 2 x)) else (if c = 28 ∨ c = 29 then dS (tk d0) (if c = 27 ∨ c = 28 ∨ c = 29 then mS (tk d0) 2 (mS (tk d0) 2 x) else mS (tk d0) 2 x) else (if c = 27 ∨ c = 28 ∨ c = 29 then mS (tk d0) 2 (mS (tk d0) 2 x) else mS (tk d0) 2 x))) = lS (tk d0) c x := by
      unfold lS
      rw [if_neg (show ¬ c.toInt < 23 by omega)]
      by_cases c28 : c = 28
      · subst c28
        rfl
      · by_cases c29 : c = 29
        · subst c29
          rfl
        · simp only [if_neg (show ¬ (c = 28 ∨ c = 29) from fun z => z.elim c28 c29)]
          by_cases c27 : c = 27
          · subst c27
            rfl
          · simp only [if_neg (show ¬ (c = 27 ∨ c = 28 ∨ c = 29) from fun z => z.elim c27 (fun z => z.elim c28 c29)), if_neg c27]
    rw [← e]
    exact this
end TL
/-- a line -/
theorem tell_x {g : Gs} (hS : Shp g) {d : Ds} {a b : Nat} (hF : FI d) (h12 : dI d 328 12 = 0) (h20 : (dI d 328 20).toInt = (a : Int)) (h21 : (dI d 328 21).toInt = (b : Int)) (ha : a ≤ 4) (hb : b ≤ 4) : pc (fX12_tell 10000 g 328 d) (fun _ d' => XM d' = tS (tk d) a b (pT d) ∧ FI d' ∧ FRT d d' ∧ (dI d' 328 12 = 0 → (dI d' 328 20).toInt = (a : Int) + (if tk d (pT d) = 29 then 1 else 0) ∧ (dI d' 328 21).toInt = (b : Int) + (if tk d (pT d) = 30 then 1 else 0))) := by
  have e1 : (1 : Int32).toInt = 1 := by decide
  have e4 : (4 : Int32).toInt = 4 := by decide
  have e20 : (20 : Int32).toInt = 20 := by decide
  have e30 : (30 : Int32).toInt = 30 := by decide
  obtain ⟨K, hK⟩ : ∃ K, tk d = K := ⟨_, rfl⟩
  obtain ⟨T, hT⟩ : ∃ T, pT d = T := ⟨_, rfl⟩
  rw [hK, hT]
  have hX : XM d = (T, 0) := by unfold XM; rw [hT, h12]
  have j22 : ((K T).toInt ≤ 20 ∨ 30 < (K T).toInt) → pc (fX12_tell_J22 10000 g 328 d) (fun _ d' => XM d' = tS K a b T ∧ FI d' ∧ FRT d d' ∧ (dI d' 328 12 = 0 → (dI d' 328 20).toInt = (a : Int) + (if K T = 29 then 1 else 0) ∧ (dI d' 328 21).toInt = (b : Int) + (if K T = 30 then 1 else 0))) := by
    intro q
    unfold fX12_tell_J22
    refine pc_gd (fun _ => pc_cv (failM_x hS (by decide) hF) (fun d5 r => pc_some ?_))
    rw [hX, if_pos rfl] at r
    refine ⟨by rw [r.1]; unfold tS; rw [if_pos q], r.2.1, r.2.2.t, fun z => ?_⟩
    have := (XM_0 r.1).1
    rw [z] at this
    exact absurd this (show ¬ (0 : Int32) = 1 by decide)
  have j56 : ¬ ((K T).toInt ≤ 20 ∨ 30 < (K T).toInt) → (K T = 29 ∧ a = 4 ∨ K T = 30 ∧ b = 4) → pc (fX12_tell_J56 10000 g 328 d) (fun _ d' => XM d' = tS K a b T ∧ FI d' ∧ FRT d d' ∧ (dI d' 328 12 = 0 → (dI d' 328 20).toInt = (a : Int) + (if K T = 29 then 1 else 0) ∧ (dI d' 328 21).toInt = (b : Int) + (if K T = 30 then 1 else 0))) := by
    intro q q2
    unfold fX12_tell_J56
    refine pc_gd (fun _ => pc_cv (failM_x hS (by decide) hF) (fun d5 r => pc_some ?_))
    rw [hX, if_pos rfl] at r
    refine ⟨by rw [r.1]; unfold tS; rw [if_neg q, if_pos q2], r.2.1, r.2.2.t, fun z => ?_⟩
    have := (XM_0 r.1).1
    rw [z] at this
    exact absurd this (show ¬ (0 : Int32) = 2 by decide)
  have j62 : ¬ ((K T).toInt ≤ 20 ∨ 30 < (K T).toInt) → ¬ (K T = 29 ∧ a = 4 ∨ K T = 30 ∧ b = 4) → pc (fX12_tell_J62 10000 g 328 (K T) d) (fun _ d' => XM d' = tS K a b T ∧ FI d' ∧ FRT d d' ∧ (dI d' 328 12 = 0 → (dI d' 328 20).toInt = (a : Int) + (if K T = 29 then 1 else 0) ∧ (dI d' 328 21).toInt = (b : Int) + (if K T = 30 then 1 else 0))) := by
    intro q q2
    have eT : tS K a b T = mS K 4 (lS K (K T) (pS (T, 0))) := by
      unfold tS
      rw [if_neg q, if_neg q2]
    rw [eT]
    have fin : ∀ {d1 : Ds}, XM d1 = pS (T, 0) → FI d1 → FRT d d1 → (dI d1 328 20).toInt = (a : Int) + (if K T = 29 then 1 else 0) → (dI d1 328 21).toInt = (b : Int) + (if K T = 30 then 1 else 0) → pc (fX12_tell_J98 10000 g 328 (K T) d1) (fun _ d' => XM d' = mS K 4 (lS K (K T) (pS (T, 0))) ∧ FI d' ∧ FRT d d' ∧ (dI d' 328 12 = 0 → (dI d' 328 20).toInt = (a : Int) + (if K T = 29 then 1 else 0) ∧ (dI d' 328 21).toInt = (b : Int) + (if K T = 30 then 1 else 0))) := by
      intro d1 hx hf fr c20 c21
      have hc := CM.rf hf
      rw [hx] at hc
      intro u d' e
      have r := t98 hS (c := K T) hc u d' e
      rw [fr.tk, hK] at r
      refine ⟨r.1, r.2.1, fr.tr r.2.2.t, fun _ => ⟨?_, ?_⟩⟩
      · rw [r.2.2 328 20 (by decide)]
        exact c20
      · rw [r.2.2 328 21 (by decide)]
        exact c21
    have j82 : ∀ {d1 : Ds}, XM d1 = pS (T, 0) → FI d1 → FRT d d1 → (dI d1 328 20).toInt = (a : Int) + (if K T = 29 then 1 else 0) → dI d1 328 21 = dI d 328 21 → pc (fX12_tell_J82 10000 g 328 (K T) d1) (fun _ d' => XM d' = mS K 4 (lS K (K T) (pS (T, 0))) ∧ FI d' ∧ FRT d d' ∧ (dI d' 328 12 = 0 → (dI d' 328 20).toInt = (a : Int) + (if K T = 29 then 1 else 0) ∧ (dI d' 328 21).toInt = (b : Int) + (if K T = 30 then 1 else 0))) := by
      intro d1 hx hf fr c20 c21
      unfold fX12_tell_J82
      refine pc_if (fun c => ?_) (fun c => ?_)
      · refine pc_gd (fun _ => pc_bd (fun d49 e49 => ?_))
        have f1 : ∀ r j, ¬ (r = 328 ∧ j = 21) → dI d49 r j = dI d1 r j := fun r j z => by rw [e49, sI_rd, if_neg z]
        have hf2 : FI d49 := hf.st (fun r j z => f1 r j (fun y => by
          rcases z with z | z
          · omega
          · rw [y.1] at z; exact absurd z (by decide)))
        have hx2 : XM d49 = pS (T, 0) := by
          rw [← hx]
          unfold XM pT
          rw [f1 328 11 (by decide), f1 328 12 (by decide)]
        refine fin hx2 hf2 (fr.tr (fun r j z => f1 r j (fun y => z ⟨y.1, Or.inr (Or.inr (Or.inr (Or.inr y.2)))⟩))) (by rw [f1 328 20 (by decide)]; exact c20) ?_
        rw [e49, sI_rd, if_pos ⟨rfl, rfl⟩, c21, if_pos c]
        exact z_add h21 e1 (by omega) (by omega)
      · exact fin hx hf fr c20 (by rw [c21, if_neg c, h21]; omega)
    unfold fX12_tell_J62
    refine pc_gd (fun _ => pc_cv (passesM_x hS h12 hF) (fun d14 r => ?_))
    rw [hX] at r
    refine pc_if (fun c => ?_) (fun c => ?_)
    · refine pc_bd (fun d50 e50 => ?_)
      have f1 : ∀ r j, ¬ (r = 328 ∧ j = 20) → dI d50 r j = dI d14 r j := fun r j z => by rw [e50, sI_rd, if_neg z]
      have hf2 : FI d50 := r.2.1.st (fun r j z => f1 r j (fun y => by
        rcases z with z | z
        · omega
        · rw [y.1] at z; exact absurd z (by decide)))
      have hx2 : XM d50 = pS (T, 0) := by
        rw [← r.1]
        unfold XM pT
        rw [f1 328 11 (by decide), f1 328 12 (by decide)]
      refine j82 hx2 hf2 (r.2.2.t.tr (fun r j z => f1 r j (fun y => z ⟨y.1, Or.inr (Or.inr (Or.inr (Or.inl y.2)))⟩))) ?_ (by rw [f1 328 21 (by decide), r.2.2 328 21 (by decide)])
      rw [e50, sI_rd, if_pos ⟨rfl, rfl⟩, r.2.2 328 20 (by decide), if_pos c]
      exact z_add h20 e1 (by omega) (by omega)
    · exact j82 r.1 r.2.1 r.2.2.t (by rw [r.2.2 328 20 (by decide), if_neg c, h20]; omega) (r.2.2 328 21 (by decide))
  have j42 : ¬ ((K T).toInt ≤ 20 ∨ 30 < (K T).toInt) → ¬ (K T = 29 ∧ a = 4) → pc (fX12_tell_J42 10000 g 328 (K T) d) (fun _ d' => XM d' = tS K a b T ∧ FI d' ∧ FRT d d' ∧ (dI d' 328 12 = 0 → (dI d' 328 20).toInt = (a : Int) + (if K T = 29 then 1 else 0) ∧ (dI d' 328 21).toInt = (b : Int) + (if K T = 30 then 1 else 0))) := by
    intro q q2
    unfold fX12_tell_J42
    refine pc_if (fun c => ?_) (fun c => ?_)
    · refine pc_gd (fun _ => pc_if (fun c2 => ?_) (fun c2 => ?_))
      · exact j56 q (Or.inr ⟨c, by rw [c2, e4] at h21; omega⟩)
      · exact j62 q (fun z => z.elim q2 (fun z => c2 (Int32.toInt_inj.mp (by rw [h21, e4, z.2]; rfl))))
    · exact j62 q (fun z => z.elim q2 (fun z => c z.1))
  unfold fX12_tell
  refine pc_gd (fun _ => pc_ob (fun r e => ?_))
  have := gq hS (e := 331) (by decide +kernel) e
  subst this
  refine pc_gd (fun _ => pc_gd (fun _ => pc_bd (fun u5 e5 => ?_)))
  have hu : u5 = K T := by
    rw [e5, ← hK, ← hT]
    rfl
  rw [hu]
  refine pc_if (fun c => j22 (Or.inl (by have := Int32.le_iff_toInt_le.mp c; omega))) (fun c1 => pc_if (fun c2 => ?_) (fun c => j22 (Or.inr (by have := Int32.lt_iff_toInt_lt.mp (nle c); omega))))
  have b1 := Int32.lt_iff_toInt_lt.mp (nle c1)
  have b2 := Int32.le_iff_toInt_le.mp c2
  have nq : ¬ ((K T).toInt ≤ 20 ∨ 30 < (K T).toInt) := by omega
  refine pc_if (fun c => pc_if (fun c2 => ?_) (fun c2 => ?_)) (fun c => j42 nq (fun z => c z.1))
  · exact j56 nq (Or.inl ⟨c, by rw [c2, e4] at h20; omega⟩)
  · exact j42 nq (fun z => c2 (Int32.toInt_inj.mp (by rw [h20, e4, z.2]; rfl)))
/-! the model behind its grammar -/
theorem sx_c {K : Nat → Int32} : ∀ i, (sx K i).1.2 = 0 → (sx K i).2.1 ≤ 4 ∧ (sx K i).2.2 ≤ 4 := by
  intro i
  induction i with
  | zero => intro _; exact ⟨Nat.zero_le _, Nat.zero_le _⟩
  | succ i ih =>
    intro h
    by_cases q : (sx K i).1.2 = 0 ∧ ¬ K (sx K i).1.1 = 0
    · have e : sx K (i + 1) = (tS K (sx K i).2.1 (sx K i).2.2 (sx K i).1.1, (sx K i).2.1 + (if K (sx K i).1.1 = 29 then 1 else 0), (sx K i).2.2 + (if K (sx K i).1.1 = 30 then 1 else 0)) := if_pos q
      rw [e] at h ⊢
      obtain ⟨i1, i2⟩ := ih q.1
      have h2 : (tS K (sx K i).2.1 (sx K i).2.2 (sx K i).1.1).2 = 0 := h
      have n : ¬ (K (sx K i).1.1 = 29 ∧ (sx K i).2.1 = 4 ∨ K (sx K i).1.1 = 30 ∧ (sx K i).2.2 = 4) := by
        intro z
        unfold tS at h2
        by_cases q1 : (K (sx K i).1.1).toInt ≤ 20 ∨ 30 < (K (sx K i).1.1).toInt
        · rw [if_pos q1] at h2
          exact absurd h2 (show ¬ (1 : Int32) = 0 by decide)
        · rw [if_neg q1, if_pos z] at h2
          exact absurd h2 (show ¬ (2 : Int32) = 0 by decide)
      dsimp only
      refine ⟨?_, ?_⟩
      · by_cases z : K (sx K i).1.1 = 29
        · have : ¬ (sx K i).2.1 = 4 := fun y => n (Or.inl ⟨z, y⟩)
          rw [if_pos z]
          omega
        · rw [if_neg z]
          omega
      · by_cases z : K (sx K i).1.1 = 30
        · have : ¬ (sx K i).2.2 = 4 := fun y => n (Or.inr ⟨z, y⟩)
          rw [if_pos z]
          omega
        · rw [if_neg z]
          omega
    · have e : sx K (i + 1) = sx K i := if_neg q
      rw [e] at h ⊢
      exact ih h
/-- where the model stands behind i lines -/
def SMx (d0 d : Ds) (i : Nat) : Prop := XM d = (sx (tk d0) i).1 ∧ FI d ∧ FRT d0 d ∧ (dI d 328 12 = 0 → (dI d 328 20).toInt = ((sx (tk d0) i).2.1 : Int) ∧ (dI d 328 21).toInt = ((sx (tk d0) i).2.2 : Int))
theorem read91_x {g : Gs} (hS : Shp g) {d0 d : Ds} {Q : Int32 → Ds → Prop} (h : SMx d0 d 0) (hQ : ∀ i d', SMx d0 d' i → stp2 (tk d0) (sx (tk d0) i) → pc (fX12_read_J113 10000 g 328 d') Q) : pc (fX12_read_L91 10000 g 328 d) Q := by
  unfold fX12_read_L91
  refine pc_lp (fun a => ∃ i, SMx d0 a i) ?_ 10000 d ⟨0, h⟩
  rintro K' dd ⟨i, hM⟩ hK'
  have hM' := hM
  obtain ⟨hx, hf, fr, hc⟩ := hM'
  obtain ⟨x2, x1⟩ := XM_0 hx
  unfold fX12_read_B91
  refine pc_gd (fun _ => pc_if (fun c => ?_) (fun c => hQ i dd hM (fun z => c (x2.trans z.1))))
  have h2 : (sx (tk d0) i).1.2 = 0 := by rw [← x2]; exact c
  refine pc_cb (isM_x hS) (fun u d2 q => ?_)
  obtain ⟨e, hu⟩ := q
  subst e
  rw [fr.tk, x1] at hu
  rcases hu with ⟨hu, c0, c1⟩ | ⟨hu, cn⟩ <;> rw [hu]
  · exact pc_if (fun z => absurd z (by decide)) (fun _ => hQ i d2 hM (fun z => z.2 c1))
  · refine pc_if (fun _ => ?_) (fun z => absurd rfl z)
    have k0 : ¬ tk d0 (sx (tk d0) i).1.1 = 0 := fun z => cn ⟨c, z⟩
    obtain ⟨c4, c5⟩ := sx_c i h2
    obtain ⟨a20, a21⟩ := hc c
    refine pc_cv (tell_x hS hf c a20 a21 c4 c5) (fun d9 r => ?_)
    obtain ⟨r1, r2, r3, r4⟩ := r
    rw [fr.tk, x1] at r1 r4
    have e : sx (tk d0) (i + 1) = (tS (tk d0) (sx (tk d0) i).2.1 (sx (tk d0) i).2.2 (sx (tk d0) i).1.1, (sx (tk d0) i).2.1 + (if tk d0 (sx (tk d0) i).1.1 = 29 then 1 else 0), (sx (tk d0) i).2.2 + (if tk d0 (sx (tk d0) i).1.1 = 30 then 1 else 0)) := if_pos ⟨h2, k0⟩
    refine hK' d9 ⟨i + 1, by rw [e]; exact r1, r2, fr.tr r3, fun z => ?_⟩
    obtain ⟨b1, b2⟩ := r4 z
    rw [e]
    dsimp only
    refine ⟨?_, ?_⟩
    · rw [b1]
      split <;> omega
    · rw [b2]
      split <;> omega
/-! its two readers agree where the text has tokens -/
def Ag (K K' : Nat → Int32) : Prop := ∀ j, j ≤ 400 → (∀ i, i < j → ¬ K i = 0) → K' j = K j
def GS (K : Nat → Int32) (x : Nat × Int32) : Prop := x.2 = 0 → x.1 ≤ 400 ∧ ∀ i, i < x.1 → ¬ K i = 0
section AG
variable {K K' : Nat → Int32} {x : Nat × Int32}
theorem Ag.k (hA : Ag K K') (g : GS K x) (h : x.2 = 0) : K' x.1 = K x.1 := hA _ (g h).1 (g h).2
theorem pS_gs (g : GS K x) (h : x.2 = 0 → ¬ K x.1 = 0) : GS K (pS x) := by
  intro z
  unfold pS at z ⊢
  by_cases q : x.2 = 0
  · rw [if_pos q] at z ⊢
    by_cases q4 : x.1 = 400
    · rw [if_pos q4] at z
      exact absurd z (show ¬ (2 : Int32) = 0 by decide)
    · rw [if_neg q4]
      obtain ⟨g1, g2⟩ := g q
      refine ⟨by dsimp only; omega, fun i hi => ?_⟩
      dsimp only at hi
      by_cases y : i = x.1
      · rw [y]
        exact h q
      · exact g2 i (by omega)
  · rw [if_neg q] at z
    exact absurd z q
theorem GS.f {n : Nat} {k : Int32} (h : ¬ k = 0) : GS K (n, k) := fun z => absurd z h
theorem mS_cg (hA : Ag K K') {k : Int32} (hk : ¬ k = 0) (g : GS K x) : mS K' k x = mS K k x ∧ GS K (mS K k x) := by
  unfold mS
  by_cases q : x.2 = 0
  · rw [if_pos q, if_pos q, hA.k g q]
    refine ⟨rfl, ?_⟩
    by_cases y : K x.1 = k
    · rw [if_pos y]
      exact pS_gs g (fun _ => by rw [y]; exact hk)
    · rw [if_neg y]
      exact GS.f (by decide)
  · rw [if_neg q, if_neg q]
    exact ⟨rfl, g⟩
theorem lmS_cg (hA : Ag K K') (g : GS K x) : lmS K' x = lmS K x ∧ GS K (lmS K x) := by
  unfold lmS
  by_cases q : x.2 = 0
  · rw [if_pos q, if_pos q, hA.k g q]
    refine ⟨rfl, ?_⟩
    by_cases y : K x.1 = 33 ∨ K x.1 = 32
    · rw [if_pos y]
      refine pS_gs g (fun _ => ?_)
      rcases y with y | y <;> rw [y] <;> decide
    · rw [if_neg y]
      exact GS.f (by decide)
  · rw [if_neg q, if_neg q]
    exact ⟨rfl, g⟩
theorem dS_cg (hA : Ag K K') (g : GS K x) : dS K' x = dS K x ∧ GS K (dS K x) := by
  have e0 : (0 : Int32).toInt = 0 := by decide
  unfold dS
  by_cases q : x.2 = 0
  · rw [if_pos q, if_pos q, hA.k g q]
    by_cases y : (K x.1).toInt < 31 ∨ 39 < (K x.1).toInt
    · rw [if_pos y, if_pos y]
      exact ⟨rfl, GS.f (by decide)⟩
    · rw [if_neg y, if_neg y]
      have gp : GS K (pS x) := pS_gs g (fun _ z => by rw [z, e0] at y; omega)
      by_cases y1 : K x.1 = 35 ∨ K x.1 = 36
      · rw [if_pos y1, if_pos y1]
        exact ⟨rfl, gp⟩
      · rw [if_neg y1, if_neg y1]
        obtain ⟨a1, a2⟩ := mS_cg hA (k := 2) (by decide) gp
        by_cases y2 : K x.1 = 37
        · rw [if_pos y2, if_pos y2, a1]
          obtain ⟨b1, b2⟩ := lmS_cg hA a2
          rw [b1]
          exact mS_cg hA (by decide) b2
        · rw [if_neg y2, if_neg y2]
          by_cases y3 : K x.1 = 38
          · rw [if_pos y3, if_pos y3, a1]
            exact mS_cg hA (by decide) a2
          · rw [if_neg y3, if_neg y3, a1]
            exact ⟨rfl, a2⟩
  · rw [if_neg q, if_neg q]
    exact ⟨rfl, g⟩
theorem iS_cg (hA : Ag K K') : ∀ k {x : Nat × Int32}, GS K x → iS K' k x = iS K k x ∧ GS K (iS K k x) := by
  intro k
  have ek : ∀ {x : Nat × Int32}, GS K x → (x.2 = 0 ∧ K' x.1 = 2 ↔ x.2 = 0 ∧ K x.1 = 2) := fun {x} g => ⟨fun z => ⟨z.1, (hA.k g z.1).symm.trans z.2⟩, fun z => ⟨z.1, (hA.k g z.1).trans z.2⟩⟩
  induction k with
  | zero =>
    intro x g
    unfold iS
    by_cases q : x.2 = 0 ∧ K x.1 = 2
    · rw [if_pos q, if_pos ((ek g).mpr q)]
      exact ⟨rfl, GS.f (by decide)⟩
    · rw [if_neg q, if_neg (fun z => q ((ek g).mp z))]
      exact ⟨rfl, g⟩
  | succ k ih =>
    intro x g
    unfold iS
    by_cases q : x.2 = 0 ∧ K x.1 = 2
    · rw [if_pos q, if_pos ((ek g).mpr q)]
      exact ih (pS_gs g (fun _ => by rw [q.2]; decide))
    · rw [if_neg q, if_neg (fun z => q ((ek g).mp z))]
      exact ⟨rfl, g⟩
theorem lS_cg (hA : Ag K K') {c : Int32} (g : GS K x) : lS K' c x = lS K c x ∧ GS K (lS K c x) := by
  unfold lS
  by_cases y : c.toInt < 23
  · rw [if_pos y, if_pos y]
    exact ⟨rfl, g⟩
  · rw [if_neg y, if_neg y]
    obtain ⟨a1, a2⟩ := mS_cg hA (k := 2) (by decide) g
    obtain ⟨b1, b2⟩ := mS_cg hA (k := 2) (by decide) a2
    by_cases y1 : c = 28 ∨ c = 29
    · rw [if_pos y1, if_pos y1, a1, b1]
      exact dS_cg hA b2
    · rw [if_neg y1, if_neg y1]
      by_cases y2 : c = 27
      · rw [if_pos y2, if_pos y2, a1, b1]
        exact ⟨rfl, b2⟩
      · rw [if_neg y2, if_neg y2]
        by_cases y3 : c = 30
        · rw [if_pos y3, if_pos y3, a1]
          exact iS_cg hA 7 a2
        · rw [if_neg y3, if_neg y3, a1]
          exact ⟨rfl, a2⟩
theorem tS_cg (hA : Ag K K') {a b T : Nat} (g : GS K (T, 0)) : tS K' a b T = tS K a b T ∧ GS K (tS K a b T) := by
  have e0 : (0 : Int32).toInt = 0 := by decide
  have eT : K' T = K T := hA.k g rfl
  unfold tS
  rw [eT]
  by_cases y : (K T).toInt ≤ 20 ∨ 30 < (K T).toInt
  · rw [if_pos y, if_pos y]
    exact ⟨rfl, GS.f (by decide)⟩
  · rw [if_neg y, if_neg y]
    by_cases y1 : K T = 29 ∧ a = 4 ∨ K T = 30 ∧ b = 4
    · rw [if_pos y1, if_pos y1]
      exact ⟨rfl, GS.f (by decide)⟩
    · rw [if_neg y1, if_neg y1]
      obtain ⟨a1, a2⟩ := lS_cg hA (c := K T) (pS_gs g (fun _ z => by dsimp only at z; rw [z, e0] at y; omega))
      rw [a1]
      exact mS_cg hA (by decide) a2
theorem sx_cg (hA : Ag K K') : ∀ i, sx K' i = sx K i ∧ GS K (sx K i).1 := by
  intro i
  induction i with
  | zero =>
    have g0 : GS K (0, 0) := fun _ => ⟨Nat.zero_le _, fun i hi => absurd hi (Nat.not_lt_zero _)⟩
    obtain ⟨a1, a2⟩ := mS_cg hA (k := 20) (by decide) g0
    obtain ⟨b1, b2⟩ := mS_cg hA (k := 2) (by decide) a2
    obtain ⟨c1, c2⟩ := mS_cg hA (k := 2) (by decide) b2
    obtain ⟨d1, d2⟩ := mS_cg hA (k := 4) (by decide) c2
    refine ⟨?_, d2⟩
    show (mS K' 4 (mS K' 2 (mS K' 2 (mS K' 20 (0, 0)))), 0, 0) = (mS K 4 (mS K 2 (mS K 2 (mS K 20 (0, 0)))), 0, 0)
    rw [a1, b1, c1, d1]
  | succ i ih =>
    obtain ⟨i1, i2⟩ := ih
    unfold sx
    rw [i1]
    by_cases q : (sx K i).1.2 = 0 ∧ ¬ K (sx K i).1.1 = 0
    · have q' : (sx K i).1.2 = 0 ∧ ¬ K' (sx K i).1.1 = 0 := ⟨q.1, by rw [hA.k i2 q.1]; exact q.2⟩
      have g2 : GS K ((sx K i).1.1, 0) := fun _ => i2 q.1
      obtain ⟨a1, a2⟩ := tS_cg hA (a := (sx K i).2.1) (b := (sx K i).2.2) g2
      rw [if_pos q, if_pos q', a1, hA.k i2 q.1]
      exact ⟨rfl, a2⟩
    · have q' : ¬ ((sx K i).1.2 = 0 ∧ ¬ K' (sx K i).1.1 = 0) := fun z => q ⟨z.1, by rw [← hA.k i2 z.1]; exact z.2⟩
      rw [if_neg q, if_neg q']
      exact ⟨rfl, i2⟩
end AG
/-- the model's tokens are the text's -/
theorem MT_ag {t : Nat → Int32} {n : Nat} {d : Ds} (h : MT t n d) : Ag (KS t n) (tk d) := by
  obtain ⟨s, hs, hT, hE⟩ := h
  intro j hj hz
  have up : ∀ i, i < s → tk d i = KS t n i := by
    intro i hi
    obtain ⟨a1, a2, _⟩ := hT i hi
    show dI d 331 i = _
    rw [a2]
    unfold KS
    rw [if_pos a1]
  rcases hE with ⟨e, _⟩ | ⟨e1, e2, _, e4, _⟩
  · exact up j (by omega)
  · rcases Nat.lt_trichotomy j s with q | q | q
    · exact up j q
    · rw [q]
      show dI d 331 s = _
      rw [e4]
      unfold KS
      rw [if_neg e1]
    · exact absurd (show KS t n s = 0 by unfold KS; rw [if_neg e1]) (hz s q)
