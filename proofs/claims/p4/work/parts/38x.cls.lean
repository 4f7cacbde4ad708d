/-! the class's reader: what it sees -/
def TF (d d' : Ds) : Prop := (∀ r j, r = 3 ∨ r = 4 ∨ r = 5 ∨ r = 6 → dI d' r j = dI d r j) ∧ ∀ j, dW d' 7 j = dW d 7 j
theorem CT.tf {t : Nat → Int32} {n : Nat} {d d' : Ds} (h : CT t n d) (f : TF d d') : CT t n d' := by
  obtain ⟨s, h1, h2, h3, h4, h5⟩ := h
  refine ⟨s, by rw [f.1 3 4 (Or.inl rfl)]; exact h1, h2, by rw [f.1 3 5 (Or.inl rfl)]; exact h3, fun i hi => ?_, h5⟩
  obtain ⟨a1, a2, a3, a4, a5⟩ := h4 i hi
  exact ⟨a1, by rw [f.1 4 i (by omega)]; exact a2, by rw [f.1 5 i (by omega)]; exact a3, by rw [f.1 6 i (by omega)]; exact a4, by rw [f.2 i]; exact a5⟩
theorem ps_n {t : Nat → Int32} {n s : Nat} (h : ps t n s = n) : ∀ m, ps t n (s + m) = n := by
  intro m
  induction m with
  | zero => exact h
  | succ m ih =>
    show (if ps t n (s + m) < n then rn blk t n (en t n (ps t n (s + m))) else ps t n (s + m)) = n
    rw [ih, if_neg (Nat.lt_irrefl n)]
section ACC
variable {t : Nat → Int32} {n : Nat} {d : Ds}
theorem ct_k (h : CT t n d) {T : Nat} (hT : T ≤ 400) : ∃ s : Nat, (dI d 3 4).toInt = (s : Int) ∧ (T < s ∧ TKC t n d T ∨ s ≤ T ∧ KS t n T = 0 ∧ VS t n T = 0 ∧ ps t n T = n) := by
  obtain ⟨s, h1, h2, h3, h4, h5⟩ := h
  refine ⟨s, h1, ?_⟩
  by_cases q : T < s
  · exact Or.inl ⟨q, h4 T q⟩
  · have hs : ¬ ps t n s < n := by
      rcases h5 with h5 | h5
      · omega
      · exact h5
    have e := ps_n (show ps t n s = n by have := ps_le (t := t) (n := n) s; omega) (T - s)
    rw [show s + (T - s) = T by omega] at e
    refine Or.inr ⟨by omega, ?_, ?_, e⟩
    · unfold KS
      rw [if_neg (by omega)]
    · unfold VS
      rw [if_neg (by omega)]
def KC (u k : Int32) : Prop := (u = 2 ↔ k = 2) ∧ (u = 3 ↔ k = 4) ∧ (u = 0 ↔ k = 0) ∧ (20 ≤ k.toInt → u = 1)
def WD (k : Int32) : Option Nat := if 20 ≤ k.toInt then some (100000 + (k.toInt.toNat - 20)) else none
theorem kd_w {w : Nat} (h : w ≤ 20) : (Int32.ofNat (19 + w)).toInt = 19 + (w : Int) := by
  have : ∀ w, w ≤ 20 → (Int32.ofNat (19 + w)).toInt = 19 + (w : Int) := by decide
  exact this w h
theorem kdc_c {p : Nat} : KC (kdC t n p) (kdS t n p) ∧ WD (kdS t n p) = wdo t n p ∧ (kdS t n p).toInt ≤ 39 ∧ 1 ≤ (kdS t n p).toInt := by
  have e2 : (2 : Int32).toInt = 2 := by decide
  have e4 : (4 : Int32).toInt = 4 := by decide
  have e0 : (0 : Int32).toInt = 0 := by decide
  unfold kdC kdS wdo
  by_cases h1 : ltr (t p) = true
  · rw [if_pos h1, if_pos h1]
    by_cases h2 : wd t n p = 0
    · rw [if_pos h2, if_neg (show ¬ (ltr (t p) = true ∧ wd t n p ≠ 0) from fun z => z.2 h2)]
      split <;> exact ⟨by unfold KC; decide, rfl, by decide, by decide⟩
    · have hw : wd t n p ≤ 20 := wdF_le 20
      have e := kd_w hw
      rw [if_neg h2, if_pos (show ltr (t p) = true ∧ wd t n p ≠ 0 from ⟨h1, h2⟩)]
      refine ⟨⟨⟨fun z => absurd z (by decide), fun z => ?_⟩, ⟨fun z => absurd z (by decide), fun z => ?_⟩, ⟨fun z => absurd z (by decide), fun z => ?_⟩, fun _ => rfl⟩, ?_, by omega, by omega⟩
      · rw [z] at e; omega
      · rw [z] at e; omega
      · rw [z] at e; omega
      · unfold WD
        rw [if_pos (by omega), e]
        congr 1
        omega
  · rw [if_neg h1, if_neg h1, if_neg (show ¬ (ltr (t p) = true ∧ wd t n p ≠ 0) from fun z => h1 z.1)]
    by_cases h2 : dgt (t p) = true
    · rw [if_pos h2, if_pos h2]
      split <;> exact ⟨by unfold KC; decide, rfl, by decide, by decide⟩
    · rw [if_neg h2, if_neg h2]
      by_cases h3 : t p = 59
      · rw [if_pos h3, if_pos h3]
        exact ⟨by unfold KC; decide, rfl, by decide, by decide⟩
      · rw [if_neg h3, if_neg h3]
        exact ⟨by unfold KC; decide, rfl, by decide, by decide⟩
theorem KS_i (T : Nat) : (KS t n T).toInt ≤ 39 ∧ 0 ≤ (KS t n T).toInt := by
  unfold KS
  split
  · have := (kdc_c (t := t) (n := n) (p := ps t n T)).2.2
    omega
  · decide
theorem kindAt_e {N : Nat} {g : Gs} (hS : Shp g) (h : CT t n d) {T : Nat} {x : Int32} (hx : x.toInt = (T : Int)) (hT : T ≤ 400) : pc (fX8_kindAt N g 3 x d) (fun u d' => d' = d ∧ KC u (KS t n T)) := by
  have e0 : (0 : Int32).toInt = 0 := by decide
  obtain ⟨s, h4, hq⟩ := ct_k h hT
  unfold fX8_kindAt
  refine pc_if (fun c => ?_) (fun _ => pc_gd (fun _ => pc_if (fun c => ?_) (fun c => ?_)))
  · have := Int32.lt_iff_toInt_lt.mp c
    omega
  · have c2 := Int32.le_iff_toInt_le.mp c
    rcases hq with ⟨q, _⟩ | ⟨q, k, _⟩
    · omega
    · unfold fX8_kindAt_J21 fX8_kindAt_J22
      rw [k]
      exact pc_some ⟨rfl, by unfold KC; decide⟩
  · have c2 := Int32.lt_iff_toInt_lt.mp (nle c)
    rcases hq with ⟨q, k1, k2, _⟩ | ⟨q, _⟩
    · refine pc_ob (fun r e => ?_)
      have := gq hS (e := 4) (by decide +kernel) e
      subst this
      refine pc_gd (fun _ => pc_gd (fun _ => ?_))
      unfold fX8_kindAt_J22
      refine pc_some ⟨rfl, ?_⟩
      rw [tn hx, k2]
      unfold KS
      rw [if_pos k1]
      exact kdc_c.1
    · omega
theorem wordAt_e {N : Nat} {g : Gs} (hS : Shp g) (h : CT t n d) {T : Nat} {x : Int32} (hx : x.toInt = (T : Int)) (hT : T ≤ 400) : pc (fX8_wordAt N g 3 x d) (fun u d' => d' = d ∧ u = WD (KS t n T)) := by
  have e0 : (0 : Int32).toInt = 0 := by decide
  obtain ⟨s, h4, hq⟩ := ct_k h hT
  unfold fX8_wordAt
  refine pc_if (fun c => ?_) (fun _ => pc_gd (fun _ => pc_if (fun c => ?_) (fun c => ?_)))
  · have := Int32.lt_iff_toInt_lt.mp c
    omega
  · have c2 := Int32.le_iff_toInt_le.mp c
    rcases hq with ⟨q, _⟩ | ⟨q, k, _⟩
    · omega
    · unfold fX8_wordAt_J21 fX8_wordAt_J22
      rw [k]
      exact pc_some ⟨rfl, rfl⟩
  · have c2 := Int32.lt_iff_toInt_lt.mp (nle c)
    rcases hq with ⟨q, k1, _, _, _, k2⟩ | ⟨q, _⟩
    · refine pc_ob (fun r e => ?_)
      have := gq hS (e := 7) (by decide +kernel) e
      subst this
      refine pc_gd (fun _ => pc_gd (fun _ => pc_bd (fun u7 e7 => ?_)))
      unfold fX8_wordAt_J22
      refine pc_some ⟨rfl, ?_⟩
      rw [e7, tn hx, k2]
      unfold KS
      rw [if_pos k1]
      exact kdc_c.2.1.symm
    · omega
theorem numberAt_e {N : Nat} {g : Gs} (hS : Shp g) (h : CT t n d) {T : Nat} {x : Int32} (hx : x.toInt = (T : Int)) (hT : T ≤ 400) : pc (fX8_numberAt N g 3 x d) (fun u d' => d' = d ∧ u = VS t n T) := by
  have e0 : (0 : Int32).toInt = 0 := by decide
  obtain ⟨s, h4, hq⟩ := ct_k h hT
  unfold fX8_numberAt
  refine pc_if (fun c => ?_) (fun _ => pc_gd (fun _ => pc_if (fun c => ?_) (fun c => ?_)))
  · have := Int32.lt_iff_toInt_lt.mp c
    omega
  · have c2 := Int32.le_iff_toInt_le.mp c
    rcases hq with ⟨q, _⟩ | ⟨q, _, k, _⟩
    · omega
    · unfold fX8_numberAt_J21 fX8_numberAt_J22
      rw [k]
      exact pc_some ⟨rfl, rfl⟩
  · have c2 := Int32.lt_iff_toInt_lt.mp (nle c)
    rcases hq with ⟨q, k1, _, _, k2, _⟩ | ⟨q, _⟩
    · refine pc_ob (fun r e => ?_)
      have := gq hS (e := 6) (by decide +kernel) e
      subst this
      refine pc_gd (fun _ => pc_gd (fun _ => ?_))
      unfold fX8_numberAt_J22
      refine pc_some ⟨rfl, ?_⟩
      rw [tn hx, k2]
      unfold VS
      rw [if_pos k1]
    · omega
theorem placeAt_e {N : Nat} {g : Gs} (hS : Shp g) (h : CT t n d) {T : Nat} {x : Int32} (hx : x.toInt = (T : Int)) (hT : T ≤ 400) : pc (fX8_placeAt N g 3 x d) (fun u d' => d' = d ∧ u.toInt = ((ps t n T : Nat) : Int)) := by
  have e0 : (0 : Int32).toInt = 0 := by decide
  have h5 : (dI d 3 5).toInt = (n : Int) := by
    obtain ⟨s, _, _, h3, _⟩ := h
    exact h3
  obtain ⟨s, h4, hq⟩ := ct_k h hT
  unfold fX8_placeAt
  refine pc_if (fun c => ?_) (fun _ => pc_gd (fun _ => pc_if (fun c => ?_) (fun c => ?_)))
  · have := Int32.lt_iff_toInt_lt.mp c
    omega
  · have c2 := Int32.le_iff_toInt_le.mp c
    rcases hq with ⟨q, _⟩ | ⟨q, _, _, k⟩
    · omega
    · unfold fX8_placeAt_J21 fX8_placeAt_J25
      exact pc_gd (fun _ => pc_some ⟨rfl, by rw [h5, k]⟩)
  · have c2 := Int32.lt_iff_toInt_lt.mp (nle c)
    rcases hq with ⟨q, k1, _, k2, _⟩ | ⟨q, _⟩
    · refine pc_ob (fun r e => ?_)
      have := gq hS (e := 5) (by decide +kernel) e
      subst this
      refine pc_gd (fun _ => pc_gd (fun _ => ?_))
      unfold fX8_placeAt_J25
      refine pc_some ⟨rfl, ?_⟩
      rw [tn hx, k2]
    · omega
end ACC
/-! what the class notes for later: the first fault of these, and its token -/
def nT (c : Int32) (T : Nat) (w : Int32 × Nat) : Int32 × Nat := if w.1 = 0 then (c, T) else w
def nNu (V : Nat → Int32) (lo hi : Int32) (T : Nat) (w : Int32 × Nat) : Int32 × Nat := if (V T).toInt < lo.toInt ∨ hi.toInt < (V T).toInt then nT 5 T w else w
def NT (d : Ds) (w : Int32 × Nat) : Prop := dI d 2 8 = w.1 ∧ (¬ w.1 = 0 → (dI d 2 9).toInt = (w.2 : Int) ∧ w.2 ≤ 400)
/-- at which token, with which fault, what noted -/
def XC (d : Ds) (x : Nat × Int32) : Prop := (dI d 2 3).toInt = (x.1 : Int) ∧ dI d 2 5 = x.2 ∧ x.1 ≤ 400 ∧ (¬ x.2 = 0 → (dI d 2 6).toInt = (x.1 : Int))
def SF (d d' : Ds) : Prop := (∀ r j, ¬ (r = 2 ∧ (j = 3 ∨ j = 4 ∨ j = 5 ∨ j = 6 ∨ j = 8 ∨ j = 9) ∨ r = 8) → dI d' r j = dI d r j) ∧ ∀ r j, dW d' r j = dW d r j
theorem SF.rf {d : Ds} : SF d d := ⟨fun _ _ _ => rfl, fun _ _ => rfl⟩
theorem SF.tr {d dd d' : Ds} (h : SF d dd) (h2 : SF dd d') : SF d d' := ⟨fun r j q => (h2.1 r j q).trans (h.1 r j q), fun r j => (h2.2 r j).trans (h.2 r j)⟩
theorem SF.tf {d d' : Ds} (h : SF d d') : TF d d' := ⟨fun r j q => h.1 r j (by omega), fun j => h.2 7 j⟩
theorem SF.i {d df de : Ds} {r j : Nat} {v : Int32} (h : SF d df) (e : de = sI df r j v) (hr : r = 2 ∧ (j = 3 ∨ j = 4 ∨ j = 5 ∨ j = 6 ∨ j = 8 ∨ j = 9) ∨ r = 8) : SF d de := by
  subst e
  refine ⟨fun r' j' hn => ?_, h.2⟩
  rw [sI_rd, if_neg (fun z => hn (by rw [z.1, z.2]; exact hr))]
  exact h.1 r' j' hn
/-- a way on or a fault -/
def CP (d0 d' : Ds) (u : Int32) (y : Nat × Int32) (w : Int32 × Nat) : Prop := XC d' y ∧ SF d0 d' ∧ (u = 1 ∧ y.2 = 0 ∧ NT d' w ∨ u = 0 ∧ ¬ y.2 = 0)
section TKN
variable {t : Nat → Int32} {n : Nat} {d0 d : Ds}
theorem failC_e {N : Nat} {g : Gs} {k : Int32} {T : Nat} {w : Int32 × Nat} (hk : ¬ k = 0) (h0 : SF d0 d) (hx : XC d (T, 0)) : pc (fX7_fail N g 2 k d) (fun u d' => CP d0 d' u (T, k) w) := by
  unfold fX7_fail
  refine pc_gd (fun _ => pc_bd (fun d2 e2 => pc_bd (fun d3 e3 => pc_some ⟨⟨?_, ?_, hx.2.2.1, fun _ => ?_⟩, (h0.i e2 (by omega)).i e3 (by omega), Or.inr ⟨rfl, hk⟩⟩)))
  · rw [rdq e3 (Or.inr (by decide)), rdq e2 (Or.inr (by decide))]
    exact hx.1
  · rw [rdq e3 (Or.inr (by decide)), e2, sI_rd, if_pos ⟨rfl, rfl⟩]
  · rw [e3, sI_rd, if_pos ⟨rfl, rfl⟩, rdq e2 (Or.inr (by decide))]
    exact hx.1
theorem takeToken_e {N : Nat} {g : Gs} (hS : Shp g) {a k : Int32} {T : Nat} {w : Int32 × Nat} (hC : CT t n d) (h0 : SF d0 d) (hx : XC d (T, 0)) (hw : NT d w) (hk : ∀ u, KC u (KS t n T) → (u = a ↔ KS t n T = k)) : pc (fX7_takeToken N g 2 a d) (fun u d' => CP d0 d' u (mS (KS t n) k (T, 0)) w) := by
  have e1 : (1 : Int32).toInt = 1 := by decide
  have e400 : (400 : Int32).toInt = 400 := by decide
  unfold fX7_takeToken
  refine pc_gd (fun _ => pc_ob (fun r e => ?_))
  have := gq hS (e := 3) (by decide +kernel) e
  subst this
  refine pc_gd (fun _ => pc_cb (kindAt_e hS hC hx.1 hx.2.2.1) (fun u d4 r => ?_))
  obtain ⟨e, hu⟩ := r
  subst e
  have hka := hk u hu
  have h1 := hx.1
  dsimp only at h1
  refine pc_if (fun c => ?_) (fun c => ?_)
  · have eM : mS (KS t n) k (T, 0) = pS (T, 0) := by
      unfold mS
      rw [if_pos rfl, if_pos (hka.mp c)]
    rw [eM]
    refine pc_if (fun c2 => ?_) (fun c2 => ?_)
    · have c3 := Int32.lt_iff_toInt_lt.mp c2
      have eP : pS (T, 0) = (T + 1, 0) := by
        unfold pS
        rw [if_pos rfl, if_neg (show ¬ T = 400 by omega)]
      rw [eP]
      refine pc_bd (fun d9 e9 => pc_some ⟨⟨?_, ?_, by dsimp only; omega, fun z => absurd rfl z⟩, h0.i e9 (by omega), Or.inl ⟨rfl, rfl, ?_, fun z => ?_⟩⟩)
      · rw [e9, sI_rd, if_pos ⟨rfl, rfl⟩, z_add h1 e1 (by omega) (by omega)]
        dsimp only
        omega
      · rw [rdq e9 (Or.inr (by decide))]
        exact hx.2.1
      · rw [rdq e9 (Or.inr (by decide))]
        exact hw.1
      · rw [rdq e9 (Or.inr (by decide))]
        exact hw.2 z
    · have c3 := Int32.le_iff_toInt_le.mp (nlt c2)
      have h4 : T ≤ 400 := hx.2.2.1
      have eP : pS (T, 0) = (T, 2) := by
        unfold pS
        rw [if_pos rfl, if_pos (show T = 400 by omega)]
      rw [eP]
      refine pc_cb (failC_e (w := w) (by decide) h0 hx) (fun u12 d10 r => pc_gd (fun _ => pc_some r))
  · have eM : mS (KS t n) k (T, 0) = (T, 1) := by
      unfold mS
      rw [if_pos rfl, if_neg (fun z => c (hka.mpr z))]
    rw [eM]
    exact pc_cb (failC_e (w := w) (by decide) h0 hx) (fun u12 d10 r => pc_gd (fun _ => pc_some r))
theorem hk_2 {T : Nat} : ∀ u, KC u (KS t n T) → (u = 2 ↔ KS t n T = 2) := fun u h => h.1
theorem hk_4 {T : Nat} : ∀ u, KC u (KS t n T) → (u = 3 ↔ KS t n T = 4) := fun u h => h.2.1
theorem hk_w {T : Nat} {k : Int32} (h : KS t n T = k) (hk : 20 ≤ k.toInt) : ∀ u, KC u (KS t n T) → (u = 1 ↔ KS t n T = k) := fun u z => ⟨fun _ => h, fun _ => z.2.2.2 (by rw [h]; exact hk)⟩
theorem noteLater_e {N : Nat} {g : Gs} {c x : Int32} {T : Nat} {w : Int32 × Nat} {y : Nat × Int32} (hx : x.toInt = (T : Int)) (hT : T ≤ 400) (h0 : SF d0 d) (hX : XC d y) (hw : NT d w) : pc (fX7_noteLater N g 2 c x d) (fun _ d' => XC d' y ∧ SF d0 d' ∧ NT d' (nT c T w) ∧ dI d' 2 4 = dI d 2 4) := by
  unfold fX7_noteLater nT
  refine pc_gd (fun _ => pc_if (fun q => ?_) (fun q => ?_))
  · refine pc_bd (fun d3 e3 => pc_bd (fun d4 e4 => ?_))
    unfold fX7_noteLater_J17
    have hn : ∀ j, ¬ (j = 8 ∨ j = 9) → dI d4 2 j = dI d 2 j := fun j hj => by rw [rdq e4 (Or.inr (by omega)), rdq e3 (Or.inr (by omega))]
    rw [if_pos (hw.1.symm.trans q)]
    refine pc_some ⟨⟨by rw [hn 3 (by decide)]; exact hX.1, by rw [hn 5 (by decide)]; exact hX.2.1, hX.2.2.1, fun z => by rw [hn 6 (by decide)]; exact hX.2.2.2 z⟩, (h0.i e3 (by omega)).i e4 (by omega), ⟨?_, fun _ => ?_⟩, hn 4 (by decide)⟩
    · rw [rdq e4 (Or.inr (by decide)), e3, sI_rd, if_pos ⟨rfl, rfl⟩]
    · rw [e4, sI_rd, if_pos ⟨rfl, rfl⟩]
      exact ⟨hx, hT⟩
  · unfold fX7_noteLater_J17
    rw [if_neg (fun z => q (hw.1.trans z))]
    exact pc_some ⟨hX, h0, hw, rfl⟩
theorem takeNumber_e {N : Nat} {g : Gs} (hS : Shp g) {lo hi : Int32} {T : Nat} {w : Int32 × Nat} (hC : CT t n d) (h0 : SF d0 d) (hx : XC d (T, 0)) (hw : NT d w) : pc (fX7_takeNumber N g 2 lo hi d) (fun u d' => CP d0 d' u (mS (KS t n) 2 (T, 0)) (nNu (VS t n) lo hi T w) ∧ dI d' 2 4 = VS t n T) := by
  have em1 : (-1 : Int32).toInt = -1 := by decide
  have e1 : (1 : Int32).toInt = 1 := by decide
  unfold fX7_takeNumber
  refine pc_gd (fun _ => pc_ob (fun r e => ?_))
  have := gq hS (e := 3) (by decide +kernel) e
  subst this
  refine pc_gd (fun _ => pc_cb (numberAt_e hS hC hx.1 hx.2.2.1) (fun u d4 r => ?_))
  obtain ⟨e, hu⟩ := r
  subst e
  refine pc_bd (fun d7 e7 => ?_)
  have h7 : SF d4 d7 := SF.rf.i e7 (by omega)
  have f7 : ∀ j, ¬ j = 4 → dI d7 2 j = dI d4 2 j := fun j hj => rdq e7 (Or.inr hj)
  have x7 : XC d7 (T, 0) := ⟨by rw [f7 3 (by decide)]; exact hx.1, by rw [f7 5 (by decide)]; exact hx.2.1, hx.2.2.1, fun z => absurd rfl z⟩
  have w7 : NT d7 w := ⟨by rw [f7 8 (by decide)]; exact hw.1, fun z => by rw [f7 9 (by decide)]; exact hw.2 z⟩
  have n7 : dI d7 2 4 = VS t n T := by rw [e7, sI_rd, if_pos ⟨rfl, rfl⟩]; exact hu
  have cont : pc (fX7_takeToken N g 2 2 d7) (fun u d' => CP d0 d' u (mS (KS t n) 2 (T, 0)) w ∧ dI d' 2 4 = VS t n T) := by
    intro u d' e
    have r1 := takeToken_e (d0 := d0) hS (hC.tf h7.tf) (h0.tr h7) x7 w7 hk_2 u d' e
    refine ⟨r1, ?_⟩
    rw [← n7]
    -- the number stays
    have r2 : pc (fX7_takeToken N g 2 2 d7) (fun _ d' => dI d' 2 4 = dI d7 2 4) := by
      unfold fX7_takeToken
      refine pc_gd (fun _ => pc_ob (fun r e => ?_))
      have := gq hS (e := 3) (by decide +kernel) e
      subst this
      have ff : ∀ {k : Int32}, pc (fX7_fail N g 2 k d7) (fun _ d' => dI d' 2 4 = dI d7 2 4) := by
        intro k
        unfold fX7_fail
        exact pc_gd (fun _ => pc_bd (fun d2 e2 => pc_bd (fun d3 e3 => pc_some (by rw [rdq e3 (Or.inr (by decide)), rdq e2 (Or.inr (by decide))]))))
      refine pc_gd (fun _ => pc_cb (kindAt_e hS (hC.tf h7.tf) x7.1 x7.2.2.1) (fun u d4 r => ?_))
      obtain ⟨e, hu⟩ := r
      subst e
      refine pc_if (fun _ => pc_if (fun _ => ?_) (fun _ => ?_)) (fun _ => ?_)
      · exact pc_bd (fun d9 e9 => pc_some (rdq e9 (Or.inr (by decide))))
      · exact pc_cb ff (fun u12 d10 r => pc_gd (fun _ => pc_some r))
      · exact pc_cb ff (fun u12 d10 r => pc_gd (fun _ => pc_some r))
    exact r2 u d' e
  refine pc_cb cont (fun u10 d8 r => ?_)
  obtain ⟨⟨xy, sf, hu10⟩, n8⟩ := r
  rcases hu10 with ⟨hu10, y0, w8⟩ | ⟨hu10, y0⟩ <;> rw [hu10]
  · refine pc_if (fun z => absurd z (by decide)) (fun _ => ?_)
    have ePS : mS (KS t n) 2 (T, 0) = (T + 1, 0) := by
      unfold mS pS at y0 ⊢
      dsimp only at y0 ⊢
      rw [if_pos rfl] at y0 ⊢
      by_cases k : KS t n T = 2
      · rw [if_pos k, if_pos rfl] at y0 ⊢
        by_cases k4 : T = 400
        · rw [if_pos k4] at y0
          exact absurd y0 (show ¬ (2 : Int32) = 0 by decide)
        · rw [if_neg k4]
      · rw [if_neg k] at y0
        exact absurd y0 (show ¬ (1 : Int32) = 0 by decide)
    have j52 : ∀ {dd : Ds}, CP d0 dd 1 (mS (KS t n) 2 (T, 0)) (nNu (VS t n) lo hi T w) → dI dd 2 4 = VS t n T → pc (fX7_takeNumber_J52 N g 2 lo hi dd) (fun u d' => CP d0 d' u (mS (KS t n) 2 (T, 0)) (nNu (VS t n) lo hi T w) ∧ dI d' 2 4 = VS t n T) := by
      intro dd p q
      unfold fX7_takeNumber_J52
      exact pc_some ⟨p, q⟩
    have j41 : ((VS t n T).toInt < lo.toInt ∨ hi.toInt < (VS t n T).toInt) → pc (fX7_takeNumber_J41 N g 2 lo hi d8) (fun u d' => CP d0 d' u (mS (KS t n) 2 (T, 0)) (nNu (VS t n) lo hi T w) ∧ dI d' 2 4 = VS t n T) := by
      intro q
      unfold fX7_takeNumber_J41
      have h3 := xy.1
      rw [ePS] at h3
      dsimp only at h3
      have hT : T ≤ 400 := hx.2.2.1
      have hsub : (dI d8 2 3 - 1).toInt = (T : Int) := by
        rw [z_sub h3 e1 (by omega) (by omega)]
        omega
      refine pc_gd (fun _ => pc_cv (noteLater_e hsub hT sf xy w8) (fun d14 r => ?_))
      obtain ⟨a1, a2, a3, a4⟩ := r
      refine j52 ⟨a1, a2, Or.inl ⟨rfl, y0, ?_⟩⟩ (a4.trans n8)
      unfold nNu
      rw [if_pos q]
      exact a3
    rw [n8]
    refine pc_if (fun c => j41 (Or.inl (Int32.lt_iff_toInt_lt.mp c))) (fun c1 => pc_if (fun c2 => ?_) (fun c => j41 (Or.inr (Int32.lt_iff_toInt_lt.mp (nle c)))))
    refine j52 ⟨xy, sf, Or.inl ⟨rfl, y0, ?_⟩⟩ n8
    have q1 := Int32.le_iff_toInt_le.mp (nlt c1)
    have q2 := Int32.le_iff_toInt_le.mp c2
    unfold nNu
    rw [if_neg (by omega)]
    exact w8
  · exact pc_if (fun _ => pc_some ⟨⟨xy, sf, Or.inr ⟨rfl, y0⟩⟩, n8⟩) (fun z => absurd rfl z)
end TKN
/-! the class's deed -/
def kk (k : Int32) : Nat := k.toInt.toNat - 20
def nW (V : Nat → Int32) (k : Int32) (T : Nat) (w : Int32 × Nat) : Int32 × Nat := nNu V (wfv 0 (kk k)) (wfv 1 (kk k)) T w
def dNt (K V : Nat → Int32) (T : Nat) (w : Int32 × Nat) : Int32 × Nat := if K T = 35 ∨ K T = 36 then w else if K T = 37 then nW V (K (T + 2)) (T + 3) (nW V (K T) (T + 1) w) else if K T = 38 then nW V (K T) (T + 2) (nW V (K T) (T + 1) w) else nW V (K T) (T + 1) w
theorem wd_some {k : Int32} (h : 20 ≤ k.toInt) : WD k = some (100000 + kk k) := if_pos h
theorem wd_none {k : Int32} (h : ¬ 20 ≤ k.toInt) : WD k = none := if_neg h
theorem wd_i {k c : Int32} {M : Nat} (hc : c.toInt = 20 + ((M - 100000 : Nat) : Int)) (hM : 100000 ≤ M) : WD k = some M ↔ k = c := by
  constructor
  · intro z
    by_cases h : 20 ≤ k.toInt
    · rw [wd_some h] at z
      have e : 100000 + kk k = M := Option.some.inj z
      unfold kk at e
      exact Int32.toInt_inj.mp (by omega)
    · rw [wd_none h] at z
      exact absurd z (by simp)
  · intro z
    rw [z, wd_some (by omega)]
    congr 1
    unfold kk
    omega
theorem mS_ok {K : Nat → Int32} {k : Int32} {T : Nat} (h : (mS K k (T, 0)).2 = 0) : mS K k (T, 0) = (T + 1, 0) ∧ K T = k ∧ T ≠ 400 := by
  unfold mS pS at h ⊢
  dsimp only at h ⊢
  rw [if_pos rfl] at h ⊢
  by_cases z : K T = k
  · rw [if_pos z, if_pos rfl] at h ⊢
    by_cases z4 : T = 400
    · rw [if_pos z4] at h
      exact absurd h (show ¬ (2 : Int32) = 0 by decide)
    · rw [if_neg z4]
      exact ⟨rfl, z, z4⟩
  · rw [if_neg z] at h
    exact absurd h (show ¬ (1 : Int32) = 0 by decide)
theorem mS_k {K : Nat → Int32} {T : Nat} : mS K (K T) (T, 0) = pS (T, 0) := by
  unfold mS
  rw [if_pos rfl, if_pos rfl]
section SEQ
variable {K : Nat → Int32} {k : Int32} {T : Nat} {d0 : Ds} {w w' : Int32 × Nat} {z : Nat × Int32}
theorem CP.bad {d' : Ds} {u : Int32} {y : Nat × Int32} (h : CP d0 d' u y w) (hu : u = 0) (hz : ¬ y.2 = 0 → z = y) : CP d0 d' 0 z w' := by
  obtain ⟨a, b, c⟩ := h
  rcases c with ⟨c, _⟩ | ⟨_, c⟩
  · exact absurd (hu.symm.trans c) (by decide)
  · rw [hz c]
    exact ⟨a, b, Or.inr ⟨rfl, c⟩⟩
/-- a token taken, and on -/
theorem pc_seq {X : Option (Int32 × Ds)} {rest : Ds → Option (Int32 × Ds)} {R : Ds → Prop} (hX : pc X (fun u d' => CP d0 d' u (mS K k (T, 0)) w ∧ R d')) (hz : ¬ (mS K k (T, 0)).2 = 0 → z = mS K k (T, 0)) (hr : ∀ d', mS K k (T, 0) = (T + 1, 0) → K T = k → XC d' (T + 1, 0) → SF d0 d' → NT d' w → R d' → pc (rest d') (fun u d' => CP d0 d' u z w')) : pc (cb X fun u d' => if u = 0 then some (0, d') else rest d') (fun u d' => CP d0 d' u z w') := by
  refine pc_cb hX (fun u d' r => ?_)
  obtain ⟨r, rR⟩ := r
  have r' := r
  obtain ⟨a, b, c⟩ := r
  rcases c with ⟨c, c0, cw⟩ | ⟨c, c0⟩
  · rw [c]
    refine pc_if (fun q => absurd q (by decide)) (fun _ => ?_)
    obtain ⟨m1, m2, _⟩ := mS_ok c0
    rw [m1] at a
    exact hr d' m1 m2 a b cw rR
  · have c' := c
    rw [c]
    exact pc_if (fun _ => pc_some (r'.bad c' hz)) (fun q => absurd rfl q)
end SEQ
theorem pc_r {X : Option (Int32 × Ds)} {P : Int32 → Ds → Prop} (h : pc X P) : pc X (fun u d => P u d ∧ True) := fun a d e => ⟨h a d e, trivial⟩
theorem pT_bad {K : Nat → Int32} {T : Nat} (h : ¬ (pS (T, 0)).2 = 0) : pS (T, 0) = (T, 2) := by
  unfold pS at h ⊢
  rw [if_pos rfl] at h ⊢
  by_cases q : T = 400
  · rw [if_pos q]
  · rw [if_neg q] at h
    exact absurd rfl h
section DEED
variable {t : Nat → Int32} {n : Nat} {d0 d : Ds} {T : Nat} {w : Int32 × Nat}
/-- reader's cells untouched by a told deed -/
theorem XC.i8 {df de : Ds} {j : Nat} {v : Int32} {x : Nat × Int32} (h : XC df x) (e : de = sI df 8 j v) : XC de x := by
  have f : ∀ i, dI de 2 i = dI df 2 i := fun i => rdq e (Or.inl (by decide))
  exact ⟨by rw [f]; exact h.1, by rw [f]; exact h.2.1, h.2.2.1, fun z => by rw [f]; exact h.2.2.2 z⟩
theorem NT.i8 {df de : Ds} {j : Nat} {v : Int32} {w : Int32 × Nat} (h : NT df w) (e : de = sI df 8 j v) : NT de w := by
  have f : ∀ i, dI de 2 i = dI df 2 i := fun i => rdq e (Or.inl (by decide))
  exact ⟨by rw [f]; exact h.1, fun z => by rw [f]; exact h.2 z⟩
theorem tell8_e {N : Nat} {g : Gs} {a b c : Int32} {y : Nat × Int32} (h0 : SF d0 d) (hx : XC d y) (hw : NT d w) : pc (fX2_tell N g 8 a b c d) (fun _ d' => SF d0 d' ∧ XC d' y ∧ NT d' w) := by
  unfold fX2_tell
  exact pc_gd (fun _ => pc_bd (fun d2 e2 => pc_bd (fun d3 e3 => pc_bd (fun d4 e4 => pc_some ⟨((h0.i e2 (Or.inr rfl)).i e3 (Or.inr rfl)).i e4 (Or.inr rfl), ((hx.i8 e2).i8 e3).i8 e4, ((hw.i8 e2).i8 e3).i8 e4⟩))))
theorem d181 {g : Gs} {N : Nat} (hS : Shp g) {k : Int32} (hk : 20 ≤ k.toInt) (hC : CT t n d0) (h0 : SF d0 d) (hx : XC d (T, 0)) (hw : NT d w) : pc (fX7_takeDeed_J181 N g 2 (WD k) d) (fun u d' => CP d0 d' u (mS (KS t n) 2 (T, 0)) (nW (VS t n) k T w)) := by
  unfold fX7_takeDeed_J181
  rw [wd_some hk]
  refine pc_ob (fun r e => ?_)
  have er : r = 100000 + kk k := (Option.some.inj e).symm
  subst er
  rw [show 100000 + kk k - 100000 = kk k by omega]
  refine pc_gd (fun _ => pc_gd (fun _ => pc_seq (K := KS t n) (takeNumber_e hS (hC.tf h0.tf) h0 hx hw) (fun _ => rfl) (fun d41 m1 m2 a b c _ => ?_)))
  refine pc_ob (fun r e => ?_)
  have := gq hS (e := 8) (by decide +kernel) e
  subst this
  refine pc_gd (fun _ => pc_bd (fun d47 e47 => pc_some ?_))
  rw [m1]
  exact ⟨a.i8 e47, b.i e47 (Or.inr rfl), Or.inl ⟨rfl, rfl, c.i8 e47⟩⟩
theorem wfv2 {k : Int32} (h : 20 ≤ k.toInt) (h2 : k.toInt ≤ 39) : wfv 2 (kk k) = -1 ↔ k.toInt < 31 := by
  have : ∀ m, m < 20 → (wfv 2 m = -1 ↔ m < 11) := by decide
  rw [this (kk k) (by unfold kk; omega)]
  unfold kk
  omega
theorem takeDeed_e {g : Gs} {N : Nat} (hS : Shp g) (hC : CT t n d0) (h0 : SF d0 d) (hx : XC d (T, 0)) (hw : NT d w) : pc (fX7_takeDeed N g 2 d) (fun u d' => CP d0 d' u (dS (KS t n) (T, 0)) (dNt (KS t n) (VS t n) T w)) := by
  have e31 : (31 : Int32).toInt = 31 := by decide
  obtain ⟨b1, b2⟩ := KS_i (t := t) (n := n) T
  have hT : T ≤ 400 := hx.2.2.1
  have j24 : ((KS t n) T).toInt < 31 → pc (fX7_takeDeed_J24 N g 2 d) (fun u d' => CP d0 d' u (dS (KS t n) (T, 0)) (dNt (KS t n) (VS t n) T w)) := by
    intro q
    unfold fX7_takeDeed_J24
    have : dS (KS t n) (T, 0) = (T, 1) := by
      unfold dS
      rw [if_pos rfl, if_pos (Or.inl q)]
    rw [this]
    exact pc_gd (fun _ => pc_cb (failC_e (by decide) h0 hx) (fun u11 d9 r => pc_gd (fun _ => pc_some r)))
  unfold fX7_takeDeed
  refine pc_gd (fun _ => pc_ob (fun r e => ?_))
  have := gq hS (e := 3) (by decide +kernel) e
  subst this
  refine pc_gd (fun _ => pc_cb (wordAt_e hS (hC.tf h0.tf) hx.1 hx.2.2.1) (fun u d4 r => ?_))
  obtain ⟨e, hu⟩ := r
  subst e
  rw [hu]
  by_cases h20 : 20 ≤ ((KS t n) T).toInt
  · have eW := wd_some h20
    refine pc_if (fun q => absurd (eW.symm.trans q) (by simp)) (fun _ => ?_)
    refine pc_ob (fun r e => ?_)
    have er : r = 100000 + kk ((KS t n) T) := Option.some.inj (e.symm.trans eW)
    subst er
    rw [show 100000 + kk ((KS t n) T) - 100000 = kk ((KS t n) T) by omega]
    refine pc_gd (fun _ => pc_if (fun q => j24 ((wfv2 h20 b1).mp q)) (fun q => ?_))
    have h31 : ¬ ((KS t n) T).toInt < 31 := fun z => q ((wfv2 h20 b1).mpr z)
    have nn : ¬ (((KS t n) T).toInt < 31 ∨ 39 < ((KS t n) T).toInt) := by omega
    have eD : dS (KS t n) (T, 0) = if (KS t n) T = 35 ∨ (KS t n) T = 36 then pS (T, 0) else if (KS t n) T = 37 then mS (KS t n) 2 (lmS (KS t n) (mS (KS t n) 2 (pS (T, 0)))) else if (KS t n) T = 38 then mS (KS t n) 2 (mS (KS t n) 2 (pS (T, 0))) else mS (KS t n) 2 (pS (T, 0)) := by
      unfold dS
      rw [if_pos rfl, if_neg nn]
    have fb : ∀ {y : Nat × Int32}, ¬ y.2 = 0 → (if (KS t n) T = 35 ∨ (KS t n) T = 36 then y else if (KS t n) T = 37 then mS (KS t n) 2 (lmS (KS t n) (mS (KS t n) 2 y)) else if (KS t n) T = 38 then mS (KS t n) 2 (mS (KS t n) 2 y) else mS (KS t n) 2 y) = y := by
      intro y hy
      have a : ∀ {k : Int32}, mS (KS t n) k y = y := mS_n hy
      rw [a, lmS_n hy, a]
      split
      · rfl
      · split
        · rfl
        · split <;> rfl
    refine pc_seq (K := KS t n) (k := (KS t n) T) (T := T) (pc_r (takeToken_e hS (hC.tf h0.tf) h0 hx hw (hk_w rfl h20))) (fun q => by rw [mS_k] at q ⊢; rw [eD]; exact fb q) (fun d16 m1 m2 a b c _ => ?_)
    have eP : pS (T, 0) = (T + 1, 0) := mS_k.symm.trans m1
    rw [eP] at eD
    refine pc_ob (fun r e => ?_)
    have := gq hS (e := 8) (by decide +kernel) e
    subst this
    refine pc_gd (fun _ => pc_cv (tell8_e b a c) (fun d22 r => ?_))
    obtain ⟨s22, x22, w22⟩ := r
    have j67 : ((KS t n) T = 35 ∨ (KS t n) T = 36) → pc (fX7_takeDeed_J67 N g 2 d22) (fun u d' => CP d0 d' u (dS (KS t n) (T, 0)) (dNt (KS t n) (VS t n) T w)) := by
      intro q
      unfold fX7_takeDeed_J67
      rw [eD, if_pos q]
      have eN : dNt (KS t n) (VS t n) T w = w := by
        unfold dNt
        rw [if_pos q]
      rw [eN]
      exact pc_some ⟨x22, s22, Or.inl ⟨rfl, rfl, w22⟩⟩
    refine pc_gd (fun _ => pc_gd (fun _ => pc_if (fun q => j67 (Or.inl ((wd_i (by decide) (by decide)).mp q))) (fun q35 => pc_gd (fun _ => pc_if (fun q => j67 (Or.inr ((wd_i (by decide) (by decide)).mp q))) (fun q36 => ?_)))))
    have n35 : ¬ (KS t n) T = 35 := fun z => q35 ((wd_i (by decide) (by decide)).mpr z)
    have n36 : ¬ (KS t n) T = 36 := fun z => q36 ((wd_i (by decide) (by decide)).mpr z)
    have n3 : ¬ ((KS t n) T = 35 ∨ (KS t n) T = 36) := fun z => z.elim n35 n36
    rw [if_neg n3] at eD
    have eN : dNt (KS t n) (VS t n) T w = if (KS t n) T = 37 then nW (VS t n) ((KS t n) (T + 2)) (T + 3) (nW (VS t n) ((KS t n) T) (T + 1) w) else if (KS t n) T = 38 then nW (VS t n) ((KS t n) T) (T + 2) (nW (VS t n) ((KS t n) T) (T + 1) w) else nW (VS t n) ((KS t n) T) (T + 1) w := by
      unfold dNt
      rw [if_neg n3]
    have n3f : ∀ {y : Nat × Int32}, ¬ y.2 = 0 → (if (KS t n) T = 37 then mS (KS t n) 2 (lmS (KS t n) y) else if (KS t n) T = 38 then mS (KS t n) 2 y else y) = y := by
      intro y hy
      rw [lmS_n hy, mS_n hy]
      split
      · rfl
      · split <;> rfl
    have eD2 : dS (KS t n) (T, 0) = if (KS t n) T = 37 then mS (KS t n) 2 (lmS (KS t n) (mS (KS t n) 2 (T + 1, 0))) else if (KS t n) T = 38 then mS (KS t n) 2 (mS (KS t n) 2 (T + 1, 0)) else mS (KS t n) 2 (T + 1, 0) := eD
    refine pc_seq (K := KS t n) (k := 2) (T := T + 1) (takeNumber_e hS (hC.tf s22.tf) s22 x22 w22) (fun q => by rw [eD2]; exact n3f q) (fun d29 m1 m2 a b c _ => ?_)
    rw [m1] at eD2
    refine pc_bd (fun d33 e33 => ?_)
    have s33 := b.i e33 (Or.inr rfl)
    have x33 := a.i8 e33
    have w33 := c.i8 e33
    have eW1 : nNu (VS t n) (wfv 0 (kk ((KS t n) T))) (wfv 1 (kk ((KS t n) T))) (T + 1) w = nW (VS t n) ((KS t n) T) (T + 1) w := rfl
    rw [eW1] at w33
    refine pc_gd (fun _ => pc_if (fun q => ?_) (fun q37 => ?_))
    · have k37 : (KS t n) T = 37 := (wd_i (by decide) (by decide)).mp q
      rw [if_pos k37] at eD2 eN
      refine pc_cb (wordAt_e hS (hC.tf s33.tf) x33.1 x33.2.2.1) (fun u d48 r => ?_)
      obtain ⟨e, hu⟩ := r
      subst e
      rw [hu]
      have j138 : ((KS t n) (T + 2) = 33 ∨ (KS t n) (T + 2) = 32) → pc (fX7_takeDeed_J138 N g 2 (WD ((KS t n) (T + 2))) d48) (fun u d' => CP d0 d' u (dS (KS t n) (T, 0)) (dNt (KS t n) (VS t n) T w)) := by
        intro z
        have h20' : 20 ≤ ((KS t n) (T + 2)).toInt := by
          rcases z with z | z <;> rw [z] <;> decide
        have eL : lmS (KS t n) (T + 1 + 1, 0) = mS (KS t n) ((KS t n) (T + 2)) (T + 2, 0) := by
          rw [mS_k]
          unfold lmS
          rw [if_pos rfl, if_pos z]
        unfold fX7_takeDeed_J138
        refine pc_gd (fun _ => pc_seq (K := KS t n) (k := (KS t n) (T + 2)) (T := T + 2) (pc_r (takeToken_e hS (hC.tf s33.tf) s33 x33 w33 (hk_w rfl h20'))) (fun q => by rw [eD2, eL]; exact mS_n q) (fun d55 m1' m2' a' b' c' _ => ?_))
        rw [eL, m1'] at eD2
        refine pc_ob (fun r e => ?_)
        have := gq hS (e := 8) (by decide +kernel) e
        subst this
        have j166 : ∀ {v : Int32}, pc (fX7_takeDeed_J166 N g 2 (WD ((KS t n) (T + 2))) v 8 d55) (fun u d' => CP d0 d' u (dS (KS t n) (T, 0)) (dNt (KS t n) (VS t n) T w)) := by
          intro v
          unfold fX7_takeDeed_J166
          refine pc_gd (fun _ => pc_bd (fun d64 e64 => ?_))
          rw [eD2, eN]
          exact d181 hS h20' hC (b'.i e64 (Or.inr rfl)) (a'.i8 e64) (c'.i8 e64)
        exact pc_gd (fun _ => pc_gd (fun _ => pc_if (fun _ => j166) (fun _ => j166)))
      refine pc_gd (fun _ => pc_gd (fun _ => pc_if (fun q => j138 (Or.inl ((wd_i (by decide) (by decide)).mp q))) (fun q33 => pc_gd (fun _ => pc_if (fun q => j138 (Or.inr ((wd_i (by decide) (by decide)).mp q))) (fun q32 => ?_)))))
      have eL : lmS (KS t n) (T + 1 + 1, 0) = (T + 2, 1) := by
        unfold lmS
        rw [if_pos rfl, if_neg (fun z => z.elim (fun z => q33 ((wd_i (by decide) (by decide)).mpr z)) (fun z => q32 ((wd_i (by decide) (by decide)).mpr z)))]
      rw [eD2, eL, mS_n (show ¬ (1 : Int32) = 0 by decide)]
      exact pc_cb (failC_e (by decide) s33 x33) (fun u69 d67 r => pc_gd (fun _ => pc_some r))
    · have n37 : ¬ (KS t n) T = 37 := fun z => q37 ((wd_i (by decide) (by decide)).mpr z)
      rw [if_neg n37] at eD2 eN
      refine pc_gd (fun _ => pc_if (fun q => ?_) (fun q38 => ?_))
      · have k38 : (KS t n) T = 38 := (wd_i (by decide) (by decide)).mp q
        rw [if_pos k38] at eD2 eN
        rw [eD2, eN]
        exact d181 hS h20 hC s33 x33 w33
      · have n38 : ¬ (KS t n) T = 38 := fun z => q38 ((wd_i (by decide) (by decide)).mpr z)
        rw [if_neg n38] at eD2 eN
        rw [eD2, eN]
        exact pc_some ⟨x33, s33, Or.inl ⟨rfl, rfl, w33⟩⟩
  · rw [wd_none h20]
    exact pc_if (fun _ => j24 (by omega)) (fun q => absurd rfl q)
end DEED
/-! the class's draft: what a text told -/
theorem chk_ne {g : Gs} (hS : Shp g) {r k e : Nat} (h : chk g r k) (he : e < 347) (hk : tkd e ≠ k) : r ≠ e := fun z => hk (by rw [← (hS.2.1 e he).1, ← z]; exact h.2)
def DR (V : Nat → Int32) (d : Ds) (n m : Nat) (ck : Nat → Int32) : Prop := dI d 9 0 = V 1 ∧ dI d 9 1 = V 2 ∧ (dI d 9 12).toInt = (n : Int) ∧ (dI d 9 16).toInt = (m : Int) ∧ ∀ j, j < n → dI d 12 j = ck (2 * j) ∧ dI d 13 j = ck (2 * j + 1)
def DRF (d d' : Ds) : Prop := (∀ j, j = 0 ∨ j = 1 ∨ j = 12 ∨ j = 16 → dI d' 9 j = dI d 9 j) ∧ ∀ j, dI d' 12 j = dI d 12 j ∧ dI d' 13 j = dI d 13 j
theorem DR.f {V : Nat → Int32} {d d' : Ds} {n m : Nat} {ck : Nat → Int32} (h : DR V d n m ck) (f : DRF d d') : DR V d' n m ck := by
  obtain ⟨a, b, c, e, h⟩ := h
  refine ⟨by rw [f.1 0 (by omega)]; exact a, by rw [f.1 1 (by omega)]; exact b, by rw [f.1 12 (by omega)]; exact c, by rw [f.1 16 (by omega)]; exact e, fun j hj => ?_⟩
  rw [(f.2 j).1, (f.2 j).2]
  exact h j hj
theorem SF.drf {d d' : Ds} (h : SF d d') : DRF d d' := ⟨fun j _ => h.1 9 j (by omega), fun j => ⟨h.1 12 j (by omega), h.1 13 j (by omega)⟩⟩
/-- the reader's own cells and the tokens stay -/
def QF (d d' : Ds) : Prop := (∀ j, dI d' 2 j = dI d 2 j) ∧ TF d d'
theorem QF.rf {d : Ds} : QF d d := ⟨fun _ => rfl, fun _ _ _ => rfl, fun _ => rfl⟩
theorem QF.i {d df de : Ds} {r j : Nat} {v : Int32} (h : QF d df) (e : de = sI df r j v) (hr : ¬ (r = 2 ∨ r = 3 ∨ r = 4 ∨ r = 5 ∨ r = 6)) : QF d de := by
  subst e
  refine ⟨fun i => ?_, fun r' i q => ?_, h.2.2⟩
  · rw [sI_rd, if_neg (fun z => hr (Or.inl z.1.symm))]
    exact h.1 i
  · rw [sI_rd, if_neg (fun z => hr (by rw [← z.1]; omega))]
    exact h.2.1 r' i q
theorem TF.rf {d : Ds} : TF d d := ⟨fun _ _ _ => rfl, fun _ => rfl⟩
theorem TF.tr {d dd d' : Ds} (h : TF d dd) (h2 : TF dd d') : TF d d' := ⟨fun r j q => (h2.1 r j q).trans (h.1 r j q), fun j => (h2.2 j).trans (h.2 j)⟩
theorem XC.q {d d' : Ds} {x : Nat × Int32} (h : XC d x) (f : QF d d') : XC d' x := ⟨by rw [f.1]; exact h.1, by rw [f.1]; exact h.2.1, h.2.2.1, fun z => by rw [f.1]; exact h.2.2.2 z⟩
theorem NT.q {d d' : Ds} {w : Int32 × Nat} (h : NT d w) (f : QF d d') : NT d' w := ⟨by rw [f.1]; exact h.1, fun z => by rw [f.1]; exact h.2 z⟩
theorem DRF.i {d df de : Ds} {r j : Nat} {v : Int32} (h : DRF d df) (e : de = sI df r j v) (hr : ¬ (r = 12 ∨ r = 13 ∨ r = 9 ∧ (j = 0 ∨ j = 1 ∨ j = 12 ∨ j = 16))) : DRF d de := by
  subst e
  refine ⟨fun i q => ?_, fun i => ⟨?_, ?_⟩⟩
  · rw [sI_rd, if_neg (fun z => hr (Or.inr (Or.inr ⟨z.1.symm, by omega⟩)))]
    exact h.1 i q
  · rw [sI_rd, if_neg (fun z => hr (Or.inl z.1.symm))]
    exact (h.2 i).1
  · rw [sI_rd, if_neg (fun z => hr (Or.inr (Or.inl z.1.symm)))]
    exact (h.2 i).2
theorem DRF.rf {d : Ds} : DRF d d := ⟨fun _ _ => rfl, fun _ => ⟨rfl, rfl⟩⟩
/-- as above, with what holds of the draft -/
def CQ (d0 : Ds) (G : Ds → Prop) (d' : Ds) (u : Int32) (y : Nat × Int32) (w : Int32 × Nat) : Prop := XC d' y ∧ TF d0 d' ∧ (u = 1 ∧ y.2 = 0 ∧ NT d' w ∧ G d' ∨ u = 0 ∧ ¬ y.2 = 0)
theorem CP.cq {d0 d1 d' : Ds} {G : Ds → Prop} {u : Int32} {y : Nat × Int32} {w : Int32 × Nat} (h : CP d1 d' u y w) (hT : TF d0 d1) (hG : SF d1 d' → G d') : CQ d0 G d' u y w := ⟨h.1, hT.tr h.2.1.tf, h.2.2.elim (fun z => Or.inl ⟨z.1, z.2.1, z.2.2, hG h.2.1⟩) Or.inr⟩
section SEQQ
variable {K : Nat → Int32} {k : Int32} {T : Nat} {d0 d1 : Ds} {w w' : Int32 × Nat} {z : Nat × Int32} {G : Ds → Prop}
theorem pc_seqQ {X : Option (Int32 × Ds)} {rest : Ds → Option (Int32 × Ds)} {R : Ds → Prop} (hT : TF d0 d1) (hX : pc X (fun u d' => CP d1 d' u (mS K k (T, 0)) w ∧ R d')) (hz : ¬ (mS K k (T, 0)).2 = 0 → z = mS K k (T, 0)) (hr : ∀ d', mS K k (T, 0) = (T + 1, 0) → K T = k → XC d' (T + 1, 0) → SF d1 d' → NT d' w → R d' → pc (rest d') (fun u d' => CQ d0 G d' u z w')) : pc (cb X fun u d' => if u = 0 then some (0, d') else rest d') (fun u d' => CQ d0 G d' u z w') := by
  refine pc_cb hX (fun u d' r => ?_)
  obtain ⟨⟨a, b, c⟩, rR⟩ := r
  rcases c with ⟨c, c0, cw⟩ | ⟨c, c0⟩
  · rw [c]
    refine pc_if (fun q => absurd q (by decide)) (fun _ => ?_)
    obtain ⟨m1, m2, _⟩ := mS_ok c0
    rw [m1] at a
    exact hr d' m1 m2 a b cw rR
  · rw [c]
    refine pc_if (fun _ => pc_some ?_) (fun q => absurd rfl q)
    rw [hz c0]
    exact ⟨a, hT.tr b.tf, Or.inr ⟨rfl, c0⟩⟩
end SEQQ
/-! lines -/
def kyN (V : Nat → Int32) : Int32 := V 1 * V 2 - 1
def tld (ck : Nat → Int32) (v : Int32) : Nat → Bool
  | 0 => false
  | j + 1 => tld ck v j || ck j == v
def cNt (V : Nat → Int32) (n : Nat) (ck : Nat → Int32) (u : Int32) (T : Nat) (w : Int32 × Nat) : Int32 × Nat := nNu V 0 (kyN V) T (if V T = u ∨ tld ck (V T) (2 * n) = true then nT 3 T w else w)
def mNt (K V : Nat → Int32) : Nat → Nat → Int32 × Nat → Int32 × Nat
  | 0, _, w => w
  | k + 1, T, w => if K T = 2 then mNt K V k (T + 1) (nW V 30 T w) else w
def cDt (K V : Nat → Int32) (T : Nat) (w : Int32 × Nat) : Int32 × Nat := dNt K V T (if K T = 31 ∨ K T = 32 ∨ K T = 39 then w else nT 5 T w)
def lNt (K V : Nat → Int32) (n : Nat) (ck : Nat → Int32) (T : Nat) (w : Int32 × Nat) : Int32 × Nat := if (K T).toInt < 23 then w else if K T = 28 then dNt K V (T + 3) (nNu V 0 (kyN V) (T + 2) (nW V (K T) (T + 1) w)) else if K T = 29 then cDt K V (T + 3) (cNt V n ck (V (T + 1)) (T + 2) (cNt V n ck (-1) (T + 1) w)) else if K T = 30 then mNt K V 7 (T + 2) (nW V (K T) (T + 1) w) else if K T = 27 then nNu V 1 20 (T + 2) (nW V (K T) (T + 1) w) else nW V (K T) (T + 1) w
def ckU (ck : Nat → Int32) (n : Nat) (a b : Int32) : Nat → Int32 := fun j => if j = 2 * n then a else if j = 2 * n + 1 then b else ck j
section LINE
variable {t : Nat → Int32} {n : Nat} {d0 d : Ds} {T c m : Nat} {w : Int32 × Nat} {ck : Nat → Int32}
theorem takeSetting_e {g : Gs} {N : Nat} (hS : Shp g) {k : Int32} (hk : 23 ≤ k.toInt) (hk2 : k.toInt ≤ 27) (hC : CT t n d) (hx : XC d (T, 0)) (hw : NT d w) (hD : DR (VS t n) d c m ck) : pc (fX7_takeSetting N g 2 (WD k) d) (fun u d' => CQ d (fun d' => DR (VS t n) d' c m ck) d' u (if k = 27 then mS (KS t n) 2 (mS (KS t n) 2 (T, 0)) else mS (KS t n) 2 (T, 0)) (if k = 27 then nNu (VS t n) 1 20 (T + 1) (nW (VS t n) k T w) else nW (VS t n) k T w)) := by
  have e27 : (27 : Int32).toInt = 27 := by decide
  unfold fX7_takeSetting
  rw [wd_some (by omega)]
  refine pc_ob (fun r e => ?_)
  have er : r = 100000 + kk k := (Option.some.inj e).symm
  subst er
  rw [show 100000 + kk k - 100000 = kk k by omega, ← wd_some (by omega)]
  refine pc_gd (fun _ => pc_gd (fun _ => pc_seqQ (K := KS t n) TF.rf (takeNumber_e hS hC SF.rf hx hw) (fun q => ?_) (fun d4 m1 m2 a b c4 n4 => ?_)))
  · split
    · exact mS_n q
    · rfl
  · have w4 : NT d4 (nW (VS t n) k T w) := c4
    have hD4 := hD.f b.drf
    have out : ∀ {dd : Ds}, k ≠ 27 → QF d4 dd → DRF d4 dd → pc (fX7_takeSetting_J142 N g 2 (WD k) dd) (fun u d' => CQ d (fun d' => DR (VS t n) d' c m ck) d' u (if k = 27 then mS (KS t n) 2 (mS (KS t n) 2 (T, 0)) else mS (KS t n) 2 (T, 0)) (if k = 27 then nNu (VS t n) 1 20 (T + 1) (nW (VS t n) k T w) else nW (VS t n) k T w)) := by
      intro dd q1 q2 q3
      unfold fX7_takeSetting_J142
      rw [if_neg q1, if_neg q1, m1]
      exact pc_some ⟨a.q q2, b.tf.tr q2.2, Or.inl ⟨rfl, rfl, w4.q q2, hD4.f q3⟩⟩
    have one : ∀ {M : Nat} {z : Int32} {j : Nat} {v : Int32}, z.toInt = 20 + ((M - 100000 : Nat) : Int) → 100000 ≤ M → z ≠ 27 → ¬ (j = 0 ∨ j = 1 ∨ j = 12 ∨ j = 16) → WD k = some M → pc (ob (gR g 2 2) fun r36 => (gd (chk g r36 0) <| bd (sI d4 r36 j v) fun d38 => (fX7_takeSetting_J142 N g 2 (WD k) d38))) (fun u d' => CQ d (fun d' => DR (VS t n) d' c m ck) d' u (if k = 27 then mS (KS t n) 2 (mS (KS t n) 2 (T, 0)) else mS (KS t n) 2 (T, 0)) (if k = 27 then nNu (VS t n) 1 20 (T + 1) (nW (VS t n) k T w) else nW (VS t n) k T w)) := by
      intro M z j v h1 h2 h3 h4 h5
      refine pc_ob (fun r e => ?_)
      have := gq hS (e := 9) (by decide +kernel) e
      subst this
      refine pc_gd (fun _ => pc_bd (fun d38 e38 => out (by rw [(wd_i h1 h2).mp h5]; exact h3) (QF.rf.i e38 (by decide)) (DRF.rf.i e38 (fun y => ?_))))
      omega
    refine pc_gd (fun _ => pc_gd (fun _ => pc_if (fun q => one (z := 23) (by decide) (by decide) (by decide) (by decide) q) (fun q3 => pc_gd (fun _ => pc_if (fun q => one (z := 24) (by decide) (by decide) (by decide) (by decide) q) (fun q4 => pc_gd (fun _ => pc_if (fun q => one (z := 25) (by decide) (by decide) (by decide) (by decide) q) (fun q5 => pc_gd (fun _ => pc_if (fun q => one (z := 26) (by decide) (by decide) (by decide) (by decide) q) (fun q6 => pc_gd (fun _ => pc_if (fun q => ?_) (fun q7 => ?_)))))))))))
    · have k27 : k = 27 := (wd_i (by decide) (by decide)).mp q
      rw [if_pos k27, if_pos k27, m1]
      refine pc_ob (fun r e => ?_)
      have := gq hS (e := 9) (by decide +kernel) e
      subst this
      refine pc_gd (fun _ => pc_bd (fun d21 e21 => ?_))
      have q21 := QF.rf.i e21 (by decide)
      have f21 := DRF.rf.i e21 (by decide)
      refine pc_seqQ (K := KS t n) (b.tf.tr q21.2) (takeNumber_e hS ((hC.tf b.tf).tf q21.2) SF.rf (a.q q21) (w4.q q21)) (fun _ => rfl) (fun d22 m1' m2' a' b' c' n' => ?_)
      refine pc_bd (fun d26 e26 => ?_)
      have q26 := QF.rf.i e26 (by decide)
      have f26 := DRF.rf.i e26 (by decide)
      unfold fX7_takeSetting_J142
      rw [m1']
      exact pc_some ⟨a'.q q26, ((b.tf.tr q21.2).tr b'.tf).tr q26.2, Or.inl ⟨rfl, rfl, c'.q q26, ((hD4.f f21).f b'.drf).f f26⟩⟩
    · exact out (fun z => q7 ((wd_i (by decide) (by decide)).mpr z)) QF.rf DRF.rf
theorem copy_e {g : Gs} (hS : Shp g) {N : Nat} {r b : Nat} (h : chk g r 2) : pc (fX2_copyFrom N g r b d) (fun _ d' => QF d d' ∧ DRF d d') := by
  have nx : ∀ {e : Nat}, e < 347 → tkd e ≠ 2 → r ≠ e := fun he hk => chk_ne hS h he hk
  have n2 : r ≠ 2 := nx (by decide) (by decide +kernel)
  have n3 : r ≠ 3 := nx (by decide) (by decide +kernel)
  have n4 : r ≠ 4 := nx (by decide) (by decide +kernel)
  have n5 : r ≠ 5 := nx (by decide) (by decide +kernel)
  have n6 : r ≠ 6 := nx (by decide) (by decide +kernel)
  have n9 : r ≠ 9 := nx (by decide) (by decide +kernel)
  have n12 : r ≠ 12 := nx (by decide) (by decide +kernel)
  have n13 : r ≠ 13 := nx (by decide) (by decide +kernel)
  unfold fX2_copyFrom fX2_tell
  refine pc_gd (fun _ => pc_gd (fun _ => pc_cv (P := fun _ d' => QF d d' ∧ DRF d d') (pc_gd (fun _ => pc_bd (fun d2 e2 => pc_bd (fun d3 e3 => pc_bd (fun d4 e4 => pc_some ⟨((QF.rf.i e2 (by omega)).i e3 (by omega)).i e4 (by omega), ((DRF.rf.i e2 (by omega)).i e3 (by omega)).i e4 (by omega)⟩))))) (fun d3 r => pc_some r)))
theorem takeKey_e {g : Gs} {N : Nat} (hS : Shp g) (hC : CT t n d) (hx : XC d (T, 0)) (hw : NT d w) (hD : DR (VS t n) d c m ck) : pc (fX7_takeKey N g 2 d) (fun u d' => CQ d (fun d' => DR (VS t n) d' c m ck) d' u (dS (KS t n) (mS (KS t n) 2 (mS (KS t n) 2 (T, 0)))) (dNt (KS t n) (VS t n) (T + 2) (nNu (VS t n) 0 (kyN (VS t n)) (T + 1) (nW (VS t n) 28 T w)))) := by
  unfold fX7_takeKey
  refine pc_gd (fun _ => pc_gd (fun _ => pc_seqQ (K := KS t n) TF.rf (takeNumber_e hS hC SF.rf hx hw) (fun q => by rw [mS_n q, dS_n q]) (fun d3 m1 m2 a b c3 n3 => ?_)))
  have w3 : NT d3 (nW (VS t n) 28 T w) := c3
  rw [m1]
  refine pc_bd (fun u7 e7 => pc_ob (fun r e => ?_))
  have := gq hS (e := 9) (by decide +kernel) e
  subst this
  refine pc_gd (fun _ => pc_cb (P := fun u d' => d' = d3 ∧ u = VS t n 1 * VS t n 2) (by
    unfold fX0_keys
    have h3 := hD.f b.drf
    exact pc_gd (fun _ => pc_some ⟨rfl, by rw [h3.1, h3.2.1]⟩)) (fun u12 d10 r => ?_))
  obtain ⟨e, hu⟩ := r
  subst e
  rw [hu]
  refine pc_seqQ (K := KS t n) b.tf (takeNumber_e hS (hC.tf b.tf) SF.rf a w3) (fun q => dS_n q) (fun d13 m1' m2' a' b' c' n' => ?_)
  rw [m1']
  have w13 : NT d13 (nNu (VS t n) 0 (kyN (VS t n)) (T + 1) (nW (VS t n) 28 T w)) := c'
  have hD13 := (hD.f b.drf).f b'.drf
  refine pc_cb (P := fun _ d' => d' = d13) (by
    unfold fX0_toldDeed fX0_toldDeed_J19
    exact pc_if (fun _ => pc_some rfl) (fun _ => pc_if (fun _ => pc_some rfl) (fun _ => pc_if (fun _ => pc_some rfl) (fun _ => pc_if (fun _ => pc_gd (fun _ => pc_ob (fun _ _ => pc_gd (fun _ => pc_gd (fun _ => pc_ob (fun _ _ => pc_some rfl)))))) (fun _ => pc_some rfl))))) (fun u19 d17 e => ?_)
  subst e
  refine pc_cb (takeDeed_e hS ((hC.tf b.tf).tf b'.tf) SF.rf a' w13) (fun u22 d20 r => ?_)
  obtain ⟨x20, s20, hu⟩ := r
  have t20 := (b.tf.tr b'.tf).tr s20.tf
  rcases hu with ⟨hu, y0, w20⟩ | ⟨hu, y0⟩ <;> rw [hu]
  · refine pc_if (fun q => absurd q (by decide)) (fun _ => ?_)
    have fin : ∀ {dd : Ds}, QF d20 dd → DRF d20 dd → pc (fX7_takeKey_J79 N g 2 dd) (fun u d' => CQ d (fun d' => DR (VS t n) d' c m ck) d' u (dS (KS t n) (T + 1 + 1, 0)) (dNt (KS t n) (VS t n) (T + 2) (nNu (VS t n) 0 (kyN (VS t n)) (T + 1) (nW (VS t n) 28 T w)))) := by
      intro dd q1 q2
      unfold fX7_takeKey_J79
      exact pc_some ⟨x20.q q1, t20.tr q1.2, Or.inl ⟨rfl, y0, w20.q q1, (hD13.f s20.drf).f q2⟩⟩
    refine pc_if (fun _ => fin QF.rf DRF.rf) (fun _ => pc_ob (fun r25 _ => pc_ob (fun r26 _ => pc_gd (fun hc => pc_cv (copy_e hS hc) (fun d28 r => fin r.1 r.2)))))
  · exact pc_if (fun _ => pc_some ⟨x20, t20, Or.inr ⟨rfl, y0⟩⟩) (fun q => absurd rfl q)
end LINE
/-! chords and codes of the class -/
theorem tld_mono {ck : Nat → Int32} {v : Int32} {a : Nat} (h : tld ck v a = true) : ∀ m, tld ck v (a + m) = true := by
  intro m
  induction m with
  | zero => exact h
  | succ m ih =>
    show (tld ck v (a + m) || ck (a + m) == v) = true
    rw [ih, Bool.true_or]
theorem tld_hit {ck : Nat → Int32} {v : Int32} {j b : Nat} (h : ck j = v) (hb : j < b) : tld ck v b = true := by
  have : tld ck v (j + 1) = true := by
    show (tld ck v j || ck j == v) = true
    rw [h]
    simp
  have := tld_mono this (b - (j + 1))
  rwa [show j + 1 + (b - (j + 1)) = b by omega] at this
section CHORD
variable {t : Nat → Int32} {n : Nat} {d0 d : Ds} {T c m : Nat} {w : Int32 × Nat} {ck : Nat → Int32}
theorem chordOf_e {g : Gs} (hS : Shp g) {x : Int32} {V : Nat → Int32} (hc : c ≤ 4) (hD : DR V d c m ck) : pc (fX0_chordOf 10000 g 9 x d) (fun u d' => d' = d ∧ (¬ u = -1 ↔ tld ck x (2 * c) = true)) := by
  have e1 : (1 : Int32).toInt = 1 := by decide
  have em : (-1 : Int32).toInt = -1 := by decide
  unfold fX0_chordOf fX0_chordOf_L2
  refine pc_lp (fun a => a.2 = d ∧ ∃ j : Nat, j ≤ c ∧ a.1.toInt = (j : Int) ∧ tld ck x (2 * j) = false) ?_ 10000 (0, d) ⟨rfl, 0, Nat.zero_le _, (by decide : (0 : Int32).toInt = ((0 : Nat) : Int)), rfl⟩
  rintro K ⟨y2, dd⟩ ⟨e, j, hj, hy, hf⟩ hK
  dsimp only at e hy hK ⊢
  subst e
  have h12 := hD.2.2.1
  unfold fX0_chordOf_B2
  have ny : ¬ y2 = -1 := fun z => by rw [z, em] at hy; omega
  refine pc_gd (fun _ => pc_if (fun q => ?_) (fun q => ?_))
  · have q2 := Int32.le_iff_toInt_le.mp q
    have : j = c := by omega
    subst this
    exact pc_some ⟨rfl, ⟨fun z => absurd rfl z, fun z => by rw [hf] at z; exact absurd z (by decide)⟩⟩
  · have q2 := Int32.lt_iff_toInt_lt.mp (nle q)
    have hl : j < c := by omega
    obtain ⟨k1, k2⟩ := hD.2.2.2.2 j hl
    refine pc_ob (fun r e => ?_)
    have := gq hS (e := 12) (by decide +kernel) e
    subst this
    refine pc_gd (fun _ => pc_gd (fun _ => ?_))
    rw [tn hy, k1]
    refine pc_if (fun z => ?_) (fun z1 => ?_)
    · unfold fX0_chordOf_J30
      exact pc_some ⟨rfl, ⟨fun _ => tld_hit z (by omega), fun _ => ny⟩⟩
    · refine pc_ob (fun r e => ?_)
      have := gq hS (e := 13) (by decide +kernel) e
      subst this
      refine pc_gd (fun _ => pc_gd (fun _ => ?_))
      rw [k2]
      refine pc_if (fun z => ?_) (fun z2 => ?_)
      · unfold fX0_chordOf_J30
        exact pc_some ⟨rfl, ⟨fun _ => tld_hit z (by omega), fun _ => ny⟩⟩
      · refine pc_bd (fun u e => hK _ ⟨rfl, j + 1, by omega, ?_, ?_⟩)
        · dsimp only
          rw [e, z_add hy e1 (by omega) (by omega)]
          omega
        · rw [show 2 * (j + 1) = 2 * j + 1 + 1 by omega]
          show (tld ck x (2 * j) || ck (2 * j) == x || ck (2 * j + 1) == x) = false
          rw [hf, beq_false_of_ne z1, beq_false_of_ne z2]
          rfl
theorem takeChordKey_e {g : Gs} (hS : Shp g) {x : Int32} (hc : c ≤ 4) (hC : CT t n d) (hx : XC d (T, 0)) (hw : NT d w) (hD : DR (VS t n) d c m ck) : pc (fX7_takeChordKey 10000 g 2 x d) (fun u d' => CP d d' u (mS (KS t n) 2 (T, 0)) (cNt (VS t n) c ck x T w) ∧ dI d' 2 4 = VS t n T) := by
  have j38 : ∀ {dd : Ds} {w0 : Int32 × Nat}, SF d dd → XC dd (T, 0) → NT dd w0 → nNu (VS t n) 0 (kyN (VS t n)) T w0 = cNt (VS t n) c ck x T w → pc (fX7_takeChordKey_J38 10000 g 2 x dd) (fun u d' => CP d d' u (mS (KS t n) 2 (T, 0)) (cNt (VS t n) c ck x T w) ∧ dI d' 2 4 = VS t n T) := by
    intro dd w0 sf xx ww e0
    unfold fX7_takeChordKey_J38
    refine pc_gd (fun _ => pc_ob (fun r e => ?_))
    have := gq hS (e := 9) (by decide +kernel) e
    subst this
    refine pc_gd (fun _ => pc_cb (P := fun u d' => d' = dd ∧ u = VS t n 1 * VS t n 2) (by
      unfold fX0_keys
      have h3 := hD.f sf.drf
      exact pc_gd (fun _ => pc_some ⟨rfl, by rw [h3.1, h3.2.1]⟩)) (fun u12 d10 r => ?_))
    obtain ⟨e, hu⟩ := r
    subst e
    rw [hu]
    refine pc_cb (takeNumber_e hS (hC.tf sf.tf) sf xx ww) (fun u19 d17 r => pc_gd (fun _ => pc_some ?_))
    rw [← e0]
    exact r
  have j29 : (VS t n T = x ∨ tld ck (VS t n T) (2 * c) = true) → pc (fX7_takeChordKey_J29 10000 g 2 x d) (fun u d' => CP d d' u (mS (KS t n) 2 (T, 0)) (cNt (VS t n) c ck x T w) ∧ dI d' 2 4 = VS t n T) := by
    intro q
    unfold fX7_takeChordKey_J29
    refine pc_gd (fun _ => pc_cv (noteLater_e hx.1 hx.2.2.1 SF.rf hx hw) (fun d9 r => ?_))
    obtain ⟨a1, a2, a3, _⟩ := r
    refine j38 a2 a1 a3 ?_
    unfold cNt
    rw [if_pos q]
  unfold fX7_takeChordKey
  refine pc_gd (fun _ => pc_ob (fun r e => ?_))
  have := gq hS (e := 3) (by decide +kernel) e
  subst this
  refine pc_gd (fun _ => pc_cb (numberAt_e hS hC hx.1 hx.2.2.1) (fun u d4 r => ?_))
  obtain ⟨e, hu⟩ := r
  subst e
  dsimp only at hu
  rw [hu]
  refine pc_if (fun q => j29 (Or.inl q)) (fun q1 => pc_ob (fun r e => ?_))
  have := gq hS (e := 9) (by decide +kernel) e
  subst this
  refine pc_gd (fun _ => pc_cb (chordOf_e hS hc hD) (fun u25 d23 r => ?_))
  obtain ⟨e, hu⟩ := r
  subst e
  refine pc_if (fun q => ?_) (fun q => j29 (Or.inr (hu.mp q)))
  refine j38 SF.rf hx hw ?_
  unfold cNt
  rw [if_neg (fun z => z.elim q1 (fun z => hu.mpr z q))]
theorem addChord_e {g : Gs} (hS : Shp g) {N : Nat} {a b : Int32} {r : Nat} {V : Nat → Int32} (hc : c < 4) (hD : DR V d c m ck) : pc (fX0_addChord N g 9 a b r d) (fun _ d' => QF d d' ∧ DR V d' (c + 1) m (ckU ck c a b)) := by
  have e4 : (4 : Int32).toInt = 4 := by decide
  have e1 : (1 : Int32).toInt = 1 := by decide
  obtain ⟨h0, h1, h12, h16, hk⟩ := hD
  unfold fX0_addChord
  refine pc_gd (fun _ => pc_if (fun q => ?_) (fun q => pc_ob (fun r3 e => ?_)))
  · have := Int32.le_iff_toInt_le.mp q
    omega
  have := gq hS (e := 12) (by decide +kernel) e
  subst this
  refine pc_gd (fun _ => pc_gd (fun _ => pc_bd (fun d6 e6 => pc_ob (fun r7 e => ?_))))
  have := gq hS (e := 13) (by decide +kernel) e
  subst this
  refine pc_gd (fun _ => pc_gd (fun _ => pc_bd (fun d10 e10 => pc_ob (fun r11 _ => pc_gd (fun _ => pc_gd (fun _ => pc_ob (fun r14 _ => pc_gd (fun hc14 => pc_cv (copy_e hS hc14) (fun d16 r => pc_bd (fun d18 e18 => ?_)))))))))) 
  unfold fX0_addChord_J51
  obtain ⟨q16, f16⟩ := r
  have q6 := QF.rf.i e6 (by decide)
  have q10 := q6.i e10 (by decide)
  have qq : QF d d16 := ⟨fun j => (q16.1 j).trans (q10.1 j), q10.2.tr q16.2⟩
  have n12 : (dI d 9 12).toNatClampNeg = c := tn h12
  have n12' : (dI d6 9 12).toNatClampNeg = c := by rw [rdq e6 (Or.inl (by decide))]; exact n12
  rw [n12] at e6
  rw [n12'] at e10
  have k9 : ∀ j, dI d10 9 j = dI d 9 j := fun j => by rw [rdq e10 (Or.inl (by decide)), rdq e6 (Or.inl (by decide))]
  have c9 : ∀ j, j = 0 ∨ j = 1 ∨ j = 12 ∨ j = 16 → dI d16 9 j = dI d 9 j := fun j hj => (f16.1 j hj).trans (k9 j)
  refine pc_some ⟨qq.i e18 (by decide), ?_, ?_, ?_, ?_, fun j hj => ?_⟩
  · rw [rdq e18 (Or.inr (by decide)), c9 0 (by decide)]
    exact h0
  · rw [rdq e18 (Or.inr (by decide)), c9 1 (by decide)]
    exact h1
  · rw [e18, sI_rd, if_pos ⟨rfl, rfl⟩, c9 12 (by decide), z_add h12 e1 (by omega) (by omega)]
    omega
  · rw [rdq e18 (Or.inr (by decide)), c9 16 (by decide)]
    exact h16
  · have v12 : dI d18 12 j = if j = c then a else dI d 12 j := by
      rw [rdq e18 (Or.inl (by decide)), (f16.2 j).1, rdq e10 (Or.inl (by decide)), e6, sI_rd]
      by_cases z : j = c
      · rw [if_pos ⟨rfl, z⟩, if_pos z]
      · rw [if_neg (fun y => z y.2), if_neg z]
    have v13 : dI d18 13 j = if j = c then b else dI d 13 j := by
      rw [rdq e18 (Or.inl (by decide)), (f16.2 j).2, e10, sI_rd]
      by_cases z : j = c
      · rw [if_pos ⟨rfl, z⟩, if_pos z]
      · rw [if_neg (fun y => z y.2), if_neg z, rdq e6 (Or.inl (by decide))]
    rw [v12, v13]
    unfold ckU
    by_cases z : j = c
    · subst z
      rw [if_pos rfl, if_pos rfl, if_pos rfl, if_neg (by omega), if_pos rfl]
      exact ⟨rfl, rfl⟩
    · rw [if_neg z, if_neg z, if_neg (by omega), if_neg (by omega), if_neg (by omega), if_neg (by omega)]
      exact hk j (by omega)
theorem takeChord_e {g : Gs} (hS : Shp g) (hc : c < 4) (hC : CT t n d) (hx : XC d (T, 0)) (hw : NT d w) (hD : DR (VS t n) d c m ck) : pc (fX7_takeChord 10000 g 2 d) (fun u d' => CQ d (fun d' => DR (VS t n) d' (c + 1) m (ckU ck c (VS t n T) (VS t n (T + 1)))) d' u (dS (KS t n) (mS (KS t n) 2 (mS (KS t n) 2 (T, 0)))) (cDt (KS t n) (VS t n) (T + 2) (cNt (VS t n) c ck (VS t n T) (T + 1) (cNt (VS t n) c ck (-1) T w)))) := by
  unfold fX7_takeChord
  refine pc_gd (fun _ => pc_seqQ (K := KS t n) TF.rf (takeChordKey_e hS (by omega) hC hx hw hD) (fun q => by rw [mS_n q, dS_n q]) (fun d2 m1 m2 a b w2 n2 => ?_))
  rw [m1, n2]
  refine pc_bd (fun u6 e6 => ?_)
  subst e6
  refine pc_seqQ (K := KS t n) b.tf (takeChordKey_e hS (by omega) (hC.tf b.tf) a w2 (hD.f b.drf)) (fun q => dS_n q) (fun d7 m1' m2' a' b' w7 n7 => ?_)
  rw [m1', n7]
  refine pc_bd (fun u11 e11 => pc_ob (fun r e => ?_))
  subst e11
  have := gq hS (e := 3) (by decide +kernel) e
  subst this
  have t7 := b.tf.tr b'.tf
  have hD7 := (hD.f b.drf).f b'.drf
  obtain ⟨w0, hw0⟩ : ∃ w0, cNt (VS t n) c ck (VS t n T) (T + 1) (cNt (VS t n) c ck (-1) T w) = w0 := ⟨_, rfl⟩
  rw [hw0] at w7 ⊢
  have j72 : ∀ {dd : Ds}, SF d7 dd → XC dd (T + 1 + 1, 0) → NT dd (if KS t n (T + 2) = 31 ∨ KS t n (T + 2) = 32 ∨ KS t n (T + 2) = 39 then w0 else nT 5 (T + 2) w0) → pc (fX7_takeChord_J72 10000 g 2 (VS t n T) (VS t n (T + 1)) dd) (fun u d' => CQ d (fun d' => DR (VS t n) d' (c + 1) m (ckU ck c (VS t n T) (VS t n (T + 1)))) d' u (dS (KS t n) (T + 1 + 1, 0)) (cDt (KS t n) (VS t n) (T + 2) w0)) := by
    intro dd sf xx ww
    unfold fX7_takeChord_J72
    refine pc_gd (fun _ => pc_cb (takeDeed_e hS ((hC.tf t7).tf sf.tf) SF.rf xx ww) (fun u22 d20 r => ?_))
    obtain ⟨x20, s20, hu⟩ := r
    have t20 := (t7.tr sf.tf).tr s20.tf
    rcases hu with ⟨hu, y0, w20⟩ | ⟨hu, y0⟩ <;> rw [hu]
    · refine pc_if (fun q => absurd q (by decide)) (fun _ => ?_)
      refine pc_ob (fun r e => ?_)
      have := gq hS (e := 9) (by decide +kernel) e
      subst this
      refine pc_ob (fun r26 _ => pc_gd (fun _ => pc_cv (addChord_e hS hc ((hD7.f sf.drf).f s20.drf)) (fun d28 r => ?_)))
      exact pc_some ⟨x20.q r.1, t20.tr r.1.2, Or.inl ⟨rfl, y0, w20.q r.1, r.2⟩⟩
    · exact pc_if (fun _ => pc_some ⟨x20, t20, Or.inr ⟨rfl, y0⟩⟩) (fun q => absurd rfl q)
  refine pc_gd (fun _ => pc_cb (wordAt_e hS (hC.tf t7) a'.1 a'.2.2.1) (fun u d14 r => ?_))
  obtain ⟨e, hu⟩ := r
  subst e
  dsimp only at hu
  rw [hu]
  have good : (KS t n (T + 2) = 31 ∨ KS t n (T + 2) = 32 ∨ KS t n (T + 2) = 39) → pc (fX7_takeChord_J72 10000 g 2 (VS t n T) (VS t n (T + 1)) d14) (fun u d' => CQ d (fun d' => DR (VS t n) d' (c + 1) m (ckU ck c (VS t n T) (VS t n (T + 1)))) d' u (dS (KS t n) (T + 1 + 1, 0)) (cDt (KS t n) (VS t n) (T + 2) w0)) := fun q => j72 SF.rf a' (by rw [if_pos q]; exact w7)
  refine pc_gd (fun _ => pc_gd (fun _ => pc_if (fun q => good (Or.inl ((wd_i (by decide) (by decide)).mp q))) (fun q1 => pc_gd (fun _ => pc_if (fun q => good (Or.inr (Or.inl ((wd_i (by decide) (by decide)).mp q)))) (fun q2 => pc_gd (fun _ => pc_if (fun q => good (Or.inr (Or.inr ((wd_i (by decide) (by decide)).mp q)))) (fun q3 => ?_)))))))
  refine pc_cv (noteLater_e a'.1 a'.2.2.1 SF.rf a' w7) (fun d9 r => ?_)
  obtain ⟨a1, a2, a3, _⟩ := r
  refine j72 a2 a1 ?_
  rw [if_neg (fun z => z.elim (fun z => q1 ((wd_i (by decide) (by decide)).mpr z)) (fun z => z.elim (fun z => q2 ((wd_i (by decide) (by decide)).mpr z)) (fun z => q3 ((wd_i (by decide) (by decide)).mpr z))))]
  exact a3
end CHORD
/-! codes, lines -/
section LINES
variable {t : Nat → Int32} {n : Nat} {d0 d : Ds} {T c m : Nat} {w : Int32 × Nat} {ck : Nat → Int32}
theorem addCode_e {g : Gs} (hS : Shp g) {N : Nat} {a : Int32} : pc (fX0_addMacroCode N g 9 a d) (fun _ d' => QF d d' ∧ DRF d d') := by
  unfold fX0_addMacroCode fX0_addMacroCode_J49
  refine pc_gd (fun _ => pc_bd (fun u2 e2 => pc_if (fun _ => pc_some ⟨QF.rf, DRF.rf⟩) (fun _ => pc_ob (fun r e => ?_))))
  have := gq hS (e := 15) (by decide +kernel) e
  subst this
  refine pc_gd (fun _ => pc_gd (fun _ => pc_if (fun _ => pc_some ⟨QF.rf, DRF.rf⟩) (fun _ => pc_ob (fun r e => ?_))))
  have := gq hS (e := 16) (by decide +kernel) e
  subst this
  exact pc_gd (fun _ => pc_gd (fun _ => pc_bd (fun d11 e11 => pc_bd (fun d12 e12 => pc_some ⟨(QF.rf.i e11 (by decide)).i e12 (by decide), (DRF.rf.i e11 (by omega)).i e12 (by omega)⟩))))
theorem addMacro_e {g : Gs} (hS : Shp g) {N : Nat} {a : Int32} {V : Nat → Int32} (hm : m < 4) (hD : DR V d c m ck) : pc (fX0_addMacro N g 9 a d) (fun _ d' => QF d d' ∧ DR V d' c (m + 1) ck) := by
  have e4 : (4 : Int32).toInt = 4 := by decide
  have e1 : (1 : Int32).toInt = 1 := by decide
  obtain ⟨h0, h1, h12, h16, hk⟩ := hD
  unfold fX0_addMacro fX0_addMacro_J33
  refine pc_gd (fun _ => pc_if (fun q => ?_) (fun q => pc_ob (fun r3 e => ?_)))
  · have := Int32.le_iff_toInt_le.mp q
    omega
  have := gq hS (e := 15) (by decide +kernel) e
  subst this
  refine pc_gd (fun _ => pc_gd (fun _ => pc_bd (fun d6 e6 => pc_bd (fun d7 e7 => pc_cv (addCode_e hS) (fun d8 r => pc_some ?_)))))
  obtain ⟨q8, f8⟩ := r
  have q7 := (QF.rf.i e6 (by decide)).i e7 (by decide)
  refine ⟨⟨fun j => (q8.1 j).trans (q7.1 j), q7.2.tr q8.2⟩, ?_⟩
  have hD7 : DR V d7 c (m + 1) ck := by
    refine ⟨?_, ?_, ?_, ?_, fun j hj => ?_⟩
    · rw [rdq e7 (Or.inr (by decide)), rdq e6 (Or.inl (by decide))]
      exact h0
    · rw [rdq e7 (Or.inr (by decide)), rdq e6 (Or.inl (by decide))]
      exact h1
    · rw [rdq e7 (Or.inr (by decide)), rdq e6 (Or.inl (by decide))]
      exact h12
    · rw [e7, sI_rd, if_pos ⟨rfl, rfl⟩, rdq e6 (Or.inl (by decide)), z_add h16 e1 (by omega) (by omega)]
      omega
    · rw [rdq e7 (Or.inl (by decide)), rdq e6 (Or.inl (by decide)), rdq e7 (Or.inl (by decide)), rdq e6 (Or.inl (by decide))]
      exact hk j hj
  exact hD7.f f8
theorem takeMacro_e {g : Gs} (hS : Shp g) (hm : m < 4) (hC : CT t n d) (hx : XC d (T, 0)) (hw : NT d w) (hD : DR (VS t n) d c m ck) : pc (fX7_takeMacro 10000 g 2 d) (fun u d' => CQ d (fun d' => DR (VS t n) d' c (m + 1) ck) d' u (iS (KS t n) 7 (mS (KS t n) 2 (T, 0))) (mNt (KS t n) (VS t n) 7 (T + 1) (nW (VS t n) 30 T w))) := by
  have e1 : (1 : Int32).toInt = 1 := by decide
  have e8 : (8 : Int32).toInt = 8 := by decide
  unfold fX7_takeMacro
  refine pc_gd (fun _ => pc_gd (fun _ => pc_seqQ (K := KS t n) TF.rf (takeNumber_e hS hC SF.rf hx hw) (fun q => iS_n q) (fun d3 m1 m2 a b c3 n3 => ?_)))
  have w3 : NT d3 (nW (VS t n) 30 T w) := c3
  rw [m1]
  refine pc_ob (fun r e => ?_)
  have := gq hS (e := 9) (by decide +kernel) e
  subst this
  refine pc_gd (fun _ => pc_cv (addMacro_e hS hm (hD.f b.drf)) (fun d9 r => ?_))
  obtain ⟨q9, D9⟩ := r
  obtain ⟨Y, hY⟩ : ∃ Y, iS (KS t n) 7 (T + 1, 0) = Y := ⟨_, rfl⟩
  obtain ⟨W, hW⟩ : ∃ W, mNt (KS t n) (VS t n) 7 (T + 1) (nW (VS t n) 30 T w) = W := ⟨_, rfl⟩
  rw [hY, hW]
  unfold fX7_takeMacro_L34
  refine pc_lp (fun a => ∃ k T' w', k ≤ 7 ∧ a.1.toInt = 8 - ((k : Nat) : Int) ∧ XC a.2 (T', 0) ∧ NT a.2 w' ∧ TF d a.2 ∧ DR (VS t n) a.2 c (m + 1) ck ∧ iS (KS t n) k (T', 0) = Y ∧ mNt (KS t n) (VS t n) k T' w' = W) ?_ 10000 (1, d9) ⟨7, T + 1, _, by decide, (by decide : (1 : Int32).toInt = 8 - ((7 : Nat) : Int)), a.q q9, w3.q q9, b.tf.tr q9.2, D9, hY, hW⟩
  rintro K' ⟨y1, dd⟩ ⟨k, T', w', hk, hy, hX, hN, hT, hDD, hi, hm'⟩ hK
  dsimp only at hy hX hN hT hDD hK ⊢
  unfold fX7_takeMacro_B34
  refine pc_if (fun q => ?_) (fun _ => pc_gd (fun _ => pc_ob (fun r e => ?_)))
  · have := Int32.lt_iff_toInt_lt.mp q
    omega
  have := gq hS (e := 3) (by decide +kernel) e
  subst this
  refine pc_gd (fun _ => pc_cb (kindAt_e hS (hC.tf hT) hX.1 hX.2.2.1) (fun u d15 r => ?_))
  obtain ⟨e, hu⟩ := r
  subst e
  have hk2 := hu.1
  dsimp only at hk2
  refine pc_if (fun q => ?_) (fun q => ?_)
  · have k2 := hk2.mp q
    refine pc_if (fun q8 => ?_) (fun q8 => ?_)
    · have k0 : k = 0 := by rw [q8, e8] at hy; omega
      subst k0
      have eY : Y = (T', 2) := by
        rw [← hi]
        exact if_pos ⟨rfl, k2⟩
      rw [eY]
      refine pc_cb (failC_e (w := w') (by decide) SF.rf hX) (fun u32 d30 r => pc_gd (fun _ => pc_some ?_))
      obtain ⟨x1, x2, x3⟩ := r
      exact ⟨x1, hT.tr x2.tf, x3.elim (fun z => absurd z.2.1 (show ¬ (2 : Int32) = 0 by decide)) (fun z => Or.inr z)⟩
    · have k0 : ¬ k = 0 := fun z => q8 (Int32.toInt_inj.mp (by rw [hy, e8, z]; rfl))
      obtain ⟨k', hk'⟩ : ∃ k', k = k' + 1 := ⟨k - 1, by omega⟩
      subst hk'
      have eP : mS (KS t n) 2 (T', 0) = pS (T', 0) := by
        unfold mS
        rw [if_pos rfl, if_pos k2]
      have eY : iS (KS t n) k' (mS (KS t n) 2 (T', 0)) = Y := by
        rw [← hi, eP]
        exact (if_pos ⟨rfl, k2⟩).symm
      have eW : mNt (KS t n) (VS t n) k' (T' + 1) (nW (VS t n) 30 T' w') = W := by
        rw [← hm']
        exact (if_pos k2).symm
      refine pc_gd (fun _ => pc_seqQ (K := KS t n) hT (takeNumber_e hS (hC.tf hT) SF.rf hX hN) (fun z => by rw [← eY]; exact iS_n z) (fun d21 m1 m2 a' b' c' n' => ?_))
      rw [m1] at eY
      refine pc_ob (fun r e => ?_)
      have := gq hS (e := 9) (by decide +kernel) e
      subst this
      refine pc_gd (fun _ => pc_cv (addCode_e hS) (fun d27 r => pc_bd (fun u29 e29 => hK _ ⟨k', T' + 1, _, by omega, ?_, a'.q r.1, NT.q c' r.1, (hT.tr b'.tf).tr r.1.2, (hDD.f b'.drf).f r.2, eY, eW⟩)))
      dsimp only
      rw [e29, z_add hy e1 (by omega) (by omega)]
      omega
  · unfold fX7_takeMacro_J105
    have nk : ¬ KS t n T' = 2 := fun z => q (hk2.mpr z)
    have eY : Y = (T', 0) := by
      rw [← hi]
      cases k with
      | zero => exact if_neg (fun z => nk z.2)
      | succ k => exact if_neg (fun z => nk z.2)
    have eW : W = w' := by
      rw [← hm']
      cases k with
      | zero => rfl
      | succ k => exact if_neg nk
    rw [eY, eW]
    exact pc_some ⟨hX, hT, Or.inl ⟨rfl, rfl, hN, hDD⟩⟩
theorem lS_n {K : Nat → Int32} {c : Int32} {x : Nat × Int32} (h : ¬ x.2 = 0) : lS K c x = x := by
  have e7 : iS K 7 x = x := iS_n h
  unfold lS
  rw [mS_n h, mS_n h, dS_n h, e7]
  simp only [ite_self]
theorem line170 {g : Gs} (hS : Shp g) {N : Nat} {y2 : Int32} {y : Nat × Int32} (hC : CT t n d0) (h : CQ d0 (fun d' => DR (VS t n) d' c m ck) d y2 y w) : pc (fX7_takeLine_J170 N g 2 y2 d) (fun u d' => CQ d0 (fun d' => DR (VS t n) d' c m ck) d' u (mS (KS t n) 4 y) w) := by
  obtain ⟨hx, hT, hu⟩ := h
  have j186 : ∀ {dd : Ds} {z : Nat × Int32}, CQ d0 (fun d' => DR (VS t n) d' c m ck) dd 0 z w → pc (fX7_takeLine_J186 N g 2 dd) (fun u d' => CQ d0 (fun d' => DR (VS t n) d' c m ck) d' u z w) := by
    intro dd z hq
    unfold fX7_takeLine_J186 fX7_takeLine_J187
    exact pc_gd (fun _ => pc_some hq)
  unfold fX7_takeLine_J170
  rcases hu with ⟨hu, y0, hw, hD⟩ | ⟨hu, y0⟩ <;> rw [hu]
  · refine pc_if (fun q => absurd q (by decide)) (fun _ => pc_gd (fun _ => ?_))
    obtain ⟨T', f⟩ := y
    dsimp only at y0
    subst y0
    refine pc_cb (takeToken_e (d0 := d) hS (hC.tf hT) SF.rf hx hw hk_4) (fun u46 d44 r => ?_)
    have r2 := r.cq (G := fun d' => DR (VS t n) d' c m ck) hT (fun sf => hD.f sf.drf)
    rcases r.2.2 with ⟨hu, _⟩ | ⟨hu, _⟩
    · rw [hu] at r2 ⊢
      refine pc_if (fun q => absurd q (by decide)) (fun _ => ?_)
      unfold fX7_takeLine_J187
      exact pc_gd (fun _ => pc_some r2)
    · rw [hu] at r2 ⊢
      exact pc_if (fun _ => j186 r2) (fun q => absurd rfl q)
  · rw [mS_n y0]
    exact pc_if (fun _ => j186 ⟨hx, hT, Or.inr ⟨rfl, y0⟩⟩) (fun q => absurd rfl q)
end LINES
section LN
variable {t : Nat → Int32} {n : Nat} {d0 d : Ds} {T c m : Nat} {w : Int32 × Nat} {ck : Nat → Int32}
/-- what a line does to the chords -/
def ckN (K V : Nat → Int32) (T c : Nat) (ck : Nat → Int32) : Nat → Int32 := if K T = 29 then ckU ck c (V (T + 1)) (V (T + 2)) else ck
theorem wfv3 {k : Int32} (h : 20 ≤ k.toInt) (h2 : k.toInt ≤ 39) : wfv 3 (kk k) = 0 ↔ (k.toInt ≤ 20 ∨ 30 < k.toInt) := by
  have : ∀ m, m < 20 → (wfv 3 m = 0 ↔ (m = 0 ∨ 10 < m)) := by decide
  rw [this (kk k) (by unfold kk; omega)]
  unfold kk
  omega
theorem takeLine_e {g : Gs} (hS : Shp g) (hc : c ≤ 4) (hm : m ≤ 4) (hC : CT t n d) (hx : XC d (T, 0)) (hw : NT d w) (hD : DR (VS t n) d c m ck) : pc (fX7_takeLine 10000 g 2 d) (fun u d' => CQ d (fun d' => DR (VS t n) d' (c + if KS t n T = 29 then 1 else 0) (m + if KS t n T = 30 then 1 else 0) (ckN (KS t n) (VS t n) T c ck)) d' u (tS (KS t n) c m T) (lNt (KS t n) (VS t n) c ck T w)) := by
  have e4 : (4 : Int32).toInt = 4 := by decide
  have e23 : (23 : Int32).toInt = 23 := by decide
  have e27 : (27 : Int32).toInt = 27 := by decide
  have e29 : (29 : Int32).toInt = 29 := by decide
  have e30 : (30 : Int32).toInt = 30 := by decide
  obtain ⟨b1, b2⟩ := KS_i (t := t) (n := n) T
  obtain ⟨G, hG⟩ : ∃ G : Ds → Prop, G = (fun d' => DR (VS t n) d' (c + if KS t n T = 29 then 1 else 0) (m + if KS t n T = 30 then 1 else 0) (ckN (KS t n) (VS t n) T c ck)) := ⟨_, rfl⟩
  rw [← hG]
  obtain ⟨W, hW⟩ : ∃ W, lNt (KS t n) (VS t n) c ck T w = W := ⟨_, rfl⟩
  rw [hW]
  have bad : ∀ {dd : Ds} {u : Int32} {k : Int32}, ¬ k = 0 → tS (KS t n) c m T = (T, k) → CP d dd u (T, k) w → CQ d G dd u (tS (KS t n) c m T) W := by
    intro dd u k hk e r
    rw [e]
    exact ⟨r.1, r.2.1.tf, r.2.2.elim (fun z => absurd z.2.1 hk) (fun z => Or.inr z)⟩
  have j23 : ((KS t n T).toInt ≤ 20 ∨ 30 < (KS t n T).toInt) → pc (fX7_takeLine_J23 10000 g 2 d) (fun u d' => CQ d G d' u (tS (KS t n) c m T) W) := by
    intro q
    unfold fX7_takeLine_J23
    have : tS (KS t n) c m T = (T, 1) := by unfold tS; rw [if_pos q]
    exact pc_gd (fun _ => pc_cb (failC_e (w := w) (by decide) SF.rf hx) (fun u11 d9 r => pc_gd (fun _ => pc_some (bad (by decide) this r))))
  have j65 : ¬ ((KS t n T).toInt ≤ 20 ∨ 30 < (KS t n T).toInt) → (KS t n T = 29 ∧ c = 4 ∨ KS t n T = 30 ∧ m = 4) → pc (fX7_takeLine_J65 10000 g 2 d) (fun u d' => CQ d G d' u (tS (KS t n) c m T) W) := by
    intro q q2
    unfold fX7_takeLine_J65
    have : tS (KS t n) c m T = (T, 2) := by unfold tS; rw [if_neg q, if_pos q2]
    exact pc_gd (fun _ => pc_cb (failC_e (w := w) (by decide) SF.rf hx) (fun u11 d9 r => pc_gd (fun _ => pc_some (bad (by decide) this r))))
  have j71 : ¬ ((KS t n T).toInt ≤ 20 ∨ 30 < (KS t n T).toInt) → ¬ (KS t n T = 29 ∧ c = 4 ∨ KS t n T = 30 ∧ m = 4) → pc (fX7_takeLine_J71 10000 g 2 (WD (KS t n T)) d) (fun u d' => CQ d G d' u (tS (KS t n) c m T) W) := by
    intro q q2
    have eT : tS (KS t n) c m T = mS (KS t n) 4 (lS (KS t n) (KS t n T) (pS (T, 0))) := by
      unfold tS
      rw [if_neg q, if_neg q2]
    rw [eT, ← mS_k (K := KS t n)]
    unfold fX7_takeLine_J71
    refine pc_gd (fun _ => pc_seqQ (K := KS t n) (k := KS t n T) TF.rf (pc_r (takeToken_e hS hC SF.rf hx hw (hk_w rfl (by omega)))) (fun z => by rw [lS_n z, mS_n z]) (fun d23 m1 _ a b w23 _ => ?_))
    rw [m1]
    have C23 := hC.tf b.tf
    have D23 := hD.f b.drf
    have up : ∀ {dd : Ds} {u : Int32} {y : Nat × Int32} {w' : Int32 × Nat} {G' : Ds → Prop}, CQ d23 G' dd u y w' → CQ d G' dd u y w' := fun r => ⟨r.1, b.tf.tr r.2.1, r.2.2⟩
    have l170 : ∀ {dd : Ds} {u : Int32} {y : Nat × Int32}, CQ d G dd u y W → y = lS (KS t n) (KS t n T) (T + 1, 0) → pc (fX7_takeLine_J170 10000 g 2 u dd) (fun u d' => CQ d G d' u (mS (KS t n) 4 (lS (KS t n) (KS t n T) (T + 1, 0))) W) := by
      intro dd u y r e
      subst e
      subst hG
      exact line170 hS hC r
    have flag : ∀ {j : Nat} {v : Int32}, (KS t n T).toInt < 23 → ¬ (j = 0 ∨ j = 1 ∨ j = 12 ∨ j = 16) → pc (ob (gR g 2 2) fun r60 => (gd (chk g r60 0) <| bd (sI d23 r60 j v) fun d62 => (fX7_takeLine_J170 10000 g 2 1 d62))) (fun u d' => CQ d G d' u (mS (KS t n) 4 (lS (KS t n) (KS t n T) (T + 1, 0))) W) := by
      intro j v h1 h2
      refine pc_ob (fun r e => ?_)
      have := gq hS (e := 9) (by decide +kernel) e
      subst this
      refine pc_gd (fun _ => pc_bd (fun d62 e62 => l170 (y := (T + 1, 0)) ?_ ?_))
      · have q62 := QF.rf.i e62 (by decide)
        have f62 := DRF.rf.i e62 (show ¬ (9 = 12 ∨ 9 = 13 ∨ 9 = 9 ∧ (j = 0 ∨ j = 1 ∨ j = 12 ∨ j = 16)) by omega)
        have eW : W = w := by
          rw [← hW]
          exact if_pos h1
        rw [eW]
        refine ⟨a.q q62, b.tf.tr q62.2, Or.inl ⟨rfl, rfl, w23.q q62, ?_⟩⟩
        subst hG
        have n29 : ¬ KS t n T = 29 := fun z => by rw [z, e29] at h1; omega
        have n30 : ¬ KS t n T = 30 := fun z => by rw [z, e30] at h1; omega
        unfold ckN
        rw [if_neg n29, if_neg n30, if_neg n29]
        exact D23.f f62
      · exact (if_pos h1).symm
    have sub : ∀ {X : Option (Int32 × Ds)} {y : Nat × Int32} {w' : Int32 × Nat} {c' m' : Nat} {ck' : Nat → Int32}, pc X (fun u d' => CQ d23 (fun d' => DR (VS t n) d' c' m' ck') d' u y w') → y = lS (KS t n) (KS t n T) (T + 1, 0) → w' = W → (fun d' => DR (VS t n) d' c' m' ck') = G → pc (cb X fun u d' => fX7_takeLine_J170 10000 g 2 u d') (fun u d' => CQ d G d' u (mS (KS t n) 4 (lS (KS t n) (KS t n T) (T + 1, 0))) W) := by
      intro X y w' c' m' ck' h e1 e2 e3
      subst e2
      rw [← e3] at l170 ⊢
      exact pc_cb h (fun u dd r => l170 (up r) e1)
    have nl : ∀ {k : Int32}, KS t n T = k → ¬ k.toInt < 23 → ¬ (KS t n T).toInt < 23 := fun e h => by rw [e]; exact h
    refine pc_gd (fun _ => pc_gd (fun _ => pc_if (fun z => flag (by rw [(wd_i (c := 21) (by decide) (by decide)).mp z]; decide) (by decide)) (fun z21 => pc_gd (fun _ => pc_if (fun z => flag (by rw [(wd_i (c := 22) (by decide) (by decide)).mp z]; decide) (by decide)) (fun z22 => pc_gd (fun _ => pc_if (fun z => ?_) (fun z28 => pc_gd (fun _ => pc_if (fun z => ?_) (fun z29 => pc_gd (fun _ => pc_if (fun z => ?_) (fun z30 => ?_)))))))))))
    · have k : KS t n T = 28 := (wd_i (by decide) (by decide)).mp z
      refine sub (takeKey_e hS C23 a w23 D23) ?_ ?_ ?_
      · unfold lS
        rw [if_neg (nl k (by decide)), if_pos (Or.inl k)]
      · rw [← hW]
        unfold lNt
        rw [if_neg (nl k (by decide)), if_pos k, k]
      · subst hG
        unfold ckN
        rw [k]
        rfl
    · have k : KS t n T = 29 := (wd_i (by decide) (by decide)).mp z
      have hc4 : c < 4 := by
        have : ¬ c = 4 := fun y => q2 (Or.inl ⟨k, y⟩)
        omega
      refine sub (takeChord_e hS hc4 C23 a w23 D23) ?_ ?_ ?_
      · unfold lS
        rw [if_neg (nl k (by decide)), if_pos (Or.inr k)]
      · rw [← hW]
        unfold lNt
        rw [if_neg (nl k (by decide)), if_neg (by rw [k]; decide), if_pos k]
      · subst hG
        unfold ckN
        rw [k]
        rfl
    · have k : KS t n T = 30 := (wd_i (by decide) (by decide)).mp z
      have hm4 : m < 4 := by
        have : ¬ m = 4 := fun y => q2 (Or.inr ⟨k, y⟩)
        omega
      refine sub (takeMacro_e hS hm4 C23 a w23 D23) ?_ ?_ ?_
      · unfold lS
        rw [if_neg (nl k (by decide)), k, if_neg (by decide), if_neg (by decide), if_pos rfl]
      · rw [← hW]
        unfold lNt
        rw [if_neg (nl k (by decide)), k, if_neg (by decide), if_neg (by decide), if_pos rfl]
      · subst hG
        unfold ckN
        rw [k]
        rfl
    · have n21 : ¬ KS t n T = 21 := fun z => z21 ((wd_i (by decide) (by decide)).mpr z)
      have n22 : ¬ KS t n T = 22 := fun z => z22 ((wd_i (by decide) (by decide)).mpr z)
      have n28 : ¬ KS t n T = 28 := fun z => z28 ((wd_i (by decide) (by decide)).mpr z)
      have n29 : ¬ KS t n T = 29 := fun z => z29 ((wd_i (by decide) (by decide)).mpr z)
      have n30 : ¬ KS t n T = 30 := fun z => z30 ((wd_i (by decide) (by decide)).mpr z)
      have ne : ∀ {k : Int32} {v : Int}, k.toInt = v → ¬ KS t n T = k → ¬ (KS t n T).toInt = v := fun e h z => h (Int32.toInt_inj.mp (z.trans e.symm))
      have i21 := ne (k := 21) (v := 21) (by decide) n21
      have i22 := ne (k := 22) (v := 22) (by decide) n22
      have i28 := ne (k := 28) (v := 28) (by decide) n28
      have i29 := ne (k := 29) (v := 29) (by decide) n29
      have i30 := ne (k := 30) (v := 30) (by decide) n30
      have n23 : ¬ (KS t n T).toInt < 23 := by omega
      refine sub (takeSetting_e hS (k := KS t n T) (by omega) (by omega) C23 a w23 D23) ?_ ?_ ?_
      · unfold lS
        simp only [if_neg n23, if_neg (show ¬ (KS t n T = 28 ∨ KS t n T = 29) from fun z => z.elim n28 n29), if_neg n30]
      · rw [← hW]
        unfold lNt
        rw [if_neg n23, if_neg n28, if_neg n29, if_neg n30]
      · subst hG
        unfold ckN
        rw [if_neg n29, if_neg n30, if_neg n29]
        rfl
  have j47 : ¬ ((KS t n T).toInt ≤ 20 ∨ 30 < (KS t n T).toInt) → ¬ (KS t n T = 29 ∧ c = 4) → pc (fX7_takeLine_J47 10000 g 2 (WD (KS t n T)) d) (fun u d' => CQ d G d' u (tS (KS t n) c m T) W) := by
    intro q q2
    unfold fX7_takeLine_J47
    refine pc_gd (fun _ => pc_gd (fun _ => pc_if (fun z => ?_) (fun z => ?_)))
    · have k : KS t n T = 30 := (wd_i (by decide) (by decide)).mp z
      refine pc_gd (fun _ => pc_ob (fun r e => ?_))
      have := gq hS (e := 9) (by decide +kernel) e
      subst this
      have h16 := hD.2.2.2.1
      refine pc_gd (fun _ => pc_if (fun y => j65 q (Or.inr ⟨k, by rw [y, e4] at h16; omega⟩)) (fun y => j71 q (fun x => x.elim q2 (fun x => y (Int32.toInt_inj.mp (by rw [h16, e4, x.2]; rfl))))))
    · exact j71 q (fun x => x.elim q2 (fun x => z ((wd_i (by decide) (by decide)).mpr x.1)))
  unfold fX7_takeLine
  refine pc_gd (fun _ => pc_ob (fun r e => ?_))
  have := gq hS (e := 3) (by decide +kernel) e
  subst this
  refine pc_gd (fun _ => pc_cb (wordAt_e hS hC hx.1 hx.2.2.1) (fun u d4 r => ?_))
  obtain ⟨e, hu⟩ := r
  subst e
  dsimp only at hu
  rw [hu]
  by_cases h20 : 20 ≤ (KS t n T).toInt
  · have eW := wd_some h20
    refine pc_if (fun q => absurd (eW.symm.trans q) (by simp)) (fun _ => ?_)
    refine pc_ob (fun r e => ?_)
    have er : r = 100000 + kk (KS t n T) := Option.some.inj (e.symm.trans eW)
    subst er
    rw [show 100000 + kk (KS t n T) - 100000 = kk (KS t n T) by omega]
    refine pc_gd (fun _ => pc_if (fun q => j23 ((wfv3 h20 b1).mp q)) (fun q => ?_))
    have nq : ¬ ((KS t n T).toInt ≤ 20 ∨ 30 < (KS t n T).toInt) := fun z => q ((wfv3 h20 b1).mpr z)
    refine pc_gd (fun _ => pc_gd (fun _ => pc_if (fun z => ?_) (fun z => j47 nq (fun x => z ((wd_i (by decide) (by decide)).mpr x.1)))))
    have k : KS t n T = 29 := (wd_i (by decide) (by decide)).mp z
    refine pc_ob (fun r e => ?_)
    have := gq hS (e := 9) (by decide +kernel) e
    subst this
    have h12 := hD.2.2.1
    refine pc_gd (fun _ => pc_if (fun y => j65 nq (Or.inl ⟨k, by rw [y, e4] at h12; omega⟩)) (fun y => j47 nq (fun x => y (Int32.toInt_inj.mp (by rw [h12, e4, x.2]; rfl)))))
  · rw [wd_none h20]
    exact pc_if (fun _ => j23 (Or.inl (by omega))) (fun q => absurd rfl q)
/-- the first line -/
theorem takeBoard_e {g : Gs} (hS : Shp g) {N : Nat} (hC : CT t n d) (hx : XC d (0, 0)) (hw : NT d w) (h12 : dI d 9 12 = 0) (h16 : dI d 9 16 = 0) : pc (fX7_takeBoard N g 2 d) (fun u d' => CQ d (fun d' => DR (VS t n) d' 0 0 ck) d' u (mS (KS t n) 4 (mS (KS t n) 2 (mS (KS t n) 2 (mS (KS t n) 20 (0, 0))))) (nNu (VS t n) 1 6 2 (nNu (VS t n) 1 4 1 w))) := by
  unfold fX7_takeBoard
  refine pc_gd (fun _ => pc_ob (fun r e => ?_))
  have := gq hS (e := 3) (by decide +kernel) e
  subst this
  refine pc_gd (fun _ => pc_cb (wordAt_e hS hC hx.1 hx.2.2.1) (fun u d4 r => ?_))
  obtain ⟨e, hu⟩ := r
  subst e
  dsimp only at hu
  rw [hu]
  refine pc_gd (fun _ => pc_gd (fun _ => pc_if (fun z => ?_) (fun z => ?_)))
  · have k : KS t n 0 = 20 := (wd_i (by decide) (by decide)).mp z
    unfold fX7_takeBoard_J40
    refine pc_seqQ (K := KS t n) (k := 20) TF.rf (pc_r (takeToken_e hS hC SF.rf hx hw (hk_w k (by decide)))) (fun q => by rw [mS_n q, mS_n q, mS_n q]) (fun d10 m1 _ a b w10 _ => ?_)
    rw [m1]
    refine pc_seqQ (K := KS t n) b.tf (takeNumber_e hS (hC.tf b.tf) SF.rf a w10) (fun q => by rw [mS_n q, mS_n q]) (fun d14 m1' _ a' b' w14 n14 => ?_)
    rw [m1']
    refine pc_ob (fun r e => ?_)
    have := gq hS (e := 9) (by decide +kernel) e
    subst this
    refine pc_gd (fun _ => pc_bd (fun d20 e20 => ?_))
    have q20 := QF.rf.i e20 (by decide)
    refine pc_seqQ (K := KS t n) ((b.tf.tr b'.tf).tr q20.2) (takeNumber_e hS (((hC.tf b.tf).tf b'.tf).tf q20.2) SF.rf (a'.q q20) (NT.q w14 q20)) (fun q => by rw [mS_n q]) (fun d21 m1'' _ a'' b'' w21 n21 => ?_)
    rw [m1'']
    refine pc_bd (fun d25 e25 => ?_)
    have q25 := QF.rf.i e25 (by decide)
    have tt := (((b.tf.tr b'.tf).tr q20.2).tr b''.tf).tr q25.2
    have f9 : ∀ j, ¬ j = 0 → ¬ j = 1 → dI d25 9 j = dI d4 9 j := fun j h0 h1 => by
      rw [rdq e25 (Or.inr h1), b''.1 9 j (by omega), rdq e20 (Or.inr h0), b'.1 9 j (by omega), b.1 9 j (by omega)]
    have D25 : DR (VS t n) d25 0 0 ck := by
      refine ⟨?_, ?_, ?_, ?_, fun j hj => absurd hj (Nat.not_lt_zero _)⟩
      · rw [rdq e25 (Or.inr (by decide)), b''.1 9 0 (by omega), e20, sI_rd, if_pos ⟨rfl, rfl⟩]
        exact n14
      · rw [e25, sI_rd, if_pos ⟨rfl, rfl⟩]
        exact n21
      · rw [f9 12 (by decide) (by decide), h12]
        rfl
      · rw [f9 16 (by decide) (by decide), h16]
        rfl
    refine pc_cb (takeToken_e (d0 := d25) hS (hC.tf tt) SF.rf (a''.q q25) (NT.q w21 q25) hk_4) (fun u28 d26 r => pc_gd (fun _ => pc_some ?_))
    exact r.cq tt (fun sf => D25.f sf.drf)
  · have nk : ¬ KS t n 0 = 20 := fun y => z ((wd_i (by decide) (by decide)).mpr y)
    have e1 : mS (KS t n) 20 (0, 0) = (0, 1) := by
      unfold mS
      rw [if_pos rfl, if_neg nk]
    have e2 : mS (KS t n) 4 (mS (KS t n) 2 (mS (KS t n) 2 (mS (KS t n) 20 (0, 0)))) = (0, 1) := by
      rw [e1, mS_n (show ¬ (1 : Int32) = 0 by decide), mS_n (show ¬ (1 : Int32) = 0 by decide), mS_n (show ¬ (1 : Int32) = 0 by decide)]
    rw [e2]
    refine pc_cb (failC_e (w := w) (by decide) SF.rf hx) (fun u32 d30 r => pc_gd (fun _ => pc_some ?_))
    exact ⟨r.1, r.2.1.tf, r.2.2.elim (fun z => absurd z.2.1 (show ¬ (1 : Int32) = 0 by decide)) (fun z => Or.inr z)⟩
end LN
/-! a text read by the class -/
section GE
variable {K : Nat → Int32} {x : Nat × Int32}
theorem pS_ge : x.1 ≤ (pS x).1 := by
  unfold pS
  split
  · split
    · exact Nat.le_refl _
    · exact Nat.le_succ _
  · exact Nat.le_refl _
theorem mS_ge {k : Int32} : x.1 ≤ (mS K k x).1 := by
  unfold mS
  split
  · split
    · exact pS_ge
    · exact Nat.le_refl _
  · exact Nat.le_refl _
theorem lmS_ge : x.1 ≤ (lmS K x).1 := by
  unfold lmS
  split
  · split
    · exact pS_ge
    · exact Nat.le_refl _
  · exact Nat.le_refl _
theorem dS_ge : x.1 ≤ (dS K x).1 := by
  unfold dS
  split
  · split
    · exact Nat.le_refl _
    · split
      · exact pS_ge
      · split
        · exact Nat.le_trans (Nat.le_trans (Nat.le_trans pS_ge mS_ge) lmS_ge) mS_ge
        · split
          · exact Nat.le_trans (Nat.le_trans pS_ge mS_ge) mS_ge
          · exact Nat.le_trans pS_ge mS_ge
  · exact Nat.le_refl _
theorem iS_ge : ∀ k {x : Nat × Int32}, x.1 ≤ (iS K k x).1 := by
  intro k
  induction k with
  | zero =>
    intro x
    unfold iS
    split <;> exact Nat.le_refl _
  | succ k ih =>
    intro x
    unfold iS
    split
    · exact Nat.le_trans pS_ge ih
    · exact Nat.le_refl _
theorem lS_ge {c : Int32} : x.1 ≤ (lS K c x).1 := by
  unfold lS
  split
  · exact Nat.le_refl _
  · split
    · exact Nat.le_trans (Nat.le_trans mS_ge mS_ge) dS_ge
    · split
      · exact Nat.le_trans mS_ge mS_ge
      · split
        · exact Nat.le_trans mS_ge (iS_ge 7)
        · exact mS_ge
theorem tS_gt {a b T : Nat} (h : (tS K a b T).2 = 0) : T < (tS K a b T).1 ∧ ¬ ((K T).toInt ≤ 20 ∨ 30 < (K T).toInt) ∧ ¬ (K T = 29 ∧ a = 4 ∨ K T = 30 ∧ b = 4) ∧ pS (T, 0) = (T + 1, 0) ∧ tS K a b T = mS K 4 (lS K (K T) (T + 1, 0)) := by
  unfold tS at h ⊢
  by_cases q : (K T).toInt ≤ 20 ∨ 30 < (K T).toInt
  · rw [if_pos q] at h
    exact absurd h (show ¬ (1 : Int32) = 0 by decide)
  · rw [if_neg q] at h ⊢
    by_cases q2 : K T = 29 ∧ a = 4 ∨ K T = 30 ∧ b = 4
    · rw [if_pos q2] at h
      exact absurd h (show ¬ (2 : Int32) = 0 by decide)
    · rw [if_neg q2] at h ⊢
      have hp : (pS (T, 0)).2 = 0 := by
        by_cases z : (pS (T, 0)).2 = 0
        · exact z
        · rw [lS_n z, mS_n z] at h
          exact h
      have e : pS (T, 0) = (T + 1, 0) := by
        unfold pS at hp ⊢
        rw [if_pos rfl] at hp ⊢
        by_cases z : T = 400
        · rw [if_pos z] at hp
          exact absurd hp (show ¬ (2 : Int32) = 0 by decide)
        · rw [if_neg z]
      rw [e]
      exact ⟨Nat.lt_of_lt_of_le (Nat.lt_succ_self T) (Nat.le_trans (lS_ge (x := (T + 1, 0))) mS_ge), q, q2, rfl, rfl⟩
end GE
/-- what is noted, which chords are told behind i lines -/
def sm (K V : Nat → Int32) : Nat → (Int32 × Nat) × (Nat → Int32)
  | 0 => (nNu V 1 6 2 (nNu V 1 4 1 (0, 0)), fun _ => 0)
  | i + 1 => if (sx K i).1.2 = 0 ∧ ¬ K (sx K i).1.1 = 0 then (lNt K V (sx K i).2.1 (sm K V i).2 (sx K i).1.1 (sm K V i).1, ckN K V (sx K i).1.1 (sx K i).2.1 (sm K V i).2) else sm K V i
/-- the verdict and its token -/
def vd (K V : Nat → Int32) (i : Nat) : Int32 × Nat := if (sx K i).1.2 = 0 then (sm K V i).1 else ((sx K i).1.2, (sx K i).1.1)
theorem sm_st {K V : Nat → Int32} {i : Nat} (h : stp2 K (sx K i)) : ∀ m, sm K V (i + m) = sm K V i := by
  intro m
  induction m with
  | zero => rfl
  | succ m ih =>
    show (if (sx K (i + m)).1.2 = 0 ∧ ¬ K (sx K (i + m)).1.1 = 0 then _ else sm K V (i + m)) = sm K V i
    rw [sx_st h m, if_neg h]
    exact ih
theorem vd_un {K V : Nat → Int32} {i j : Nat} (h : stp2 K (sx K i)) (k : stp2 K (sx K j)) : vd K V i = vd K V j := by
  unfold vd
  rcases Nat.le_total i j with q | q
  · have a := sm_st (V := V) h (j - i)
    rw [show i + (j - i) = j by omega] at a
    rw [sx_un h k, a]
  · have a := sm_st (V := V) k (i - j)
    rw [show j + (i - j) = i by omega] at a
    rw [sx_un h k, a]
section RT
variable {d : Ds}
theorem tell_q {g : Gs} (hS : Shp g) {N : Nat} {r : Nat} {a b c : Int32} (h : chk g r 2) : pc (fX2_tell N g r a b c d) (fun _ d' => QF d d' ∧ DRF d d') := by
  have nx : ∀ {e : Nat}, e < 347 → tkd e ≠ 2 → r ≠ e := fun he hk => chk_ne hS h he hk
  have n2 : r ≠ 2 := nx (by decide) (by decide +kernel)
  have n3 : r ≠ 3 := nx (by decide) (by decide +kernel)
  have n4 : r ≠ 4 := nx (by decide) (by decide +kernel)
  have n5 : r ≠ 5 := nx (by decide) (by decide +kernel)
  have n6 : r ≠ 6 := nx (by decide) (by decide +kernel)
  have n9 : r ≠ 9 := nx (by decide) (by decide +kernel)
  have n12 : r ≠ 12 := nx (by decide) (by decide +kernel)
  have n13 : r ≠ 13 := nx (by decide) (by decide +kernel)
  unfold fX2_tell
  exact pc_gd (fun _ => pc_bd (fun d2 e2 => pc_bd (fun d3 e3 => pc_bd (fun d4 e4 => pc_some ⟨((QF.rf.i e2 (by omega)).i e3 (by omega)).i e4 (by omega), ((DRF.rf.i e2 (by omega)).i e3 (by omega)).i e4 (by omega)⟩))))
theorem QF.tr {d dd d' : Ds} (h : QF d dd) (h2 : QF dd d') : QF d d' := ⟨fun j => (h2.1 j).trans (h.1 j), h.2.tr h2.2⟩
theorem clear_e {g : Gs} (hS : Shp g) : pc (fX0_clear 10000 g 9 d) (fun _ d' => QF d d' ∧ dI d' 9 12 = 0 ∧ dI d' 9 16 = 0) := by
  unfold fX0_clear
  refine pc_gd (fun _ => pc_bd (fun d2 e2 => pc_bd (fun d3 e3 => pc_bd (fun d4 e4 => pc_bd (fun d5 e5 => pc_bd (fun d6 e6 => pc_bd (fun d7 e7 => pc_bd (fun d8 e8 => pc_bd (fun d9 e9 => pc_bd (fun d10 e10 => pc_bd (fun d11 e11 => ?_)))))))))))
  have q11 : QF d d11 := (((((((((QF.rf.i e2 (by decide)).i e3 (by decide)).i e4 (by decide)).i e5 (by decide)).i e6 (by decide)).i e7 (by decide)).i e8 (by decide)).i e9 (by decide)).i e10 (by decide)).i e11 (by decide)
  unfold fX0_clear_L55
  refine pc_lp (fun a => QF d a.2) ?_ 10000 (0, d11) q11
  rintro K ⟨y1, dd⟩ hq hK
  dsimp only at hq hK ⊢
  unfold fX0_clear_B55
  refine pc_gd (fun _ => pc_ob (fun r13 _ => pc_gd (fun _ => pc_if (fun _ => pc_bd (fun d16 e16 => pc_bd (fun d17 e17 => pc_some ⟨(hq.i e16 (by decide)).i e17 (by decide), ?_, ?_⟩))) (fun _ => pc_gd (fun _ => pc_ob (fun r19 _ => ?_))))))
  · rw [rdq e17 (Or.inr (by decide)), e16, sI_rd, if_pos ⟨rfl, rfl⟩]
  · rw [e17, sI_rd, if_pos ⟨rfl, rfl⟩]
  · have j81 : ∀ {v : Int32}, pc (fX0_clear_J81 10000 g 9 K y1 v r19 dd) (fun _ d' => QF d d' ∧ dI d' 9 12 = 0 ∧ dI d' 9 16 = 0) := by
      intro v
      unfold fX0_clear_J81
      exact pc_gd (fun hc => pc_cv (tell_q hS hc) (fun d22 r => pc_bd (fun u24 _ => hK _ (hq.tr r.1))))
    exact pc_if (fun _ => j81) (fun _ => j81)
theorem readTape_e {g : Gs} (hS : Shp g) {x2 : Int32} {n : Nat} {t : Nat → Int32} (ht : t = fun j => dI d 1 j) (hx : x2.toInt = (n : Int)) (h2 : n ≤ 2000) : pc (fX7_readTape 10000 g 2 1 x2 d) (fun u d' => ∃ i, stp2 (KS t n) (sx (KS t n) i) ∧ u = (vd (KS t n) (VS t n) i).1 ∧ dI d' 2 5 = u ∧ (u = 0 → dI d' 2 7 = -1) ∧ (¬ u = 0 → (dI d' 2 7).toInt = ((ps t n (vd (KS t n) (VS t n) i).2 : Nat) : Int))) := by
  have e0 : (0 : Int32).toInt = 0 := by decide
  have e1 : (1 : Int32).toInt = 1 := by decide
  have e400 : (400 : Int32).toInt = 400 := by decide
  unfold fX7_readTape
  refine pc_gd (fun _ => pc_ob (fun r e => ?_))
  have := gq hS (e := 3) (by decide +kernel) e
  subst this
  refine pc_gd (fun _ => pc_cv (cut_e hS hx h2) (fun d4 hC => pc_ob (fun r e => ?_)))
  have := gq hS (e := 9) (by decide +kernel) e
  subst this
  rw [← ht] at hC
  refine pc_gd (fun _ => pc_cv (clear_e hS) (fun d8 r => ?_))
  obtain ⟨q8, h12, h16⟩ := r
  refine pc_bd (fun d10 e10 => pc_bd (fun d11 e11 => pc_bd (fun d12 e12 => ?_)))
  have s12 : SF d8 d12 := ((SF.rf.i e10 (by omega)).i e11 (by omega)).i e12 (by omega)
  have C12 : CT t n d12 := (hC.tf q8.2).tf s12.tf
  have x12 : XC d12 (0, 0) := by
    refine ⟨?_, ?_, Nat.zero_le _, fun z => absurd rfl z⟩
    · rw [rdq e12 (Or.inr (by decide)), rdq e11 (Or.inr (by decide)), e10, sI_rd, if_pos ⟨rfl, rfl⟩]
      rfl
    · rw [rdq e12 (Or.inr (by decide)), e11, sI_rd, if_pos ⟨rfl, rfl⟩]
  have w12 : NT d12 (0, 0) := ⟨by rw [e12, sI_rd, if_pos ⟨rfl, rfl⟩], fun z => absurd rfl z⟩
  have k12 : dI d12 9 12 = 0 := by rw [s12.1 9 12 (by omega)]; exact h12
  have k16 : dI d12 9 16 = 0 := by rw [s12.1 9 16 (by omega)]; exact h16
  refine pc_cb (takeBoard_e (ck := fun _ => 0) hS C12 x12 w12 k12 k16) (fun u15 d13 r => ?_)
  have j76 : ∀ {dd : Ds} {i : Nat} {y3 : Int32} {G : Ds → Prop}, CQ d12 G dd y3 (sx (KS t n) i).1 (sm (KS t n) (VS t n) i).1 → stp2 (KS t n) (sx (KS t n) i) → pc (fX7_readTape_J76 10000 g 2 1 x2 dd) (fun u d' => ∃ i, stp2 (KS t n) (sx (KS t n) i) ∧ u = (vd (KS t n) (VS t n) i).1 ∧ dI d' 2 5 = u ∧ (u = 0 → dI d' 2 7 = -1) ∧ (¬ u = 0 → (dI d' 2 7).toInt = ((ps t n (vd (KS t n) (VS t n) i).2 : Nat) : Int))) := by
    intro dd i y3 G r hs
    obtain ⟨hX, hT, hu⟩ := r
    have j99 : ∀ {de : Ds}, CT t n de → dI de 2 5 = (vd (KS t n) (VS t n) i).1 → (¬ (vd (KS t n) (VS t n) i).1 = 0 → (dI de 2 6).toInt = ((vd (KS t n) (VS t n) i).2 : Int) ∧ (vd (KS t n) (VS t n) i).2 ≤ 400) → pc (fX7_readTape_J99 10000 g 2 1 x2 de) (fun u d' => ∃ i, stp2 (KS t n) (sx (KS t n) i) ∧ u = (vd (KS t n) (VS t n) i).1 ∧ dI d' 2 5 = u ∧ (u = 0 → dI d' 2 7 = -1) ∧ (¬ u = 0 → (dI d' 2 7).toInt = ((ps t n (vd (KS t n) (VS t n) i).2 : Nat) : Int))) := by
      intro de hCe h5 h6
      unfold fX7_readTape_J99
      refine pc_gd (fun _ => pc_if (fun q => ?_) (fun q => pc_ob (fun r e => ?_)))
      · unfold fX7_readTape_J122
        refine pc_gd (fun _ => pc_bd (fun d27 e27 => pc_gd (fun _ => pc_some ⟨i, hs, ?_, rfl, fun _ => ?_, fun z => ?_⟩)))
        · rw [rdq e27 (Or.inr (by decide))]
          exact h5
        · rw [e27, sI_rd, if_pos ⟨rfl, rfl⟩]
        · rw [rdq e27 (Or.inr (by decide))] at z
          exact absurd q z
      · have := gq hS (e := 3) (by decide +kernel) e
        subst this
        have nz : ¬ (vd (KS t n) (VS t n) i).1 = 0 := fun z => q (h5.trans z)
        obtain ⟨h6, h4⟩ := h6 nz
        refine pc_gd (fun _ => pc_cb (placeAt_e hS hCe h6 h4) (fun u25 d23 r => ?_))
        obtain ⟨e, hu⟩ := r
        subst e
        unfold fX7_readTape_J122
        refine pc_gd (fun _ => pc_bd (fun d27 e27 => pc_gd (fun _ => pc_some ⟨i, hs, ?_, rfl, fun z => ?_, fun _ => ?_⟩)))
        · rw [rdq e27 (Or.inr (by decide))]
          exact h5
        · rw [rdq e27 (Or.inr (by decide))] at z
          exact absurd z q
        · rw [e27, sI_rd, if_pos ⟨rfl, rfl⟩]
          exact hu
    unfold fX7_readTape_J76
    refine pc_gd (fun _ => pc_if (fun q => ?_) (fun q => ?_))
    · have q0 : (sx (KS t n) i).1.2 = 0 := hX.2.1.symm.trans q
      have ev : vd (KS t n) (VS t n) i = (sm (KS t n) (VS t n) i).1 := if_pos q0
      have hN : NT dd (sm (KS t n) (VS t n) i).1 := by
        rcases hu with ⟨_, _, h, _⟩ | ⟨_, h⟩
        · exact h
        · exact absurd q0 h
      refine pc_bd (fun d29 e29 => pc_bd (fun d30 e30 => ?_))
      have sf : SF dd d30 := (SF.rf.i e29 (by omega)).i e30 (by omega)
      refine j99 ((C12.tf hT).tf sf.tf) ?_ (fun z => ?_)
      · rw [rdq e30 (Or.inr (by decide)), e29, sI_rd, if_pos ⟨rfl, rfl⟩, ev]
        exact hN.1
      · rw [ev] at z ⊢
        have := hN.2 z
        rw [e30, sI_rd, if_pos ⟨rfl, rfl⟩, rdq e29 (Or.inr (by decide))]
        exact this
    · have q0 : ¬ (sx (KS t n) i).1.2 = 0 := fun z => q (hX.2.1.trans z)
      have ev : vd (KS t n) (VS t n) i = ((sx (KS t n) i).1.2, (sx (KS t n) i).1.1) := if_neg q0
      refine j99 (C12.tf hT) (by rw [ev]; exact hX.2.1) (fun _ => ?_)
      rw [ev]
      exact ⟨hX.2.2.2 q0, hX.2.2.1⟩
  unfold fX7_readTape_L39
  refine pc_lp (fun (a : Int32 × Int32 × Ds) => ∃ i : Nat, i ≤ 401 ∧ a.2.1.toInt = (i : Int) ∧ CQ d12 (fun d' => DR (VS t n) d' (sx (KS t n) i).2.1 (sx (KS t n) i).2.2 (sm (KS t n) (VS t n) i).2) a.2.2 a.1 (sx (KS t n) i).1 (sm (KS t n) (VS t n) i).1 ∧ ((sx (KS t n) i).1.2 = 0 → i ≤ (sx (KS t n) i).1.1)) ?_ 10000 (u15, 0, d13) ⟨0, by decide, (by decide : (0 : Int32).toInt = ((0 : Nat) : Int)), r, fun _ => Nat.zero_le _⟩
  rintro K ⟨y3, y4, dd⟩ ⟨i, hi, hy4, hQ, hge⟩ hK
  dsimp only at hy4 hQ hK ⊢
  unfold fX7_readTape_B39
  have hQ' := hQ
  obtain ⟨hX, hT, hu⟩ := hQ
  refine pc_if (fun q => ?_) (fun q4 => pc_if (fun q => ?_) (fun q3 => ?_))
  · have q2 := Int32.lt_iff_toInt_lt.mp q
    refine j76 (i := i) hQ' (fun z => ?_)
    have := hge z.1
    have := hX.2.2.1
    omega
  · refine j76 (i := i) hQ' (fun z => ?_)
    rcases hu with ⟨hu, _⟩ | ⟨_, hu⟩
    · exact absurd (q.symm.trans hu) (by decide)
    · exact hu z.1
  · have q42 := Int32.le_iff_toInt_le.mp (nlt q4)
    rcases hu with ⟨hu, y0, hw, hD⟩ | ⟨hu, _⟩
    · refine pc_gd (fun _ => pc_ob (fun r e => ?_))
      have := gq hS (e := 3) (by decide +kernel) e
      subst this
      have CC := C12.tf hT
      refine pc_gd (fun _ => pc_cb (kindAt_e hS CC hX.1 hX.2.2.1) (fun u37 d35 r => ?_))
      obtain ⟨e, hk⟩ := r
      subst e
      refine pc_if (fun q => ?_) (fun q => ?_)
      · exact j76 (i := i) hQ' (fun z => z.2 (hk.2.2.1.mp q))
      · have k0 : ¬ KS t n (sx (KS t n) i).1.1 = 0 := fun z => q (hk.2.2.1.mpr z)
        have eX : (sx (KS t n) i).1 = ((sx (KS t n) i).1.1, 0) := Prod.ext rfl y0
        have X2 : XC d35 ((sx (KS t n) i).1.1, 0) := by rw [← eX]; exact hX
        obtain ⟨c4, m4⟩ := sx_c i y0
        refine pc_cb (takeLine_e hS c4 m4 CC X2 hw hD) (fun u41 d39 r => pc_bd (fun u42 e42 => ?_))
        have ex : sx (KS t n) (i + 1) = (tS (KS t n) (sx (KS t n) i).2.1 (sx (KS t n) i).2.2 (sx (KS t n) i).1.1, (sx (KS t n) i).2.1 + (if KS t n (sx (KS t n) i).1.1 = 29 then 1 else 0), (sx (KS t n) i).2.2 + (if KS t n (sx (KS t n) i).1.1 = 30 then 1 else 0)) := if_pos ⟨y0, k0⟩
        have em : sm (KS t n) (VS t n) (i + 1) = (lNt (KS t n) (VS t n) (sx (KS t n) i).2.1 (sm (KS t n) (VS t n) i).2 (sx (KS t n) i).1.1 (sm (KS t n) (VS t n) i).1, ckN (KS t n) (VS t n) (sx (KS t n) i).1.1 (sx (KS t n) i).2.1 (sm (KS t n) (VS t n) i).2) := if_pos ⟨y0, k0⟩
        refine hK _ ⟨i + 1, by omega, ?_, ?_, fun z => ?_⟩
        · dsimp only
          rw [e42, z_add hy4 e1 (by omega) (by omega)]
          omega
        · rw [ex, em]
          exact ⟨r.1, hT.tr r.2.1, r.2.2⟩
        · rw [ex] at z ⊢
          have := (tS_gt z).1
          have := hge y0
          dsimp only
          omega
    · exact absurd hu q3
end RT
