/-! the class's reader: what it sees -/
def TF (d d' : Ds) : Prop := (∀ r j, r = 3 ∨ r = 4 ∨ r = 5 ∨ r = 6 → dI d' r j = dI d r j) ∧ ∀ j, dW d' 7 j = dW d 7 j
theorem CT.tf {t : Nat → Int32} {n : Nat} {d d' : Ds} (h : CT t n d) (f : TF d d') : CT t n d' := by
  obtain ⟨s, h1, h2, h3, h4, h5⟩ := h
  refine ⟨s, by rw [f.1 3 4 (Or.inl rfl)]; exact h1, h2, by rw [f.1 3 5 (Or.inl rfl)]; exact h3, fun i hi => ?_, h5⟩
  obtain ⟨a1, a2, a3, a4, a5⟩ := h4 i hi
  exact ⟨a1, by rw [f.1 4 i (by omega)]; exact a2, by rw [f.1 5 i (by omega)]; exact a3, by rw [f.1 6 i (by omega)]; exact a4, by rw [f.2 i]; exact a5⟩
theorem ps_n {t : Nat → Int32} {n s : Nat} (h : ps t n s = n) : ∀ m, ps t n (s + m) = n := by
  intro m
  induction m with
  | zero => exact h
  | succ m ih =>
    show (if ps t n (s + m) < n then rn blk t n (en t n (ps t n (s + m))) else ps t n (s + m)) = n
    rw [ih, if_neg (Nat.lt_irrefl n)]
section ACC
variable {t : Nat → Int32} {n : Nat} {d : Ds}
theorem ct_k (h : CT t n d) {T : Nat} (hT : T ≤ 400) : ∃ s : Nat, (dI d 3 4).toInt = (s : Int) ∧ (T < s ∧ TKC t n d T ∨ s ≤ T ∧ KS t n T = 0 ∧ VS t n T = 0 ∧ ps t n T = n) := by
  obtain ⟨s, h1, h2, h3, h4, h5⟩ := h
  refine ⟨s, h1, ?_⟩
  by_cases q : T < s
  · exact Or.inl ⟨q, h4 T q⟩
  · have hs : ¬ ps t n s < n := by
      rcases h5 with h5 | h5
      · omega
      · exact h5
    have e := ps_n (show ps t n s = n by have := ps_le (t := t) (n := n) s; omega) (T - s)
    rw [show s + (T - s) = T by omega] at e
    refine Or.inr ⟨by omega, ?_, ?_, e⟩
    · unfold KS
      rw [if_neg (by omega)]
    · unfold VS
      rw [if_neg (by omega)]
def KC (u k : Int32) : Prop := (u = 2 ↔ k = 2) ∧ (u = 3 ↔ k = 4) ∧ (u = 0 ↔ k = 0) ∧ (20 ≤ k.toInt → u = 1)
def WD (k : Int32) : Option Nat := if 20 ≤ k.toInt then some (100000 + (k.toInt.toNat - 20)) else none
theorem kd_w {w : Nat} (h : w ≤ 20) : (Int32.ofNat (19 + w)).toInt = 19 + (w : Int) := by
  have : ∀ w, w ≤ 20 → (Int32.ofNat (19 + w)).toInt = 19 + (w : Int) := by decide
  exact this w h
theorem kdc_c {p : Nat} : KC (kdC t n p) (kdS t n p) ∧ WD (kdS t n p) = wdo t n p ∧ (kdS t n p).toInt ≤ 39 ∧ 1 ≤ (kdS t n p).toInt := by
  have e2 : (2 : Int32).toInt = 2 := by decide
  have e4 : (4 : Int32).toInt = 4 := by decide
  have e0 : (0 : Int32).toInt = 0 := by decide
  unfold kdC kdS wdo
  by_cases h1 : ltr (t p) = true
  · rw [if_pos h1, if_pos h1]
    by_cases h2 : wd t n p = 0
    · rw [if_pos h2, if_neg (show ¬ (ltr (t p) = true ∧ wd t n p ≠ 0) from fun z => z.2 h2)]
      split <;> exact ⟨by unfold KC; decide, rfl, by decide, by decide⟩
    · have hw : wd t n p ≤ 20 := wdF_le 20
      have e := kd_w hw
      rw [if_neg h2, if_pos (show ltr (t p) = true ∧ wd t n p ≠ 0 from ⟨h1, h2⟩)]
      refine ⟨⟨⟨fun z => absurd z (by decide), fun z => ?_⟩, ⟨fun z => absurd z (by decide), fun z => ?_⟩, ⟨fun z => absurd z (by decide), fun z => ?_⟩, fun _ => rfl⟩, ?_, by omega, by omega⟩
      · rw [z] at e; omega
      · rw [z] at e; omega
      · rw [z] at e; omega
      · unfold WD
        rw [if_pos (by omega), e]
        congr 1
        omega
  · rw [if_neg h1, if_neg h1, if_neg (show ¬ (ltr (t p) = true ∧ wd t n p ≠ 0) from fun z => h1 z.1)]
    by_cases h2 : dgt (t p) = true
    · rw [if_pos h2, if_pos h2]
      split <;> exact ⟨by unfold KC; decide, rfl, by decide, by decide⟩
    · rw [if_neg h2, if_neg h2]
      by_cases h3 : t p = 59
      · rw [if_pos h3, if_pos h3]
        exact ⟨by unfold KC; decide, rfl, by decide, by decide⟩
      · rw [if_neg h3, if_neg h3]
        exact ⟨by unfold KC; decide, rfl, by decide, by decide⟩
theorem KS_i (T : Nat) : (KS t n T).toInt ≤ 39 ∧ 0 ≤ (KS t n T).toInt := by
  unfold KS
  split
  · have := (kdc_c (t := t) (n := n) (p := ps t n T)).2.2
    omega
  · decide
theorem kindAt_e {N : Nat} {g : Gs} (hS : Shp g) (h : CT t n d) {T : Nat} {x : Int32} (hx : x.toInt = (T : Int)) (hT : T ≤ 400) : pc (fX8_kindAt N g 3 x d) (fun u d' => d' = d ∧ KC u (KS t n T)) := by
  have e0 : (0 : Int32).toInt = 0 := by decide
  obtain ⟨s, h4, hq⟩ := ct_k h hT
  unfold fX8_kindAt
  refine pc_if (fun c => ?_) (fun _ => pc_gd (fun _ => pc_if (fun c => ?_) (fun c => ?_)))
  · have := Int32.lt_iff_toInt_lt.mp c
    omega
  · have c2 := Int32.le_iff_toInt_le.mp c
    rcases hq with ⟨q, _⟩ | ⟨q, k, _⟩
    · omega
    · unfold fX8_kindAt_J21 fX8_kindAt_J22
      rw [k]
      exact pc_some ⟨rfl, by unfold KC; decide⟩
  · have c2 := Int32.lt_iff_toInt_lt.mp (nle c)
    rcases hq with ⟨q, k1, k2, _⟩ | ⟨q, _⟩
    · refine pc_ob (fun r e => ?_)
      have := gq hS (e := 4) (by decide +kernel) e
      subst this
      refine pc_gd (fun _ => pc_gd (fun _ => ?_))
      unfold fX8_kindAt_J22
      refine pc_some ⟨rfl, ?_⟩
      rw [tn hx, k2]
      unfold KS
      rw [if_pos k1]
      exact kdc_c.1
    · omega
theorem wordAt_e {N : Nat} {g : Gs} (hS : Shp g) (h : CT t n d) {T : Nat} {x : Int32} (hx : x.toInt = (T : Int)) (hT : T ≤ 400) : pc (fX8_wordAt N g 3 x d) (fun u d' => d' = d ∧ u = WD (KS t n T)) := by
  have e0 : (0 : Int32).toInt = 0 := by decide
  obtain ⟨s, h4, hq⟩ := ct_k h hT
  unfold fX8_wordAt
  refine pc_if (fun c => ?_) (fun _ => pc_gd (fun _ => pc_if (fun c => ?_) (fun c => ?_)))
  · have := Int32.lt_iff_toInt_lt.mp c
    omega
  · have c2 := Int32.le_iff_toInt_le.mp c
    rcases hq with ⟨q, _⟩ | ⟨q, k, _⟩
    · omega
    · unfold fX8_wordAt_J21 fX8_wordAt_J22
      rw [k]
      exact pc_some ⟨rfl, rfl⟩
  · have c2 := Int32.lt_iff_toInt_lt.mp (nle c)
    rcases hq with ⟨q, k1, _, _, _, k2⟩ | ⟨q, _⟩
    · refine pc_ob (fun r e => ?_)
      have := gq hS (e := 7) (by decide +kernel) e
      subst this
      refine pc_gd (fun _ => pc_gd (fun _ => pc_bd (fun u7 e7 => ?_)))
      unfold fX8_wordAt_J22
      refine pc_some ⟨rfl, ?_⟩
      rw [e7, tn hx, k2]
      unfold KS
      rw [if_pos k1]
      exact kdc_c.2.1.symm
    · omega
theorem numberAt_e {N : Nat} {g : Gs} (hS : Shp g) (h : CT t n d) {T : Nat} {x : Int32} (hx : x.toInt = (T : Int)) (hT : T ≤ 400) : pc (fX8_numberAt N g 3 x d) (fun u d' => d' = d ∧ u = VS t n T) := by
  have e0 : (0 : Int32).toInt = 0 := by decide
  obtain ⟨s, h4, hq⟩ := ct_k h hT
  unfold fX8_numberAt
  refine pc_if (fun c => ?_) (fun _ => pc_gd (fun _ => pc_if (fun c => ?_) (fun c => ?_)))
  · have := Int32.lt_iff_toInt_lt.mp c
    omega
  · have c2 := Int32.le_iff_toInt_le.mp c
    rcases hq with ⟨q, _⟩ | ⟨q, _, k, _⟩
    · omega
    · unfold fX8_numberAt_J21 fX8_numberAt_J22
      rw [k]
      exact pc_some ⟨rfl, rfl⟩
  · have c2 := Int32.lt_iff_toInt_lt.mp (nle c)
    rcases hq with ⟨q, k1, _, _, k2, _⟩ | ⟨q, _⟩
    · refine pc_ob (fun r e => ?_)
      have := gq hS (e := 6) (by decide +kernel) e
      subst this
      refine pc_gd (fun _ => pc_gd (fun _ => ?_))
      unfold fX8_numberAt_J22
      refine pc_some ⟨rfl, ?_⟩
      rw [tn hx, k2]
      unfold VS
      rw [if_pos k1]
    · omega
theorem placeAt_e {N : Nat} {g : Gs} (hS : Shp g) (h : CT t n d) {T : Nat} {x : Int32} (hx : x.toInt = (T : Int)) (hT : T ≤ 400) : pc (fX8_placeAt N g 3 x d) (fun u d' => d' = d ∧ u.toInt = ((ps t n T : Nat) : Int)) := by
  have e0 : (0 : Int32).toInt = 0 := by decide
  have h5 : (dI d 3 5).toInt = (n : Int) := by
    obtain ⟨s, _, _, h3, _⟩ := h
    exact h3
  obtain ⟨s, h4, hq⟩ := ct_k h hT
  unfold fX8_placeAt
  refine pc_if (fun c => ?_) (fun _ => pc_gd (fun _ => pc_if (fun c => ?_) (fun c => ?_)))
  · have := Int32.lt_iff_toInt_lt.mp c
    omega
  · have c2 := Int32.le_iff_toInt_le.mp c
    rcases hq with ⟨q, _⟩ | ⟨q, _, _, k⟩
    · omega
    · unfold fX8_placeAt_J21 fX8_placeAt_J25
      exact pc_gd (fun _ => pc_some ⟨rfl, by rw [h5, k]⟩)
  · have c2 := Int32.lt_iff_toInt_lt.mp (nle c)
    rcases hq with ⟨q, k1, _, k2, _⟩ | ⟨q, _⟩
    · refine pc_ob (fun r e => ?_)
      have := gq hS (e := 5) (by decide +kernel) e
      subst this
      refine pc_gd (fun _ => pc_gd (fun _ => ?_))
      unfold fX8_placeAt_J25
      refine pc_some ⟨rfl, ?_⟩
      rw [tn hx, k2]
    · omega
end ACC
/-! what the class notes for later: the first fault of these, and its token -/
def nT (c : Int32) (T : Nat) (w : Int32 × Nat) : Int32 × Nat := if w.1 = 0 then (c, T) else w
def nNu (V : Nat → Int32) (lo hi : Int32) (T : Nat) (w : Int32 × Nat) : Int32 × Nat := if (V T).toInt < lo.toInt ∨ hi.toInt < (V T).toInt then nT 5 T w else w
def NT (d : Ds) (w : Int32 × Nat) : Prop := dI d 2 8 = w.1 ∧ (¬ w.1 = 0 → (dI d 2 9).toInt = (w.2 : Int) ∧ w.2 ≤ 400)
/-- at which token, with which fault, what noted -/
def XC (d : Ds) (x : Nat × Int32) : Prop := (dI d 2 3).toInt = (x.1 : Int) ∧ dI d 2 5 = x.2 ∧ x.1 ≤ 400 ∧ (¬ x.2 = 0 → (dI d 2 6).toInt = (x.1 : Int))
def SF (d d' : Ds) : Prop := (∀ r j, ¬ (r = 2 ∧ (j = 3 ∨ j = 4 ∨ j = 5 ∨ j = 6 ∨ j = 8 ∨ j = 9) ∨ r = 8) → dI d' r j = dI d r j) ∧ ∀ r j, dW d' r j = dW d r j
theorem SF.rf {d : Ds} : SF d d := ⟨fun _ _ _ => rfl, fun _ _ => rfl⟩
theorem SF.tr {d dd d' : Ds} (h : SF d dd) (h2 : SF dd d') : SF d d' := ⟨fun r j q => (h2.1 r j q).trans (h.1 r j q), fun r j => (h2.2 r j).trans (h.2 r j)⟩
theorem SF.tf {d d' : Ds} (h : SF d d') : TF d d' := ⟨fun r j q => h.1 r j (by omega), fun j => h.2 7 j⟩
theorem SF.i {d df de : Ds} {r j : Nat} {v : Int32} (h : SF d df) (e : de = sI df r j v) (hr : r = 2 ∧ (j = 3 ∨ j = 4 ∨ j = 5 ∨ j = 6 ∨ j = 8 ∨ j = 9) ∨ r = 8) : SF d de := by
  subst e
  refine ⟨fun r' j' hn => ?_, h.2⟩
  rw [sI_rd, if_neg (fun z => hn (by rw [z.1, z.2]; exact hr))]
  exact h.1 r' j' hn
/-- a way on or a fault -/
def CP (d0 d' : Ds) (u : Int32) (y : Nat × Int32) (w : Int32 × Nat) : Prop := XC d' y ∧ SF d0 d' ∧ (u = 1 ∧ y.2 = 0 ∧ NT d' w ∨ u = 0 ∧ ¬ y.2 = 0)
section TKN
variable {t : Nat → Int32} {n : Nat} {d0 d : Ds}
theorem failC_e {N : Nat} {g : Gs} {k : Int32} {T : Nat} {w : Int32 × Nat} (hk : ¬ k = 0) (h0 : SF d0 d) (hx : XC d (T, 0)) : pc (fX7_fail N g 2 k d) (fun u d' => CP d0 d' u (T, k) w) := by
  unfold fX7_fail
  refine pc_gd (fun _ => pc_bd (fun d2 e2 => pc_bd (fun d3 e3 => pc_some ⟨⟨?_, ?_, hx.2.2.1, fun _ => ?_⟩, (h0.i e2 (by omega)).i e3 (by omega), Or.inr ⟨rfl, hk⟩⟩)))
  · rw [rdq e3 (Or.inr (by decide)), rdq e2 (Or.inr (by decide))]
    exact hx.1
  · rw [rdq e3 (Or.inr (by decide)), e2, sI_rd, if_pos ⟨rfl, rfl⟩]
  · rw [e3, sI_rd, if_pos ⟨rfl, rfl⟩, rdq e2 (Or.inr (by decide))]
    exact hx.1
theorem takeToken_e {N : Nat} {g : Gs} (hS : Shp g) {a k : Int32} {T : Nat} {w : Int32 × Nat} (hC : CT t n d) (h0 : SF d0 d) (hx : XC d (T, 0)) (hw : NT d w) (hk : ∀ u, KC u (KS t n T) → (u = a ↔ KS t n T = k)) : pc (fX7_takeToken N g 2 a d) (fun u d' => CP d0 d' u (mS (KS t n) k (T, 0)) w) := by
  have e1 : (1 : Int32).toInt = 1 := by decide
  have e400 : (400 : Int32).toInt = 400 := by decide
  unfold fX7_takeToken
  refine pc_gd (fun _ => pc_ob (fun r e => ?_))
  have := gq hS (e := 3) (by decide +kernel) e
  subst this
  refine pc_gd (fun _ => pc_cb (kindAt_e hS hC hx.1 hx.2.2.1) (fun u d4 r => ?_))
  obtain ⟨e, hu⟩ := r
  subst e
  have hka := hk u hu
  have h1 := hx.1
  dsimp only at h1
  refine pc_if (fun c => ?_) (fun c => ?_)
  · have eM : mS (KS t n) k (T, 0) = pS (T, 0) := by
      unfold mS
      rw [if_pos rfl, if_pos (hka.mp c)]
    rw [eM]
    refine pc_if (fun c2 => ?_) (fun c2 => ?_)
    · have c3 := Int32.lt_iff_toInt_lt.mp c2
      have eP : pS (T, 0) = (T + 1, 0) := by
        unfold pS
        rw [if_pos rfl, if_neg (show ¬ T = 400 by omega)]
      rw [eP]
      refine pc_bd (fun d9 e9 => pc_some ⟨⟨?_, ?_, by dsimp only; omega, fun z => absurd rfl z⟩, h0.i e9 (by omega), Or.inl ⟨rfl, rfl, ?_, fun z => ?_⟩⟩)
      · rw [e9, sI_rd, if_pos ⟨rfl, rfl⟩, z_add h1 e1 (by omega) (by omega)]
        dsimp only
        omega
      · rw [rdq e9 (Or.inr (by decide))]
        exact hx.2.1
      · rw [rdq e9 (Or.inr (by decide))]
        exact hw.1
      · rw [rdq e9 (Or.inr (by decide))]
        exact hw.2 z
    · have c3 := Int32.le_iff_toInt_le.mp (nlt c2)
      have h4 : T ≤ 400 := hx.2.2.1
      have eP : pS (T, 0) = (T, 2) := by
        unfold pS
        rw [if_pos rfl, if_pos (show T = 400 by omega)]
      rw [eP]
      refine pc_cb (failC_e (w := w) (by decide) h0 hx) (fun u12 d10 r => pc_gd (fun _ => pc_some r))
  · have eM : mS (KS t n) k (T, 0) = (T, 1) := by
      unfold mS
      rw [if_pos rfl, if_neg (fun z => c (hka.mpr z))]
    rw [eM]
    exact pc_cb (failC_e (w := w) (by decide) h0 hx) (fun u12 d10 r => pc_gd (fun _ => pc_some r))
theorem hk_2 {T : Nat} : ∀ u, KC u (KS t n T) → (u = 2 ↔ KS t n T = 2) := fun u h => h.1
theorem hk_4 {T : Nat} : ∀ u, KC u (KS t n T) → (u = 3 ↔ KS t n T = 4) := fun u h => h.2.1
theorem hk_w {T : Nat} {k : Int32} (h : KS t n T = k) (hk : 20 ≤ k.toInt) : ∀ u, KC u (KS t n T) → (u = 1 ↔ KS t n T = k) := fun u z => ⟨fun _ => h, fun _ => z.2.2.2 (by rw [h]; exact hk)⟩
theorem noteLater_e {N : Nat} {g : Gs} {c x : Int32} {T : Nat} {w : Int32 × Nat} {y : Nat × Int32} (hx : x.toInt = (T : Int)) (hT : T ≤ 400) (h0 : SF d0 d) (hX : XC d y) (hw : NT d w) : pc (fX7_noteLater N g 2 c x d) (fun _ d' => XC d' y ∧ SF d0 d' ∧ NT d' (nT c T w) ∧ dI d' 2 4 = dI d 2 4) := by
  unfold fX7_noteLater nT
  refine pc_gd (fun _ => pc_if (fun q => ?_) (fun q => ?_))
  · refine pc_bd (fun d3 e3 => pc_bd (fun d4 e4 => ?_))
    unfold fX7_noteLater_J17
    have hn : ∀ j, ¬ (j = 8 ∨ j = 9) → dI d4 2 j = dI d 2 j := fun j hj => by rw [rdq e4 (Or.inr (by omega)), rdq e3 (Or.inr (by omega))]
    rw [if_pos (hw.1.symm.trans q)]
    refine pc_some ⟨⟨by rw [hn 3 (by decide)]; exact hX.1, by rw [hn 5 (by decide)]; exact hX.2.1, hX.2.2.1, fun z => by rw [hn 6 (by decide)]; exact hX.2.2.2 z⟩, (h0.i e3 (by omega)).i e4 (by omega), ⟨?_, fun _ => ?_⟩, hn 4 (by decide)⟩
    · rw [rdq e4 (Or.inr (by decide)), e3, sI_rd, if_pos ⟨rfl, rfl⟩]
    · rw [e4, sI_rd, if_pos ⟨rfl, rfl⟩]
      exact ⟨hx, hT⟩
  · unfold fX7_noteLater_J17
    rw [if_neg (fun z => q (hw.1.trans z))]
    exact pc_some ⟨hX, h0, hw, rfl⟩
theorem takeNumber_e {N : Nat} {g : Gs} (hS : Shp g) {lo hi : Int32} {T : Nat} {w : Int32 × Nat} (hC : CT t n d) (h0 : SF d0 d) (hx : XC d (T, 0)) (hw : NT d w) : pc (fX7_takeNumber N g 2 lo hi d) (fun u d' => CP d0 d' u (mS (KS t n) 2 (T, 0)) (nNu (VS t n) lo hi T w) ∧ dI d' 2 4 = VS t n T) := by
  have em1 : (-1 : Int32).toInt = -1 := by decide
  have e1 : (1 : Int32).toInt = 1 := by decide
  unfold fX7_takeNumber
  refine pc_gd (fun _ => pc_ob (fun r e => ?_))
  have := gq hS (e := 3) (by decide +kernel) e
  subst this
  refine pc_gd (fun _ => pc_cb (numberAt_e hS hC hx.1 hx.2.2.1) (fun u d4 r => ?_))
  obtain ⟨e, hu⟩ := r
  subst e
  refine pc_bd (fun d7 e7 => ?_)
  have h7 : SF d4 d7 := SF.rf.i e7 (by omega)
  have f7 : ∀ j, ¬ j = 4 → dI d7 2 j = dI d4 2 j := fun j hj => rdq e7 (Or.inr hj)
  have x7 : XC d7 (T, 0) := ⟨by rw [f7 3 (by decide)]; exact hx.1, by rw [f7 5 (by decide)]; exact hx.2.1, hx.2.2.1, fun z => absurd rfl z⟩
  have w7 : NT d7 w := ⟨by rw [f7 8 (by decide)]; exact hw.1, fun z => by rw [f7 9 (by decide)]; exact hw.2 z⟩
  have n7 : dI d7 2 4 = VS t n T := by rw [e7, sI_rd, if_pos ⟨rfl, rfl⟩]; exact hu
  have cont : pc (fX7_takeToken N g 2 2 d7) (fun u d' => CP d0 d' u (mS (KS t n) 2 (T, 0)) w ∧ dI d' 2 4 = VS t n T) := by
    intro u d' e
    have r1 := takeToken_e (d0 := d0) hS (hC.tf h7.tf) (h0.tr h7) x7 w7 hk_2 u d' e
    refine ⟨r1, ?_⟩
    rw [← n7]
    -- the number stays
    have r2 : pc (fX7_takeToken N g 2 2 d7) (fun _ d' => dI d' 2 4 = dI d7 2 4) := by
      unfold fX7_takeToken
      refine pc_gd (fun _ => pc_ob (fun r e => ?_))
      have := gq hS (e := 3) (by decide +kernel) e
      subst this
      have ff : ∀ {k : Int32}, pc (fX7_fail N g 2 k d7) (fun _ d' => dI d' 2 4 = dI d7 2 4) := by
        intro k
        unfold fX7_fail
        exact pc_gd (fun _ => pc_bd (fun d2 e2 => pc_bd (fun d3 e3 => pc_some (by rw [rdq e3 (Or.inr (by decide)), rdq e2 (Or.inr (by decide))]))))
      refine pc_gd (fun _ => pc_cb (kindAt_e hS (hC.tf h7.tf) x7.1 x7.2.2.1) (fun u d4 r => ?_))
      obtain ⟨e, hu⟩ := r
      subst e
      refine pc_if (fun _ => pc_if (fun _ => ?_) (fun _ => ?_)) (fun _ => ?_)
      · exact pc_bd (fun d9 e9 => pc_some (rdq e9 (Or.inr (by decide))))
      · exact pc_cb ff (fun u12 d10 r => pc_gd (fun _ => pc_some r))
      · exact pc_cb ff (fun u12 d10 r => pc_gd (fun _ => pc_some r))
    exact r2 u d' e
  refine pc_cb cont (fun u10 d8 r => ?_)
  obtain ⟨⟨xy, sf, hu10⟩, n8⟩ := r
  rcases hu10 with ⟨hu10, y0, w8⟩ | ⟨hu10, y0⟩ <;> rw [hu10]
  · refine pc_if (fun z => absurd z (by decide)) (fun _ => ?_)
    have ePS : mS (KS t n) 2 (T, 0) = (T + 1, 0) := by
      unfold mS pS at y0 ⊢
      dsimp only at y0 ⊢
      rw [if_pos rfl] at y0 ⊢
      by_cases k : KS t n T = 2
      · rw [if_pos k, if_pos rfl] at y0 ⊢
        by_cases k4 : T = 400
        · rw [if_pos k4] at y0
          exact absurd y0 (show ¬ (2 : Int32) = 0 by decide)
        · rw [if_neg k4]
      · rw [if_neg k] at y0
        exact absurd y0 (show ¬ (1 : Int32) = 0 by decide)
    have j52 : ∀ {dd : Ds}, CP d0 dd 1 (mS (KS t n) 2 (T, 0)) (nNu (VS t n) lo hi T w) → dI dd 2 4 = VS t n T → pc (fX7_takeNumber_J52 N g 2 lo hi dd) (fun u d' => CP d0 d' u (mS (KS t n) 2 (T, 0)) (nNu (VS t n) lo hi T w) ∧ dI d' 2 4 = VS t n T) := by
      intro dd p q
      unfold fX7_takeNumber_J52
      exact pc_some ⟨p, q⟩
    have j41 : ((VS t n T).toInt < lo.toInt ∨ hi.toInt < (VS t n T).toInt) → pc (fX7_takeNumber_J41 N g 2 lo hi d8) (fun u d' => CP d0 d' u (mS (KS t n) 2 (T, 0)) (nNu (VS t n) lo hi T w) ∧ dI d' 2 4 = VS t n T) := by
      intro q
      unfold fX7_takeNumber_J41
      have h3 := xy.1
      rw [ePS] at h3
      dsimp only at h3
      have hT : T ≤ 400 := hx.2.2.1
      have hsub : (dI d8 2 3 - 1).toInt = (T : Int) := by
        rw [z_sub h3 e1 (by omega) (by omega)]
        omega
      refine pc_gd (fun _ => pc_cv (noteLater_e hsub hT sf xy w8) (fun d14 r => ?_))
      obtain ⟨a1, a2, a3, a4⟩ := r
      refine j52 ⟨a1, a2, Or.inl ⟨rfl, y0, ?_⟩⟩ (a4.trans n8)
      unfold nNu
      rw [if_pos q]
      exact a3
    rw [n8]
    refine pc_if (fun c => j41 (Or.inl (Int32.lt_iff_toInt_lt.mp c))) (fun c1 => pc_if (fun c2 => ?_) (fun c => j41 (Or.inr (Int32.lt_iff_toInt_lt.mp (nle c)))))
    refine j52 ⟨xy, sf, Or.inl ⟨rfl, y0, ?_⟩⟩ n8
    have q1 := Int32.le_iff_toInt_le.mp (nlt c1)
    have q2 := Int32.le_iff_toInt_le.mp c2
    unfold nNu
    rw [if_neg (by omega)]
    exact w8
  · exact pc_if (fun _ => pc_some ⟨⟨xy, sf, Or.inr ⟨rfl, y0⟩⟩, n8⟩) (fun z => absurd rfl z)
end TKN
/-! the class's deed -/
def kk (k : Int32) : Nat := k.toInt.toNat - 20
def nW (V : Nat → Int32) (k : Int32) (T : Nat) (w : Int32 × Nat) : Int32 × Nat := nNu V (wfv 0 (kk k)) (wfv 1 (kk k)) T w
def dNt (K V : Nat → Int32) (T : Nat) (w : Int32 × Nat) : Int32 × Nat := if K T = 35 ∨ K T = 36 then w else if K T = 37 then nW V (K (T + 2)) (T + 3) (nW V (K T) (T + 1) w) else if K T = 38 then nW V (K T) (T + 2) (nW V (K T) (T + 1) w) else nW V (K T) (T + 1) w
theorem wd_some {k : Int32} (h : 20 ≤ k.toInt) : WD k = some (100000 + kk k) := if_pos h
theorem wd_none {k : Int32} (h : ¬ 20 ≤ k.toInt) : WD k = none := if_neg h
theorem wd_i {k c : Int32} {M : Nat} (hc : c.toInt = 20 + ((M - 100000 : Nat) : Int)) (hM : 100000 ≤ M) : WD k = some M ↔ k = c := by
  constructor
  · intro z
    by_cases h : 20 ≤ k.toInt
    · rw [wd_some h] at z
      have e : 100000 + kk k = M := Option.some.inj z
      unfold kk at e
      exact Int32.toInt_inj.mp (by omega)
    · rw [wd_none h] at z
      exact absurd z (by simp)
  · intro z
    rw [z, wd_some (by omega)]
    congr 1
    unfold kk
    omega
theorem mS_ok {K : Nat → Int32} {k : Int32} {T : Nat} (h : (mS K k (T, 0)).2 = 0) : mS K k (T, 0) = (T + 1, 0) ∧ K T = k ∧ T ≠ 400 := by
  unfold mS pS at h ⊢
  dsimp only at h ⊢
  rw [if_pos rfl] at h ⊢
  by_cases z : K T = k
  · rw [if_pos z, if_pos rfl] at h ⊢
    by_cases z4 : T = 400
    · rw [if_pos z4] at h
      exact absurd h (show ¬ (2 : Int32) = 0 by decide)
    · rw [if_neg z4]
      exact ⟨rfl, z, z4⟩
  · rw [if_neg z] at h
    exact absurd h (show ¬ (1 : Int32) = 0 by decide)
theorem mS_k {K : Nat → Int32} {T : Nat} : mS K (K T) (T, 0) = pS (T, 0) := by
  unfold mS
  rw [if_pos rfl, if_pos rfl]
section SEQ
variable {K : Nat → Int32} {k : Int32} {T : Nat} {d0 : Ds} {w w' : Int32 × Nat} {z : Nat × Int32}
theorem CP.bad {d' : Ds} {u : Int32} {y : Nat × Int32} (h : CP d0 d' u y w) (hu : u = 0) (hz : ¬ y.2 = 0 → z = y) : CP d0 d' 0 z w' := by
  obtain ⟨a, b, c⟩ := h
  rcases c with ⟨c, _⟩ | ⟨_, c⟩
  · exact absurd (hu.symm.trans c) (by decide)
  · rw [hz c]
    exact ⟨a, b, Or.inr ⟨rfl, c⟩⟩
/-- a token taken, and on -/
theorem pc_seq {X : Option (Int32 × Ds)} {rest : Ds → Option (Int32 × Ds)} {R : Ds → Prop} (hX : pc X (fun u d' => CP d0 d' u (mS K k (T, 0)) w ∧ R d')) (hz : ¬ (mS K k (T, 0)).2 = 0 → z = mS K k (T, 0)) (hr : ∀ d', mS K k (T, 0) = (T + 1, 0) → K T = k → XC d' (T + 1, 0) → SF d0 d' → NT d' w → R d' → pc (rest d') (fun u d' => CP d0 d' u z w')) : pc (cb X fun u d' => if u = 0 then some (0, d') else rest d') (fun u d' => CP d0 d' u z w') := by
  refine pc_cb hX (fun u d' r => ?_)
  obtain ⟨r, rR⟩ := r
  have r' := r
  obtain ⟨a, b, c⟩ := r
  rcases c with ⟨c, c0, cw⟩ | ⟨c, c0⟩
  · rw [c]
    refine pc_if (fun q => absurd q (by decide)) (fun _ => ?_)
    obtain ⟨m1, m2, _⟩ := mS_ok c0
    rw [m1] at a
    exact hr d' m1 m2 a b cw rR
  · have c' := c
    rw [c]
    exact pc_if (fun _ => pc_some (r'.bad c' hz)) (fun q => absurd rfl q)
end SEQ
theorem pc_r {X : Option (Int32 × Ds)} {P : Int32 → Ds → Prop} (h : pc X P) : pc X (fun u d => P u d ∧ True) := fun a d e => ⟨h a d e, trivial⟩
theorem pT_bad {K : Nat → Int32} {T : Nat} (h : ¬ (pS (T, 0)).2 = 0) : pS (T, 0) = (T, 2) := by
  unfold pS at h ⊢
  rw [if_pos rfl] at h ⊢
  by_cases q : T = 400
  · rw [if_pos q]
  · rw [if_neg q] at h
    exact absurd rfl h
section DEED
variable {t : Nat → Int32} {n : Nat} {d0 d : Ds} {T : Nat} {w : Int32 × Nat}
/-- reader's cells untouched by a told deed -/
theorem XC.i8 {df de : Ds} {j : Nat} {v : Int32} {x : Nat × Int32} (h : XC df x) (e : de = sI df 8 j v) : XC de x := by
  have f : ∀ i, dI de 2 i = dI df 2 i := fun i => rdq e (Or.inl (by decide))
  exact ⟨by rw [f]; exact h.1, by rw [f]; exact h.2.1, h.2.2.1, fun z => by rw [f]; exact h.2.2.2 z⟩
theorem NT.i8 {df de : Ds} {j : Nat} {v : Int32} {w : Int32 × Nat} (h : NT df w) (e : de = sI df 8 j v) : NT de w := by
  have f : ∀ i, dI de 2 i = dI df 2 i := fun i => rdq e (Or.inl (by decide))
  exact ⟨by rw [f]; exact h.1, fun z => by rw [f]; exact h.2 z⟩
theorem tell8_e {N : Nat} {g : Gs} {a b c : Int32} {y : Nat × Int32} (h0 : SF d0 d) (hx : XC d y) (hw : NT d w) : pc (fX2_tell N g 8 a b c d) (fun _ d' => SF d0 d' ∧ XC d' y ∧ NT d' w) := by
  unfold fX2_tell
  exact pc_gd (fun _ => pc_bd (fun d2 e2 => pc_bd (fun d3 e3 => pc_bd (fun d4 e4 => pc_some ⟨((h0.i e2 (Or.inr rfl)).i e3 (Or.inr rfl)).i e4 (Or.inr rfl), ((hx.i8 e2).i8 e3).i8 e4, ((hw.i8 e2).i8 e3).i8 e4⟩))))
theorem d181 {g : Gs} {N : Nat} (hS : Shp g) {k : Int32} (hk : 20 ≤ k.toInt) (hC : CT t n d0) (h0 : SF d0 d) (hx : XC d (T, 0)) (hw : NT d w) : pc (fX7_takeDeed_J181 N g 2 (WD k) d) (fun u d' => CP d0 d' u (mS (KS t n) 2 (T, 0)) (nW (VS t n) k T w)) := by
  unfold fX7_takeDeed_J181
  rw [wd_some hk]
  refine pc_ob (fun r e => ?_)
  have er : r = 100000 + kk k := (Option.some.inj e).symm
  subst er
  rw [show 100000 + kk k - 100000 = kk k by omega]
  refine pc_gd (fun _ => pc_gd (fun _ => pc_seq (K := KS t n) (takeNumber_e hS (hC.tf h0.tf) h0 hx hw) (fun _ => rfl) (fun d41 m1 m2 a b c _ => ?_)))
  refine pc_ob (fun r e => ?_)
  have := gq hS (e := 8) (by decide +kernel) e
  subst this
  refine pc_gd (fun _ => pc_bd (fun d47 e47 => pc_some ?_))
  rw [m1]
  exact ⟨a.i8 e47, b.i e47 (Or.inr rfl), Or.inl ⟨rfl, rfl, c.i8 e47⟩⟩
theorem wfv2 {k : Int32} (h : 20 ≤ k.toInt) (h2 : k.toInt ≤ 39) : wfv 2 (kk k) = -1 ↔ k.toInt < 31 := by
  have : ∀ m, m < 20 → (wfv 2 m = -1 ↔ m < 11) := by decide
  rw [this (kk k) (by unfold kk; omega)]
  unfold kk
  omega
theorem takeDeed_e {g : Gs} {N : Nat} (hS : Shp g) (hC : CT t n d0) (h0 : SF d0 d) (hx : XC d (T, 0)) (hw : NT d w) : pc (fX7_takeDeed N g 2 d) (fun u d' => CP d0 d' u (dS (KS t n) (T, 0)) (dNt (KS t n) (VS t n) T w)) := by
  have e31 : (31 : Int32).toInt = 31 := by decide
  obtain ⟨b1, b2⟩ := KS_i (t := t) (n := n) T
  have hT : T ≤ 400 := hx.2.2.1
  have j24 : ((KS t n) T).toInt < 31 → pc (fX7_takeDeed_J24 N g 2 d) (fun u d' => CP d0 d' u (dS (KS t n) (T, 0)) (dNt (KS t n) (VS t n) T w)) := by
    intro q
    unfold fX7_takeDeed_J24
    have : dS (KS t n) (T, 0) = (T, 1) := by
      unfold dS
      rw [if_pos rfl, if_pos (Or.inl q)]
    rw [this]
    exact pc_gd (fun _ => pc_cb (failC_e (by decide) h0 hx) (fun u11 d9 r => pc_gd (fun _ => pc_some r)))
  unfold fX7_takeDeed
  refine pc_gd (fun _ => pc_ob (fun r e => ?_))
  have := gq hS (e := 3) (by decide +kernel) e
  subst this
  refine pc_gd (fun _ => pc_cb (wordAt_e hS (hC.tf h0.tf) hx.1 hx.2.2.1) (fun u d4 r => ?_))
  obtain ⟨e, hu⟩ := r
  subst e
  rw [hu]
  by_cases h20 : 20 ≤ ((KS t n) T).toInt
  · have eW := wd_some h20
    refine pc_if (fun q => absurd (eW.symm.trans q) (by simp)) (fun _ => ?_)
    refine pc_ob (fun r e => ?_)
    have er : r = 100000 + kk ((KS t n) T) := Option.some.inj (e.symm.trans eW)
    subst er
    rw [show 100000 + kk ((KS t n) T) - 100000 = kk ((KS t n) T) by omega]
    refine pc_gd (fun _ => pc_if (fun q => j24 ((wfv2 h20 b1).mp q)) (fun q => ?_))
    have h31 : ¬ ((KS t n) T).toInt < 31 := fun z => q ((wfv2 h20 b1).mpr z)
    have nn : ¬ (((KS t n) T).toInt < 31 ∨ 39 < ((KS t n) T).toInt) := by omega
    have eD : dS (KS t n) (T, 0) = if (KS t n) T = 35 ∨ (KS t n) T = 36 then pS (T, 0) else if (KS t n) T = 37 then mS (KS t n) 2 (lmS (KS t n) (mS (KS t n) 2 (pS (T, 0)))) else if (KS t n) T = 38 then mS (KS t n) 2 (mS (KS t n) 2 (pS (T, 0))) else mS (KS t n) 2 (pS (T, 0)) := by
      unfold dS
      rw [if_pos rfl, if_neg nn]
    have fb : ∀ {y : Nat × Int32}, ¬ y.2 = 0 → (if (KS t n) T = 35 ∨ (KS t n) T = 36 then y else if (KS t n) T = 37 then mS (KS t n) 2 (lmS (KS t n) (mS (KS t n) 2 y)) else if (KS t n) T = 38 then mS (KS t n) 2 (mS (KS t n) 2 y) else mS (KS t n) 2 y) = y := by
      intro y hy
      have a : ∀ {k : Int32}, mS (KS t n) k y = y := mS_n hy
      rw [a, lmS_n hy, a]
      split
      · rfl
      · split
        · rfl
        · split <;> rfl
    refine pc_seq (K := KS t n) (k := (KS t n) T) (T := T) (pc_r (takeToken_e hS (hC.tf h0.tf) h0 hx hw (hk_w rfl h20))) (fun q => by rw [mS_k] at q ⊢; rw [eD]; exact fb q) (fun d16 m1 m2 a b c _ => ?_)
    have eP : pS (T, 0) = (T + 1, 0) := mS_k.symm.trans m1
    rw [eP] at eD
    refine pc_ob (fun r e => ?_)
    have := gq hS (e := 8) (by decide +kernel) e
    subst this
    refine pc_gd (fun _ => pc_cv (tell8_e b a c) (fun d22 r => ?_))
    obtain ⟨s22, x22, w22⟩ := r
    have j67 : ((KS t n) T = 35 ∨ (KS t n) T = 36) → pc (fX7_takeDeed_J67 N g 2 d22) (fun u d' => CP d0 d' u (dS (KS t n) (T, 0)) (dNt (KS t n) (VS t n) T w)) := by
      intro q
      unfold fX7_takeDeed_J67
      rw [eD, if_pos q]
      have eN : dNt (KS t n) (VS t n) T w = w := by
        unfold dNt
        rw [if_pos q]
      rw [eN]
      exact pc_some ⟨x22, s22, Or.inl ⟨rfl, rfl, w22⟩⟩
    refine pc_gd (fun _ => pc_gd (fun _ => pc_if (fun q => j67 (Or.inl ((wd_i (by decide) (by decide)).mp q))) (fun q35 => pc_gd (fun _ => pc_if (fun q => j67 (Or.inr ((wd_i (by decide) (by decide)).mp q))) (fun q36 => ?_)))))
    have n35 : ¬ (KS t n) T = 35 := fun z => q35 ((wd_i (by decide) (by decide)).mpr z)
    have n36 : ¬ (KS t n) T = 36 := fun z => q36 ((wd_i (by decide) (by decide)).mpr z)
    have n3 : ¬ ((KS t n) T = 35 ∨ (KS t n) T = 36) := fun z => z.elim n35 n36
    rw [if_neg n3] at eD
    have eN : dNt (KS t n) (VS t n) T w = if (KS t n) T = 37 then nW (VS t n) ((KS t n) (T + 2)) (T + 3) (nW (VS t n) ((KS t n) T) (T + 1) w) else if (KS t n) T = 38 then nW (VS t n) ((KS t n) T) (T + 2) (nW (VS t n) ((KS t n) T) (T + 1) w) else nW (VS t n) ((KS t n) T) (T + 1) w := by
      unfold dNt
      rw [if_neg n3]
    have n3f : ∀ {y : Nat × Int32}, ¬ y.2 = 0 → (if (KS t n) T = 37 then mS (KS t n) 2 (lmS (KS t n) y) else if (KS t n) T = 38 then mS (KS t n) 2 y else y) = y := by
      intro y hy
      rw [lmS_n hy, mS_n hy]
      split
      · rfl
      · split <;> rfl
    have eD2 : dS (KS t n) (T, 0) = if (KS t n) T = 37 then mS (KS t n) 2 (lmS (KS t n) (mS (KS t n) 2 (T + 1, 0))) else if (KS t n) T = 38 then mS (KS t n) 2 (mS (KS t n) 2 (T + 1, 0)) else mS (KS t n) 2 (T + 1, 0) := eD
    refine pc_seq (K := KS t n) (k := 2) (T := T + 1) (takeNumber_e hS (hC.tf s22.tf) s22 x22 w22) (fun q => by rw [eD2]; exact n3f q) (fun d29 m1 m2 a b c _ => ?_)
    rw [m1] at eD2
    refine pc_bd (fun d33 e33 => ?_)
    have s33 := b.i e33 (Or.inr rfl)
    have x33 := a.i8 e33
    have w33 := c.i8 e33
    have eW1 : nNu (VS t n) (wfv 0 (kk ((KS t n) T))) (wfv 1 (kk ((KS t n) T))) (T + 1) w = nW (VS t n) ((KS t n) T) (T + 1) w := rfl
    rw [eW1] at w33
    refine pc_gd (fun _ => pc_if (fun q => ?_) (fun q37 => ?_))
    · have k37 : (KS t n) T = 37 := (wd_i (by decide) (by decide)).mp q
      rw [if_pos k37] at eD2 eN
      refine pc_cb (wordAt_e hS (hC.tf s33.tf) x33.1 x33.2.2.1) (fun u d48 r => ?_)
      obtain ⟨e, hu⟩ := r
      subst e
      rw [hu]
      have j138 : ((KS t n) (T + 2) = 33 ∨ (KS t n) (T + 2) = 32) → pc (fX7_takeDeed_J138 N g 2 (WD ((KS t n) (T + 2))) d48) (fun u d' => CP d0 d' u (dS (KS t n) (T, 0)) (dNt (KS t n) (VS t n) T w)) := by
        intro z
        have h20' : 20 ≤ ((KS t n) (T + 2)).toInt := by
          rcases z with z | z <;> rw [z] <;> decide
        have eL : lmS (KS t n) (T + 1 + 1, 0) = mS (KS t n) ((KS t n) (T + 2)) (T + 2, 0) := by
          rw [mS_k]
          unfold lmS
          rw [if_pos rfl, if_pos z]
        unfold fX7_takeDeed_J138
        refine pc_gd (fun _ => pc_seq (K := KS t n) (k := (KS t n) (T + 2)) (T := T + 2) (pc_r (takeToken_e hS (hC.tf s33.tf) s33 x33 w33 (hk_w rfl h20'))) (fun q => by rw [eD2, eL]; exact mS_n q) (fun d55 m1' m2' a' b' c' _ => ?_))
        rw [eL, m1'] at eD2
        refine pc_ob (fun r e => ?_)
        have := gq hS (e := 8) (by decide +kernel) e
        subst this
        have j166 : ∀ {v : Int32}, pc (fX7_takeDeed_J166 N g 2 (WD ((KS t n) (T + 2))) v 8 d55) (fun u d' => CP d0 d' u (dS (KS t n) (T, 0)) (dNt (KS t n) (VS t n) T w)) := by
          intro v
          unfold fX7_takeDeed_J166
          refine pc_gd (fun _ => pc_bd (fun d64 e64 => ?_))
          rw [eD2, eN]
          exact d181 hS h20' hC (b'.i e64 (Or.inr rfl)) (a'.i8 e64) (c'.i8 e64)
        exact pc_gd (fun _ => pc_gd (fun _ => pc_if (fun _ => j166) (fun _ => j166)))
      refine pc_gd (fun _ => pc_gd (fun _ => pc_if (fun q => j138 (Or.inl ((wd_i (by decide) (by decide)).mp q))) (fun q33 => pc_gd (fun _ => pc_if (fun q => j138 (Or.inr ((wd_i (by decide) (by decide)).mp q))) (fun q32 => ?_)))))
      have eL : lmS (KS t n) (T + 1 + 1, 0) = (T + 2, 1) := by
        unfold lmS
        rw [if_pos rfl, if_neg (fun z => z.elim (fun z => q33 ((wd_i (by decide) (by decide)).mpr z)) (fun z => q32 ((wd_i (by decide) (by decide)).mpr z)))]
      rw [eD2, eL, mS_n (show ¬ (1 : Int32) = 0 by decide)]
      exact pc_cb (failC_e (by decide) s33 x33) (fun u69 d67 r => pc_gd (fun _ => pc_some r))
    · have n37 : ¬ (KS t n) T = 37 := fun z => q37 ((wd_i (by decide) (by decide)).mpr z)
      rw [if_neg n37] at eD2 eN
      refine pc_gd (fun _ => pc_if (fun q => ?_) (fun q38 => ?_))
      · have k38 : (KS t n) T = 38 := (wd_i (by decide) (by decide)).mp q
        rw [if_pos k38] at eD2 eN
        rw [eD2, eN]
        exact d181 hS h20 hC s33 x33 w33
      · have n38 : ¬ (KS t n) T = 38 := fun z => q38 ((wd_i (by decide) (by decide)).mpr z)
        rw [if_neg n38] at eD2 eN
        rw [eD2, eN]
        exact pc_some ⟨x33, s33, Or.inl ⟨rfl, rfl, w33⟩⟩
  · rw [wd_none h20]
    exact pc_if (fun _ => j24 (by omega)) (fun q => absurd rfl q)
end DEED
