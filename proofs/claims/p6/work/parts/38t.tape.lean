/-! the tapes: both as long -/
theorem km_10 : cls 0 = 10 := by decide +kernel
theorem iv_0 {x y : Int32} (h : iv x 0 0) (k : iv y 0 0) : x = y := Int32.toInt_inj.mp ((Int.le_antisymm h.2 h.1).trans (Int.le_antisymm k.2 k.1).symm)
def TL (d : Ds) : Prop := dI d 0 1 = dI d 328 2
theorem tl_frm {M : Nat} {b : Nat → Int} {d0 d : Ds} (h : Inv M b d0 d) (h1 : Nat.testBit M (cdn 10 1) = false) (h2 : Nat.testBit M (cdn 11 2) = false) (t : TL d0) : TL d := by
  unfold TL
  rw [rdqc h km_10 h1, rdqc h mo_11 h2]
  exact t
theorem pc_of_ok {α : Type} {x : Option (α × Ds)} {P : α → Ds → Prop} (h : ok x P) : pc x P := by
  obtain ⟨a, d, e, p⟩ := h
  intro a2 d2 e2
  rw [e] at e2
  cases e2
  exact p
theorem ok_pc {α : Type} {x : Option (α × Ds)} {P Q : α → Ds → Prop} (h : ok x P) (q : pc x Q) : ok x (fun a d => P a d ∧ Q a d) := by
  obtain ⟨a, d, e, p⟩ := h
  exact ⟨a, d, e, p, q a d e⟩
theorem app4_e {g : Gs} (hS : Shp g) {x1 : Int32} {d : Ds} {l : Int} (h0 : (dI d 0 1).toInt = l) (hl : 0 ≤ l ∧ l + 4 ≤ 2000) : pc (fX11_appendFour 10000 g 0 x1 d) (fun _ d' => (dI d' 0 1).toInt = l + 4) := by
  have e1 : (1 : Int32).toInt = 1 := by decide
  have e0 : (0 : Int32).toInt = 0 := by decide
  have e8 : (-8 : Int32).toInt = -8 := by decide
  have e2 : (2000 : Int32).toInt = 2000 := by decide
  unfold fX11_appendFour
  unfold fX11_appendFour_L3
  refine pc_lp (fun a => ∃ k : Nat, k ≤ 4 ∧ a.1.toInt = 24 - 8 * (k : Int) ∧ (dI a.2 0 1).toInt = l + k) ?_ 10000 (24, d) ⟨0, by decide, (by decide : (24 : Int32).toInt = 24 - 8 * ((0 : Nat) : Int)), by show (dI d 0 1).toInt = _; omega⟩
  rintro K ⟨y2, dd⟩ ⟨k, hk, hy, hL⟩ hK
  dsimp only at hy hL hK ⊢
  unfold fX11_appendFour_B3
  refine pc_if (fun c => ?_) (fun c => ?_)
  · have c2 := Int32.lt_iff_toInt_lt.mp c
    unfold fX11_appendFour_J46
    exact pc_some (by omega)
  · have c2 := Int32.le_iff_toInt_le.mp (nlt c)
    refine pc_gd (fun _ => ?_)
    refine pc_if (fun c => ?_) (fun _ => ?_)
    · have c3 := Int32.le_iff_toInt_le.mp c
      exfalso
      omega
    · refine pc_ob (fun r4 e4 => ?_)
      obtain ⟨r, er, kr⟩ := sh_10_0 hS km_10
      have hr : r4 = r := by
        rw [er] at e4
        cases e4
        rfl
      refine pc_gd (fun _ => pc_gd (fun _ => ?_))
      refine pc_bd (fun d7 e7 => ?_)
      refine pc_bd (fun d8 e8' => ?_)
      refine pc_bd (fun u9 e9 => ?_)
      have q7 : dI d7 0 1 = dI dd 0 1 := rdq e7 (Or.inl (by rw [hr]; exact cl_ne kr km_10 (by decide)))
      have q8 : (dI d8 0 1).toInt = l + k + 1 := by
        rw [e8', sI_rd, if_pos ⟨rfl, rfl⟩, q7]
        exact z_add hL e1 (by omega) (by omega)
      have q9 := z_add hy e8 (by omega) (by omega)
      exact hK _ ⟨k + 1, by omega, by rw [e9, q9]; omega, by dsimp only; rw [q8]; omega⟩
theorem lays_e {g : Gs} (hS : Shp g) {x1 : Int32} {d : Ds} {l : Int} (h0 : (dI d 328 2).toInt = l) (hl : 0 ≤ l ∧ l + 4 ≤ 2000) : pc (fX12_lays 10000 g 328 x1 d) (fun _ d' => (dI d' 328 2).toInt = l + 4) := by
  have e1 : (1 : Int32).toInt = 1 := by decide
  have e0 : (0 : Int32).toInt = 0 := by decide
  have e8 : (-8 : Int32).toInt = -8 := by decide
  unfold fX12_lays
  unfold fX12_lays_L3
  refine pc_lp (fun a => ∃ k : Nat, k ≤ 4 ∧ a.1.toInt = 24 - 8 * (k : Int) ∧ (dI a.2 328 2).toInt = l + k) ?_ 10000 (24, d) ⟨0, by decide, (by decide : (24 : Int32).toInt = 24 - 8 * ((0 : Nat) : Int)), by show (dI d 328 2).toInt = _; omega⟩
  rintro K ⟨y2, dd⟩ ⟨k, hk, hy, hL⟩ hK
  dsimp only at hy hL hK ⊢
  unfold fX12_lays_B3
  refine pc_if (fun c => ?_) (fun c => ?_)
  · have c2 := Int32.lt_iff_toInt_lt.mp c
    exact pc_some (by omega)
  · have c2 := Int32.le_iff_toInt_le.mp (nlt c)
    refine pc_gd (fun _ => ?_)
    refine pc_ob (fun r4 e4 => ?_)
    obtain ⟨r, er, kr⟩ := sh_11_1 hS mo_11
    have hr : r4 = r := by
      rw [er] at e4
      cases e4
      rfl
    refine pc_gd (fun _ => pc_gd (fun _ => ?_))
    refine pc_bd (fun d7 e7 => ?_)
    refine pc_bd (fun d8 e8' => ?_)
    refine pc_bd (fun u9 e9 => ?_)
    have q7 : dI d7 328 2 = dI dd 328 2 := rdq e7 (Or.inl (by rw [hr]; exact cl_ne kr mo_11 (by decide)))
    have q8 : (dI d8 328 2).toInt = l + k + 1 := by
      rw [e8', sI_rd, if_pos ⟨rfl, rfl⟩, q7]
      exact z_add hL e1 (by omega) (by omega)
    have q9 := z_add hy e8 (by omega) (by omega)
    exact hK _ ⟨k + 1, by omega, by rw [e9, q9]; omega, by dsimp only; rw [q8]; omega⟩
/-- what a feeding answers, and leaves as length -/
def fdA (l u l' : Int32) : Prop := (l.toInt + 20 ≤ 2000 → u.toInt = l.toInt + 20 ∧ l'.toInt = l.toInt + 20) ∧ (¬ l.toInt + 20 ≤ 2000 → u = -1 ∧ l' = l)
theorem feed_e {g : Gs} (hS : Shp g) {x1 x2 x3 x4 x5 : Int32} {d : Ds} (h0 : iv (dI d 0 1) 0 2000) : pc (fX11_feed 10000 g 0 x1 x2 x3 x4 x5 d) (fun u d' => fdA (dI d 0 1) u (dI d' 0 1)) := by
  have e20 : (20 : Int32).toInt = 20 := by decide
  have e2 : (2000 : Int32).toInt = 2000 := by decide
  have h1 := h0.1
  have h2 := h0.2
  have q := z_add (x := dI d 0 1) (y := 20) rfl e20 (by omega) (by omega)
  unfold fX11_feed
  refine pc_gd (fun _ => ?_)
  refine pc_if (fun c => ?_) (fun c => ?_)
  · have c2 := Int32.le_iff_toInt_le.mp c
    rw [q, e2] at c2
    refine pc_cv (app4_e hS rfl (by omega)) (fun d3 r3 => ?_)
    refine pc_cv (app4_e hS r3 (by omega)) (fun d5 r5 => ?_)
    refine pc_cv (app4_e hS r5 (by omega)) (fun d7 r7 => ?_)
    refine pc_cv (app4_e hS r7 (by omega)) (fun d9 r9 => ?_)
    refine pc_cv (app4_e hS r9 (by omega)) (fun d11 r11 => ?_)
    exact pc_some ⟨fun _ => ⟨by omega, by omega⟩, fun z => absurd c2 z⟩
  · have c2 : ¬ (dI d 0 1).toInt + 20 ≤ 2000 := fun z => c (Int32.le_iff_toInt_le.mpr (by rw [q, e2]; exact z))
    exact pc_some ⟨fun z => absurd z c2, fun _ => ⟨rfl, rfl⟩⟩
theorem feedm_e {g : Gs} (hS : Shp g) {x1 x2 x3 x4 x5 : Int32} {d : Ds} (h0 : iv (dI d 328 2) 0 2000) : pc (fX12_feed 10000 g 328 x1 x2 x3 x4 x5 d) (fun u d' => fdA (dI d 328 2) u (dI d' 328 2)) := by
  have e20 : (20 : Int32).toInt = 20 := by decide
  have e2 : (2000 : Int32).toInt = 2000 := by decide
  have h1 := h0.1
  have h2 := h0.2
  have q := z_add (x := dI d 328 2) (y := 20) rfl e20 (by omega) (by omega)
  unfold fX12_feed
  refine pc_gd (fun _ => ?_)
  refine pc_if (fun c => ?_) (fun c => ?_)
  · have c2 := Int32.le_iff_toInt_le.mp c
    rw [q, e2] at c2
    refine pc_cv (lays_e hS rfl (by omega)) (fun d3 r3 => ?_)
    refine pc_cv (lays_e hS r3 (by omega)) (fun d5 r5 => ?_)
    refine pc_cv (lays_e hS r5 (by omega)) (fun d7 r7 => ?_)
    refine pc_cv (lays_e hS r7 (by omega)) (fun d9 r9 => ?_)
    refine pc_cv (lays_e hS r9 (by omega)) (fun d11 r11 => ?_)
    exact pc_some ⟨fun _ => ⟨by omega, by omega⟩, fun z => absurd c2 z⟩
  · have c2 : ¬ (dI d 328 2).toInt + 20 ≤ 2000 := fun z => c (Int32.le_iff_toInt_le.mpr (by rw [q, e2]; exact z))
    exact pc_some ⟨fun z => absurd z c2, fun _ => ⟨rfl, rfl⟩⟩
theorem fdA.u {l u l' v l'' : Int32} (h : fdA l u l') (k : fdA l v l'') : u = v ∧ l' = l'' := by
  by_cases c : l.toInt + 20 ≤ 2000
  · have h1 := h.1 c
    have k1 := k.1 c
    exact ⟨Int32.toInt_inj.mp (by omega), Int32.toInt_inj.mp (by omega)⟩
  · have h1 := h.2 c
    have k1 := k.2 c
    exact ⟨h1.1.trans k1.1.symm, h1.2.trans k1.2.symm⟩
/-- what going back answers, and leaves as length -/
def bkA (x l u l' : Int32) : Prop := u = (if ¬ x < 0 ∧ x ≤ l then l - x else -1) ∧ l' = (if ¬ x < 0 ∧ x ≤ l then l - x else l)
theorem back_e {g : Gs} {x1 : Int32} {d : Ds} : pc (fX11_back 10000 g 0 x1 d) (fun u d' => bkA x1 (dI d 0 1) u (dI d' 0 1)) := by
  have j12 : ¬ (¬ x1 < 0 ∧ x1 ≤ dI d 0 1) → pc (fX11_back_J12 10000 g 0 x1 d) (fun u d' => bkA x1 (dI d 0 1) u (dI d' 0 1)) := by
    intro h
    unfold fX11_back_J12
    exact pc_some ⟨by rw [if_neg h], by rw [if_neg h]⟩
  unfold fX11_back
  refine pc_if (fun c => j12 (fun z => z.1 c)) (fun c => ?_)
  refine pc_gd (fun _ => ?_)
  refine pc_if (fun c2 => ?_) (fun c2 => j12 (fun z => c2 z.2))
  refine pc_bd (fun d4 e4 => ?_)
  have q : dI d4 0 1 = dI d 0 1 - x1 := by rw [e4, sI_rd, if_pos ⟨rfl, rfl⟩]
  exact pc_some ⟨by rw [q, if_pos ⟨c, c2⟩], by rw [q, if_pos ⟨c, c2⟩]⟩
theorem backm_e {g : Gs} {x1 : Int32} {d : Ds} : pc (fX12_back 10000 g 328 x1 d) (fun u d' => bkA x1 (dI d 328 2) u (dI d' 328 2)) := by
  have j12 : ¬ (¬ x1 < 0 ∧ x1 ≤ dI d 328 2) → pc (fX12_back_J12 10000 g 328 x1 d) (fun u d' => bkA x1 (dI d 328 2) u (dI d' 328 2)) := by
    intro h
    unfold fX12_back_J12
    exact pc_some ⟨by rw [if_neg h], by rw [if_neg h]⟩
  unfold fX12_back
  refine pc_if (fun c => j12 (fun z => z.1 c)) (fun c => ?_)
  refine pc_gd (fun _ => ?_)
  refine pc_if (fun c2 => ?_) (fun c2 => j12 (fun z => c2 z.2))
  refine pc_bd (fun d4 e4 => ?_)
  have q : dI d4 328 2 = dI d 328 2 - x1 := by rw [e4, sI_rd, if_pos ⟨rfl, rfl⟩]
  exact pc_some ⟨by rw [q, if_pos ⟨c, c2⟩], by rw [q, if_pos ⟨c, c2⟩]⟩
theorem bkA.u {x l u l' v l'' : Int32} (h : bkA x l u l') (k : bkA x l v l'') : u = v ∧ l' = l'' := ⟨h.1.trans k.1.symm, h.2.trans k.2.symm⟩
