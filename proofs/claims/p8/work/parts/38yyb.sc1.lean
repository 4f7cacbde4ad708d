/-! a tick of the model -/
section TKS0
variable {a : SA} {bo se ba : Int32} {i k n : Nat}
theorem tk_un : (tkS (i + 1) bo se ba a).2.2.1 k = if k = i then (if hiB bo se ba a.2.1 a.2.2.1 i = true then 0 else unF se ba a.2.1 a.2.2.1 i) else (tkS i bo se ba a).2.2.1 k := by
  show (if k < i + 1 then _ else _) = if k = i then _ else (if k < i then _ else _)
  by_cases z : k = i
  · subst z
    rw [if_pos (Nat.lt_succ_self k), if_pos rfl]
  · rw [if_neg z]
    by_cases y : k < i
    · rw [if_pos y, if_pos (show k < i + 1 by omega)]
    · rw [if_neg y, if_neg (show ¬ k < i + 1 by omega)]
theorem tk_str : (tkS (i + 1) bo se ba a).2.2.2.1 k = if k = i ∧ hiB bo se ba a.2.1 a.2.2.1 i = true ∧ bN a.2.1 i = false then (tkS i bo se ba a).2.2.2.1 k + 1 else (tkS i bo se ba a).2.2.2.1 k := by
  show (if k < i + 1 ∧ hiB bo se ba a.2.1 a.2.2.1 k = true ∧ bN a.2.1 k = false then a.2.2.2.1 k + 1 else a.2.2.2.1 k) = if _ then (if k < i ∧ hiB bo se ba a.2.1 a.2.2.1 k = true ∧ bN a.2.1 k = false then a.2.2.2.1 k + 1 else a.2.2.2.1 k) + 1 else (if k < i ∧ hiB bo se ba a.2.1 a.2.2.1 k = true ∧ bN a.2.1 k = false then a.2.2.2.1 k + 1 else a.2.2.2.1 k)
  by_cases z : k = i
  · subst z
    rw [if_neg (fun (q : k < k ∧ _) => Nat.lt_irrefl k q.1)]
    by_cases h : hiB bo se ba a.2.1 a.2.2.1 k = true ∧ bN a.2.1 k = false
    · rw [if_pos ⟨Nat.lt_succ_self k, h⟩, if_pos ⟨rfl, h⟩]
    · rw [if_neg (fun q => h q.2), if_neg (fun q => h q.2)]
  · rw [if_neg (fun (q : k = i ∧ _) => z q.1)]
    by_cases y : k < i
    · simp only [y, show k < i + 1 by omega, true_and]
    · simp only [y, show ¬ k < i + 1 by omega, false_and]
theorem tk_lon : (tkS (i + 1) bo se ba a).2.2.2.2.1 k = if k = i ∧ hiB bo se ba a.2.1 a.2.2.1 i = true ∧ bN a.2.1 i = true then (if (tkS i bo se ba a).2.2.2.2.1 k < a.1 + 1 - (tkS i bo se ba a).2.2.2.2.2.1 k then a.1 + 1 - (tkS i bo se ba a).2.2.2.2.2.1 k else (tkS i bo se ba a).2.2.2.2.1 k) else (tkS i bo se ba a).2.2.2.2.1 k := by
  show (if k < i + 1 ∧ hiB bo se ba a.2.1 a.2.2.1 k = true ∧ bN a.2.1 k = true then (if a.2.2.2.2.1 k < a.1 + 1 - a.2.2.2.2.2.1 k then a.1 + 1 - a.2.2.2.2.2.1 k else a.2.2.2.2.1 k) else a.2.2.2.2.1 k) = if _ then (if (if k < i ∧ hiB bo se ba a.2.1 a.2.2.1 k = true ∧ bN a.2.1 k = true then _ else a.2.2.2.2.1 k) < a.1 + 1 - (if k < i ∧ hiB bo se ba a.2.1 a.2.2.1 k = true then _ else a.2.2.2.2.2.1 k) then a.1 + 1 - (if k < i ∧ hiB bo se ba a.2.1 a.2.2.1 k = true then _ else a.2.2.2.2.2.1 k) else (if k < i ∧ hiB bo se ba a.2.1 a.2.2.1 k = true ∧ bN a.2.1 k = true then _ else a.2.2.2.2.1 k)) else (if k < i ∧ hiB bo se ba a.2.1 a.2.2.1 k = true ∧ bN a.2.1 k = true then _ else a.2.2.2.2.1 k)
  by_cases z : k = i
  · subst z
    rw [if_neg (fun (q : k < k ∧ hiB bo se ba a.2.1 a.2.2.1 k = true ∧ bN a.2.1 k = true) => Nat.lt_irrefl k q.1), if_neg (fun (q : k < k ∧ hiB bo se ba a.2.1 a.2.2.1 k = true) => Nat.lt_irrefl k q.1)]
    by_cases h : hiB bo se ba a.2.1 a.2.2.1 k = true ∧ bN a.2.1 k = true
    · rw [if_pos ⟨Nat.lt_succ_self k, h⟩]
      exact (if_pos ⟨rfl, h⟩).symm
    · rw [if_neg (fun q => h q.2), if_neg (fun q => h q.2)]
  · rw [if_neg (fun (q : k = i ∧ _) => z q.1)]
    by_cases y : k < i
    · simp only [y, show k < i + 1 by omega, true_and]
    · simp only [y, show ¬ k < i + 1 by omega, false_and]
theorem tk_lat : (tkS (i + 1) bo se ba a).2.2.2.2.2.1 k = if k = i ∧ hiB bo se ba a.2.1 a.2.2.1 i = true then a.1 + 1 else (tkS i bo se ba a).2.2.2.2.2.1 k := by
  show (if k < i + 1 ∧ hiB bo se ba a.2.1 a.2.2.1 k = true then a.1 + 1 else a.2.2.2.2.2.1 k) = if _ then _ else (if k < i ∧ hiB bo se ba a.2.1 a.2.2.1 k = true then a.1 + 1 else a.2.2.2.2.2.1 k)
  by_cases z : k = i
  · subst z
    rw [if_neg (fun (q : k < k ∧ hiB bo se ba a.2.1 a.2.2.1 k = true) => Nat.lt_irrefl k q.1)]
    by_cases h : hiB bo se ba a.2.1 a.2.2.1 k = true
    · rw [if_pos ⟨Nat.lt_succ_self k, h⟩, if_pos ⟨rfl, h⟩]
    · rw [if_neg (fun q => h q.2), if_neg (fun q => h q.2)]
  · rw [if_neg (fun (q : k = i ∧ _) => z q.1)]
    by_cases y : k < i
    · simp only [y, show k < i + 1 by omega, true_and]
    · simp only [y, show ¬ k < i + 1 by omega, false_and]
theorem tk_z : (tkS 0 bo se ba a).2.2.1 k = a.2.2.1 k ∧ (tkS 0 bo se ba a).2.2.2.1 k = a.2.2.2.1 k ∧ (tkS 0 bo se ba a).2.2.2.2.1 k = a.2.2.2.2.1 k ∧ (tkS 0 bo se ba a).2.2.2.2.2.1 k = a.2.2.2.2.2.1 k := by
  simp [tkS]
theorem tk_at : (tkS i bo se ba a).2.2.1 i = a.2.2.1 i := if_neg (Nat.lt_irrefl i)
theorem un_rg (h : 0 ≤ (a.2.2.1 k).toInt ∧ (a.2.2.1 k).toInt < bo.toInt) (hb : bo.toInt ≤ 9) : 0 ≤ (unF se ba a.2.1 a.2.2.1 k).toInt ∧ (unF se ba a.2.1 a.2.2.1 k).toInt ≤ bo.toInt := by
  have e0 : (0 : Int32).toInt = 0 := by decide
  unfold unF
  by_cases z : difB se ba a.2.1 k = true
  · rw [if_pos z, z_add (b := 1) rfl (by decide) (by omega) (by omega)]
    omega
  · rw [if_neg z, e0]
    omega
theorem hi_iff (h : 0 ≤ (a.2.2.1 k).toInt ∧ (a.2.2.1 k).toInt < bo.toInt) (hb : bo.toInt ≤ 9) : unF se ba a.2.1 a.2.2.1 k = bo ↔ hiB bo se ba a.2.1 a.2.2.1 k = true := by
  have r := un_rg (se := se) (ba := ba) h hb
  unfold hiB
  rw [decide_eq_true_eq, Int32.le_iff_toInt_le]
  constructor
  · intro z
    rw [z]
    omega
  · intro z
    exact Int32.toInt_inj.mp (by omega)
end TKS0
/-- the model's row has it, but for the floats -/
def AGI (d : Ds) (a : SA) : Prop := dI d 336 354 = a.1 ∧ dI d 336 353 = a.2.1 ∧ ∀ k, k < 24 → dI d 336 (355 + k) = a.2.2.1 k ∧ dI d 336 (459 + k) = a.2.2.2.1 k ∧ dI d 336 (483 + k) = a.2.2.2.2.1 k ∧ dI d 336 (507 + k) = a.2.2.2.2.2.1 k
def UNL (n : Nat) (bo : Int32) (d : Ds) : Prop := ∀ k, k < n → 0 ≤ (dI d 336 (355 + k)).toInt ∧ (dI d 336 (355 + k)).toInt < bo.toInt
def DAT (d : Ds) : Prop := ∀ k, k < 24 → bN (dI d 336 353) k = true → dI d 336 (531 + k) = dI d 336 (507 + k)
/-- cells of the row that tell of the scan -/
def scJ (j : Nat) : Prop := 352 ≤ j ∧ j < 379 ∨ 459 ≤ j ∧ j < 555
theorem AGI.cg {d d' : Ds} {a : SA} (h : ∀ j, scJ j → dI d' 336 j = dI d 336 j) (hA : AGI d a) : AGI d' a := by
  unfold scJ at h
  refine ⟨by rw [h 354 (by omega)]; exact hA.1, by rw [h 353 (by omega)]; exact hA.2.1, fun k hk => ?_⟩
  rw [h (355 + k) (by omega), h (459 + k) (by omega), h (483 + k) (by omega), h (507 + k) (by omega)]
  exact hA.2.2 k hk
theorem UNL.cg {d d' : Ds} {n : Nat} {bo : Int32} (h : ∀ j, scJ j → dI d' 336 j = dI d 336 j) (hn : n ≤ 24) (hU : UNL n bo d) : UNL n bo d' := by
  unfold scJ at h
  intro k hk
  rw [h (355 + k) (by omega)]
  exact hU k hk
theorem DAT.cg {d d' : Ds} (h : ∀ j, scJ j → dI d' 336 j = dI d 336 j) (hD : DAT d) : DAT d' := by
  unfold scJ at h
  intro k hk
  rw [h 353 (by omega), h (531 + k) (by omega), h (507 + k) (by omega)]
  exact hD k hk
theorem sc_frm {M : Nat} {b : Nat → Int} {d d' : Ds} (h : Inv M b d d') (h1 : Nat.testBit M 3521 = false) (h2 : Nat.testBit M 3522 = false) (h3 : Nat.testBit M 3523 = false) (h4 : Nat.testBit M 3524 = false) (h7 : Nat.testBit M 3527 = false) : ∀ j, scJ j → dI d' 336 j = dI d 336 j := by
  intro j hj
  unfold scJ at hj
  refine h.2.1 336 j ?_
  rw [now_55, cdn, if_neg (by decide), if_pos rfl]
  by_cases z1 : j = 352
  · subst z1
    exact h1
  by_cases z2 : j = 353
  · subst z2
    exact h2
  by_cases z3 : j = 354
  · subst z3
    exact h3
  by_cases z4 : j < 379
  · have e : reg j = 4 := by
      have q1 := reg_m (show 355 ≤ j by omega)
      have q2 := reg_m (show j ≤ 378 by omega)
      have q3 : reg 355 = 4 := by decide
      have q4 : reg 378 = 4 := by decide
      omega
    rw [e]
    exact h4
  · have e : reg j = 7 := by
      have q1 := reg_m (show 459 ≤ j by omega)
      have q2 := reg_m (show j ≤ 554 by omega)
      have q3 : reg 459 = 7 := by decide
      have q4 : reg 554 = 7 := by decide
      omega
    rw [e]
    exact h7
section TKM
variable {d : Ds} {n : Nat}
theorem repeats_z {N : Nat} {g : Gs} (hS : Shp g) : pc (fX12_repeats N g 328 d) (fun _ d' => (∀ r j, ¬ (r = 336 ∧ 455 ≤ j ∧ j ≤ 458) → dI d' r j = dI d r j) ∧ ∀ r j, dF d' r j = dF d r j) := by
  have n457 : (457 : Int32).toNatClampNeg = 457 := by decide
  have n458 : (458 : Int32).toNatClampNeg = 458 := by decide
  unfold fX12_repeats fX12_repeats_J54
  refine pc_gd (fun _ => pc_ob (fun r e => ?_))
  have := gq hS (e := 336) (by decide +kernel) e
  subst this
  rw [n457, n458]
  refine pc_gd (fun _ => pc_gd (fun _ => pc_if (fun _ => pc_gd (fun _ => pc_gd (fun _ => pc_gd (fun _ => pc_bd (fun u9 _ => pc_if (fun _ => pc_some ⟨fun _ _ _ => rfl, fun _ _ => rfl⟩) (fun _ => pc_gd (fun _ => pc_gd (fun _ => pc_if (fun _ => pc_gd (fun _ => pc_bd (fun d15 e15 => pc_gd (fun _ => pc_bd (fun d17 e17 => pc_some ⟨fun r' j h => ?_, fun r' j => ?_⟩))))) (fun _ => pc_some ⟨fun _ _ _ => rfl, fun _ _ => rfl⟩))))))))) (fun _ => pc_some ⟨fun _ _ _ => rfl, fun _ _ => rfl⟩)))
  · rw [e17, sI_rd, if_neg (fun z => h (by omega)), e15, sI_rd, if_neg (fun z => h (by omega))]
  · rw [e17, e15]
    rfl
theorem L165_z {g : Gs} (hS : Shp g) {y1 : Int32} (hm : (dI d 336 0 * dI d 336 1).toInt = (n : Int)) (hn : n ≤ 24) : pc (fX12_ticks_L165 10000 g 328 (y1, 0, d)) (fun _ d' => (∀ k, dF d' 338 k = if k < n then stS (bN y1 k) (dF d 338 k) else dF d 338 k) ∧ ∀ r j, ¬ (r = 336 ∧ 455 ≤ j ∧ j ≤ 458) → dI d' r j = dI d r j) := by
  have e1 : (1 : Int32).toInt = 1 := by decide
  unfold fX12_ticks_L165
  refine pc_lp (fun (w : Int32 × Int32 × Ds) => w.1 = y1 ∧ ∃ i : Nat, i ≤ n ∧ w.2.1.toInt = (i : Int) ∧ (∀ k, dF w.2.2 338 k = if k < i then stS (bN y1 k) (dF d 338 k) else dF d 338 k) ∧ ∀ r j, dI w.2.2 r j = dI d r j) ?_ 10000 (y1, 0, d) ⟨rfl, 0, Nat.zero_le _, (by decide : (0 : Int32).toInt = ((0 : Nat) : Int)), fun k => (if_neg (Nat.not_lt_zero k)).symm, fun _ _ => rfl⟩
  rintro K ⟨z1, y4, dd⟩ ⟨ea, i, hi, hy, hF, hI⟩ hK
  dsimp only at ea hy hF hI hK ⊢
  subst ea
  unfold fX12_ticks_B165
  refine pc_gd (fun _ => pc_cb (manyM_y hS) (fun u22 d20 r => ?_))
  obtain ⟨e, hu⟩ := r
  subst e
  rw [hI, hI] at hu
  refine pc_if (fun q => ?_) (fun q => ?_)
  · have q2 := Int32.le_iff_toInt_le.mp q
    have ein : i = n := by rw [hu] at q2; omega
    subst ein
    refine pc_cv (repeats_z hS) (fun d24 r => pc_some ⟨fun k => ?_, fun r' j h => ?_⟩)
    · rw [r.2]
      exact hF k
    · rw [r.1 r' j h]
      exact hI r' j
  · have q2 := Int32.lt_iff_toInt_lt.mp (nle q)
    have hin : i < n := by rw [hu] at q2; omega
    refine pc_ob (fun r e => ?_)
    have := gq hS (e := 338) (by decide +kernel) e
    subst this
    have fi : dF d20 338 i = dF d 338 i := (hF i).trans (if_neg (Nat.lt_irrefl i))
    have nx : ∀ {dz : Ds}, dF dz 338 i = stS (bN z1 i) (dF d 338 i) → (∀ k, ¬ k = i → dF dz 338 k = dF d20 338 k) → (∀ r j, dI dz r j = dI d20 r j) → pc (fX12_ticks_J217 10000 g 328 K z1 y4 dz) (fun _ d' => (∀ k, dF d' 338 k = if k < n then stS (bN z1 k) (dF d 338 k) else dF d 338 k) ∧ ∀ r j, ¬ (r = 336 ∧ 455 ≤ j ∧ j ≤ 458) → dI d' r j = dI d r j) := by
      intro dz h1 h2 h3
      unfold fX12_ticks_J217
      refine pc_bd (fun u e => hK _ ⟨rfl, i + 1, by omega, ?_, fun k => ?_, fun r j => (h3 r j).trans (hI r j)⟩)
      · dsimp only
        rw [e, z_add hy e1 (by omega) (by omega)]
        omega
      · dsimp only
        by_cases z : k = i
        · subst z
          rw [if_pos (Nat.lt_succ_self k)]
          exact h1
        · rw [h2 k z, hF k]
          by_cases y : k < i
          · rw [if_pos y, if_pos (show k < i + 1 by omega)]
          · rw [if_neg y, if_neg (show ¬ k < i + 1 by omega)]
    rw [tn hy]
    refine pc_gd (fun _ => pc_gd (fun _ => pc_gd (fun _ => pc_bd (fun u30 e30 => pc_bd (fun d31 e31 => pc_cb (hasM_y (k := i) hy (by omega)) (fun u34 d32 r => ?_))))))
    obtain ⟨e, hb⟩ := r
    subst e
    have v31 : dF d32 338 i = u30 := by rw [e31, sF_rd, if_pos ⟨rfl, rfl⟩]
    have f31 : ∀ k, ¬ k = i → dF d32 338 k = dF d20 338 k := fun k hk => by rw [e31, sF_rd, if_neg (fun z => hk z.2)]
    have i31 : ∀ r j, dI d32 r j = dI d20 r j := fun r j => rdqF e31
    rw [fi] at e30
    unfold stS at nx
    cases hbb : bN z1 i <;> rw [hbb] at hb nx <;> rw [hb]
    · exact pc_if (fun _ => nx (by rw [v31, e30]; rfl) f31 i31) (fun z => absurd rfl z)
    · refine pc_if (fun z => absurd z (by decide)) (fun _ => pc_gd (fun _ => pc_bd (fun u38 e38 => pc_bd (fun d39 e39 => nx ?_ (fun k hk => ?_) (fun r j => (rdqF e39).trans (i31 r j))))))
      · rw [e39, sF_rd, if_pos ⟨rfl, rfl⟩, e38, v31, e30]
        rfl
      · rw [e39, sF_rd, if_neg (fun z => hk z.2)]
        exact f31 k hk
theorem changesM_z {N : Nat} {g : Gs} (hS : Shp g) {y : Int32} {k q : Nat} (hy : y.toInt = (k : Int)) (hk : k < 24) (hQ : (dI d 336 557).toInt = (q : Int)) (hq : q ≤ 2500) : pc (fX12_changes N g 328 y d) (fun _ d' => dI d' 336 (355 + k) = 0 ∧ dI d' 336 353 = (dI d 336 353 ^^^ ((1 : Int32) <<< (Int32.ofNat k &&& 31))) ∧ dI d' 336 (507 + k) = dI d 336 354 ∧ (bN (dI d 336 353) k = false → dI d' 336 (459 + k) = dI d 336 (459 + k) + 1 ∧ dI d' 336 (483 + k) = dI d 336 (483 + k) ∧ dI d' 336 (531 + k) = dI d 336 354) ∧ (bN (dI d 336 353) k = true → dI d' 336 (459 + k) = dI d 336 (459 + k) ∧ dI d' 336 (483 + k) = (if dI d 336 (483 + k) < dI d 336 354 - dI d 336 (531 + k) then dI d 336 354 - dI d 336 (531 + k) else dI d 336 (483 + k))) ∧ (∀ j, j < 555 → ¬ j = 353 → ¬ (j = 355 + k ∨ j = 459 + k ∨ j = 483 + k ∨ j = 507 + k ∨ j = 531 + k) → dI d' 336 j = dI d 336 j) ∧ ∀ r j, dF d' r j = dF d r j) := by
  have n353 : (353 : Int32).toNatClampNeg = 353 := by decide
  have n354 : (354 : Int32).toNatClampNeg = 354 := by decide
  have n556 : (556 : Int32).toNatClampNeg = 556 := by decide
  have n557 : (557 : Int32).toNatClampNeg = 557 := by decide
  have ix : ∀ {c : Int32} {m : Nat}, c.toInt = (m : Int) → m < 1000 → (c + y).toNatClampNeg = m + k := fun hc hm => tn (by rw [z_add hc hy (by omega) (by omega)]; omega)
  have i355 := ix (c := 355) (m := 355) (by decide) (by decide)
  have i459 := ix (c := 459) (m := 459) (by decide) (by decide)
  have i483 := ix (c := 483) (m := 483) (by decide) (by decide)
  have i507 := ix (c := 507) (m := 507) (by decide) (by decide)
  have i531 := ix (c := 531) (m := 531) (by decide) (by decide)
  unfold fX12_changes
  refine pc_gd (fun _ => pc_ob (fun r e => ?_))
  have := gq hS (e := 336) (by decide +kernel) e
  subst this
  rw [n353, n557, i355, ofN hy (by omega)]
  rw [ofN hy (by omega)] at i355 i459 i483 i507 i531
  refine pc_gd (fun _ => pc_gd (fun _ => pc_bd (fun d5 e5 => pc_gd (fun _ => pc_bd (fun d7 e7 => pc_cb (hasM_y (k := k) (Int32.toInt_ofNat_of_lt (by omega)) (by omega)) (fun u10 d8 r => ?_))))))
  obtain ⟨e, hu⟩ := r
  subst e
  have f8 : ∀ j, ¬ j = 353 → ¬ j = 355 + k → dI d8 336 j = dI d 336 j := fun j h1 h2 => by rw [rdq e7 (Or.inr h1), rdq e5 (Or.inr h2)]
  have v353 : dI d8 336 353 = (dI d 336 353 ^^^ ((1 : Int32) <<< (Int32.ofNat k &&& 31))) := by
    rw [e7, sI_rd, if_pos ⟨rfl, rfl⟩, rdq e5 (Or.inr (by omega))]
  have v355 : dI d8 336 (355 + k) = 0 := by
    rw [rdq e7 (Or.inr (by omega)), e5, sI_rd, if_pos ⟨rfl, rfl⟩]
  have F8 : ∀ r j, dF d8 r j = dF d r j := fun r j => by rw [e7, e5]; rfl
  have hb : bN (dI d8 336 353) k = !bN (dI d 336 353) k := by
    rw [v353, bN_xor, bN_1 (by omega) (by omega), decide_eq_true rfl, Bool.xor_true]
  rw [hb] at hu
  refine pc_gd (fun _ => pc_bd (fun u12 e12 => ?_))
  have h12 : u12.toInt = ((1678 + 3 * q : Nat) : Int) := by
    rw [e12, f8 557 (by decide) (by omega), z_add (a := 1678) (b := 3 * (q : Int)) (by decide) (z_mul (a := 3) (by decide) hQ (by omega) (by omega)) (by omega) (by omega)]
    omega
  have h13 : (u12 + 1).toInt = ((1679 + 3 * q : Nat) : Int) := by rw [z_add h12 (b := 1) (by decide) (by omega) (by omega)]; omega
  have h14 : (u12 + 2).toInt = ((1680 + 3 * q : Nat) : Int) := by rw [z_add h12 (b := 2) (by decide) (by omega) (by omega)]; omega
  rw [tn h12]
  refine pc_gd (fun _ => pc_bd (fun d14 e14 => ?_))
  have j76 : ∀ {z0 : Int32}, pc (fX12_changes_J76 N g 328 (Int32.ofNat k) u10 u12 z0 (u12 + 1) 336 d14) (fun _ d' => dI d' 336 (355 + k) = 0 ∧ dI d' 336 353 = (dI d 336 353 ^^^ ((1 : Int32) <<< (Int32.ofNat k &&& 31))) ∧ dI d' 336 (507 + k) = dI d 336 354 ∧ (bN (dI d 336 353) k = false → dI d' 336 (459 + k) = dI d 336 (459 + k) + 1 ∧ dI d' 336 (483 + k) = dI d 336 (483 + k) ∧ dI d' 336 (531 + k) = dI d 336 354) ∧ (bN (dI d 336 353) k = true → dI d' 336 (459 + k) = dI d 336 (459 + k) ∧ dI d' 336 (483 + k) = (if dI d 336 (483 + k) < dI d 336 354 - dI d 336 (531 + k) then dI d 336 354 - dI d 336 (531 + k) else dI d 336 (483 + k))) ∧ (∀ j, j < 555 → ¬ j = 353 → ¬ (j = 355 + k ∨ j = 459 + k ∨ j = 483 + k ∨ j = 507 + k ∨ j = 531 + k) → dI d' 336 j = dI d 336 j) ∧ ∀ r j, dF d' r j = dF d r j) := by
    intro z0
    unfold fX12_changes_J76
    rw [tn h13]
    refine pc_gd (fun _ => pc_gd (fun _ => pc_bd (fun d18 e18 => pc_gd (fun _ => pc_ob (fun r e => ?_)))))
    have := gq hS (e := 336) (by decide +kernel) e
    subst this
    rw [n354, n556, n557, tn h14, i459, i507, i531]
    refine pc_gd (fun _ => pc_gd (fun _ => pc_gd (fun _ => pc_bd (fun d24 e24 => pc_gd (fun _ => pc_bd (fun d26 e26 => pc_gd (fun _ => pc_bd (fun d28 e28 => pc_gd (fun _ => pc_bd (fun d30 e30 => ?_))))))))))
    have f28 : ∀ j, j < 555 → dI d28 336 j = dI d8 336 j := fun j h => by
      rw [rdq e28 (Or.inr (by omega)), rdq e26 (Or.inr (by omega)), rdq e24 (Or.inr (by omega)), rdq e18 (Or.inr (by omega)), rdq e14 (Or.inr (by omega))]
    have v30 : dI d30 336 (507 + k) = dI d 336 354 := by
      rw [e30, sI_rd, if_pos ⟨rfl, rfl⟩, f28 354 (by decide), f8 354 (by decide) (by omega)]
    have f30 : ∀ j, j < 555 → ¬ j = 507 + k → dI d30 336 j = dI d8 336 j := fun j h h' => by
      rw [rdq e30 (Or.inr h'), f28 j h]
    have F30 : ∀ r j, dF d30 r j = dF d r j := fun r j => by
      rw [e30, e28, e26, e24, e18, e14]
      exact F8 r j
    have g30 : ∀ j, j < 555 → ¬ j = 507 + k → ¬ j = 353 → ¬ j = 355 + k → dI d30 336 j = dI d 336 j := fun j h1 h2 h3 h4 => by
      rw [f30 j h1 h2, f8 j h3 h4]
    unfold fX12_changes_J222
    cases hd : bN (dI d 336 353) k <;> rw [hd] at hu <;> rw [hu]
    · refine pc_if (fun z => absurd z (by decide)) (fun _ => pc_gd (fun _ => pc_bd (fun d41 e41 => pc_gd (fun _ => pc_bd (fun d43 e43 => pc_some ⟨?_, ?_, ?_, fun _ => ⟨?_, ?_, ?_⟩, fun z => absurd z (by decide), fun j h1 h2 h3 => ?_, fun r j => ?_⟩)))))
      · rw [rdq e43 (Or.inr (by omega)), rdq e41 (Or.inr (by omega)), f30 _ (by omega) (by omega)]
        exact v355
      · rw [rdq e43 (Or.inr (by omega)), rdq e41 (Or.inr (by omega)), f30 _ (by omega) (by omega)]
        exact v353
      · rw [rdq e43 (Or.inr (by omega)), rdq e41 (Or.inr (by omega))]
        exact v30
      · rw [rdq e43 (Or.inr (by omega)), e41, sI_rd, if_pos ⟨rfl, rfl⟩, g30 _ (by omega) (by omega) (by omega) (by omega)]
      · rw [rdq e43 (Or.inr (by omega)), rdq e41 (Or.inr (by omega)), g30 _ (by omega) (by omega) (by omega) (by omega)]
      · rw [e43, sI_rd, if_pos ⟨rfl, rfl⟩, rdq e41 (Or.inr (by omega)), g30 _ (by omega) (by omega) (by omega) (by omega)]
      · rw [rdq e43 (Or.inr (by omega)), rdq e41 (Or.inr (by omega)), g30 _ h1 (by omega) h2 (by omega)]
      · rw [e43, e41]
        exact F30 r j
    · refine pc_if (fun _ => pc_gd (fun _ => pc_bd (fun u33 e33 => ?_))) (fun z => absurd rfl z)
      rw [g30 354 (by decide) (by omega) (by decide) (by omega), g30 (531 + k) (by omega) (by omega) (by omega) (by omega)] at e33
      unfold fX12_changes_J195 fX12_changes_J222
      refine pc_gd (fun _ => pc_ob (fun r e => ?_))
      have := gq hS (e := 336) (by decide +kernel) e
      subst this
      rw [i483, g30 (483 + k) (by omega) (by omega) (by omega) (by omega)]
      refine pc_gd (fun _ => pc_gd (fun _ => pc_if (fun z => pc_some ⟨?_, ?_, v30, fun z => absurd z (by decide), fun _ => ⟨?_, ?_⟩, fun j h1 h2 h3 => ?_, F30⟩) (fun z => pc_bd (fun d39 e39 => pc_some ⟨?_, ?_, ?_, fun z => absurd z (by decide), fun _ => ⟨?_, ?_⟩, fun j h1 h2 h3 => ?_, fun r j => ?_⟩))))
      · rw [f30 _ (by omega) (by omega)]
        exact v355
      · rw [f30 _ (by omega) (by omega)]
        exact v353
      · rw [g30 _ (by omega) (by omega) (by omega) (by omega)]
      · rw [g30 _ (by omega) (by omega) (by omega) (by omega), ← e33, if_neg (fun w => absurd (Int32.lt_iff_toInt_lt.mp w) (by have := Int32.le_iff_toInt_le.mp z; omega))]
      · rw [g30 _ h1 (by omega) h2 (by omega)]
      · rw [rdq e39 (Or.inr (by omega)), f30 _ (by omega) (by omega)]
        exact v355
      · rw [rdq e39 (Or.inr (by omega)), f30 _ (by omega) (by omega)]
        exact v353
      · rw [rdq e39 (Or.inr (by omega))]
        exact v30
      · rw [rdq e39 (Or.inr (by omega)), g30 _ (by omega) (by omega) (by omega) (by omega)]
      · rw [e39, sI_rd, if_pos ⟨rfl, rfl⟩, ← e33, if_pos (nle z)]
      · rw [rdq e39 (Or.inr (by omega)), g30 _ h1 (by omega) h2 (by omega)]
      · rw [e39]
        exact F30 r j
  exact pc_if (fun _ => j76) (fun _ => j76)
theorem L139_z {g : Gs} (hS : Shp g) {b B : Nat → Int} {d0 : Ds} {y1 : Int32} (hlb : LeB b B 336 (17 * qQ d)) (hP : PLf (rw_ d0)) (hA : QA (rw_ d)) (hI : Inv m_sX12_ticks__11 b d0 d) (hm : (dI d 336 0 * dI d 336 1).toInt = (n : Int)) (hn : n ≤ 24) : pc (fX12_ticks_L139 10000 g 328 (y1, 1, d)) (fun _ d' => (∀ k, dF d' 338 k = if k < n then stS (bN y1 k) (dF d 338 k) else dF d 338 k) ∧ ∀ j, scJ j → dI d' 336 j = dI d 336 j) := by
  have hx0 : cls 328 = 11 := by decide +kernel
  unfold fX12_ticks_L139
  refine pc_lp (fun (a : Int32 × Int32 × Ds) => a.1 = y1 ∧ ∃ b1, Inv m_sX12_ticks__11 b1 d0 a.2.2 ∧ LeB b1 B 336 (17 * qQ a.2.2) ∧ QA (rw_ a.2.2) ∧ (∀ j, j < 352 → dI a.2.2 336 j = dI d 336 j) ∧ (∀ j, scJ j → dI a.2.2 336 j = dI d 336 j) ∧ ∀ j, dF a.2.2 338 j = dF d 338 j) ?_ 10000 (y1, 1, d) ⟨rfl, b, hI, hlb, hA, fun _ _ => rfl, fun _ _ => rfl, fun _ => rfl⟩
  rintro K ⟨z1, y3, dd⟩ ⟨ea, b1, hI, hl, hA, hlo, hsc, hF⟩ hK
  dsimp only at ea hI hl hA hlo hsc hF hK ⊢
  subst ea
  have j162 : pc (fX12_ticks_J162 10000 g 328 z1 dd) (fun _ d' => (∀ k, dF d' 338 k = if k < n then stS (bN z1 k) (dF d 338 k) else dF d 338 k) ∧ ∀ j, scJ j → dI d' 336 j = dI d 336 j) := by
    unfold fX12_ticks_J162
    refine pc_mono (L165_z hS (n := n) (by rw [hlo 0 (by decide), hlo 1 (by decide)]; exact hm) hn) (fun u d' r => ⟨fun k => ?_, fun j hj => ?_⟩)
    · rw [r.1 k, hF k]
    · rw [r.2 336 j (by unfold scJ at hj; omega)]
      exact hsc j hj
  unfold fX12_ticks_B139
  refine pc_if (fun _ => j162) (fun _ => pc_gd (fun _ => pc_ob (fun r e => ?_)))
  have := gq hS (e := 336) (by decide +kernel) e
  subst this
  have q0 : (dI dd 336 (557 : Int32).toNatClampNeg).toInt = qQ dd := by rw [e557]; rfl
  have z0 : (0 : Int32).toInt = 0 := by decide
  refine pc_gd (fun _ => pc_gd (fun _ => pc_if (fun _ => j162) (fun c2 => ?_)))
  have c3 := Int32.lt_iff_toInt_lt.mp (nle c2)
  rw [q0, z0] at c3
  have hQ := qQ_iv hI.1
  refine pc_cb (pc_and (pc_of_ok (sX12_works_c hS (hl.use (k' := 17) ⟨by decide, by omega⟩) hx0 (PLf_frm (lo_frm hI (by decide +kernel)) hP) hA (by omega) hI.1)) (wV_fX12_works (d0 := dd) 10000 g dd hS FQV.rf)) (fun u47 d45 r => ?_)
  obtain ⟨⟨h45, hr⟩, hV⟩ := r
  have fl : ∀ j, dF d45 338 j = dF d 338 j := fun j => (hV.2 338 j (by decide)).trans (hF j)
  have lo : ∀ j, j < 352 → dI d45 336 j = dI d 336 j := fun j hj => (lo_frm h45 (by decide +kernel) j hj).trans (hlo j hj)
  have sc : ∀ j, scJ j → dI d45 336 j = dI d 336 j := fun j hj => (sc_frm h45 (by decide +kernel) (by decide +kernel) (by decide +kernel) (by decide +kernel) (by decide +kernel) j hj).trans (hsc j hj)
  rcases hr with ⟨hu, hle⟩ | ⟨hu, hd, hw⟩
  · have hle1 := hle.1
    have hle2 := hle.2.1
    exact hK _ ⟨rfl, _, Inv.call hI h45 (by decide +kernel), (LeB.rest (k' := 17) hl ⟨by decide, by omega⟩).w (by dsimp only; omega), hle.2.2.2 hA, lo, sc, fl⟩
  · subst hd
    exact hK _ ⟨rfl, b1, hI, hl, hA, lo, sc, fl⟩
theorem L33_z {g : Gs} (hS : Shp g) {b B : Nat → Int} {d0 : Ds} {a : SA} {bo se ba : Int32} (hlb : LeB b B 336 42500) (hP : PLf (rw_ d0)) (ht : tsI 0 (rw_ d)) (hI : Inv m_sX12_ticks__11 b d0 d) (hm : (dI d 336 0 * dI d 336 1).toInt = (n : Int)) (hn : n ≤ 24) (hbo : dI d 336 4 = bo) (hb9 : bo.toInt ≤ 9) (hA : AGI d (tkS 0 bo se ba a)) (hU : UNL n bo d) (hD : DAT d) : pc (fX12_ticks_L33 10000 g 328 (se, ba, 0, d)) (fun _ d' => AGI d' (tkS n bo se ba a) ∧ UNL n bo d' ∧ DAT d' ∧ ∀ k, dF d' 338 k = if k < n then stS (bN se k) (dF d 338 k) else dF d 338 k) := by
  have hx0 : cls 328 = 11 := by decide +kernel
  have e1 : (1 : Int32).toInt = 1 := by decide
  unfold fX12_ticks_L33
  refine pc_lp (fun (w : Int32 × Int32 × Int32 × Ds) => w.1 = se ∧ w.2.1 = ba ∧ ∃ i : Nat, i ≤ n ∧ w.2.2.1.toInt = (i : Int) ∧ Inv m_sX12_ticks__11 b d0 w.2.2.2 ∧ tsI (i : Int) (rw_ w.2.2.2) ∧ AGI w.2.2.2 (tkS i bo se ba a) ∧ UNL n bo w.2.2.2 ∧ DAT w.2.2.2 ∧ (∀ j, j < 352 → dI w.2.2.2 336 j = dI d 336 j) ∧ ∀ r j, dF w.2.2.2 r j = dF d r j) ?_ 10000 (se, ba, 0, d) ⟨rfl, rfl, 0, Nat.zero_le _, (by decide : (0 : Int32).toInt = ((0 : Nat) : Int)), hI, ht, hA, hU, hD, fun _ _ => rfl, fun _ _ => rfl⟩
  rintro K ⟨y1, y2, y3, dd⟩ ⟨ea, eb, i, hi, hy, hI, ht, hA, hU, hD, hlo, hF⟩ hK
  dsimp only at ea eb hy hI ht hA hU hD hlo hF hK ⊢
  subst ea
  subst eb
  unfold fX12_ticks_B33
  refine pc_gd (fun _ => pc_cb (manyM_y hS) (fun u16 d14 r => ?_))
  obtain ⟨e, hu⟩ := r
  subst e
  have wm : (dI d14 336 0 * dI d14 336 1).toInt = (n : Int) := by rw [hlo 0 (by decide), hlo 1 (by decide)]; exact hm
  refine pc_if (fun q => ?_) (fun q => ?_)
  · have q2 := Int32.le_iff_toInt_le.mp q
    have ein : i = n := by rw [hu] at q2; omega
    subst ein
    have hQ : qQ d14 ≤ 2500 := (qQ_iv hI.1).2
    refine pc_mono (L139_z hS (hlb.w (by omega)) hP ht.1 hI wm hn) (fun u d' r => ⟨AGI.cg r.2 hA, UNL.cg r.2 hn hU, DAT.cg r.2 hD, fun k => ?_⟩)
    rw [r.1 k, hF]
  · have q2 := Int32.lt_iff_toInt_lt.mp (nle q)
    have hin : i < n := by rw [hu] at q2; omega
    have h3 : iv y3 0 23 := ⟨by omega, by omega⟩
    have i355 := iv_add (l := 355) (h := 378) (by decide : iv (355 : Int32) 355 355) h3 (by decide)
    have x355 : ((355 : Int32) + y3).toNatClampNeg = 355 + i := tn (by rw [z_add (a := 355) (by decide) hy (by omega) (by omega)]; omega)
    have n4 : (4 : Int32).toNatClampNeg = 4 := by decide
    have n353 : (353 : Int32).toNatClampNeg = 353 := by decide
    have ai := hA.2.2 i (by omega)
    rw [tk_at] at ai
    have ui : 0 ≤ (a.2.2.1 i).toInt ∧ (a.2.2.1 i).toInt < bo.toInt := by
      have := hU i hin
      rw [ai.1] at this
      exact this
    have b3 : bN (dI d14 336 353) i = bN a.2.1 i := by
      rw [hA.2.1]
      exact dnF_hi i (by omega) i (Nat.le_refl i) (by omega)
    have hr := un_rg (se := y1) (ba := y2) ui hb9
    have hh := hi_iff (se := y1) (ba := y2) ui hb9
    have j131 : ∀ {de : Ds}, Inv m_sX12_ticks__11 b d0 de → tsI ((i : Int) + 1) (rw_ de) → AGI de (tkS (i + 1) bo y1 y2 a) → UNL n bo de → DAT de → (∀ j, j < 352 → dI de 336 j = dI d14 336 j) → (∀ r j, dF de r j = dF d14 r j) → pc (fX12_ticks_J131 10000 g 328 K y1 y2 y3 de) (fun _ d' => AGI d' (tkS n bo y1 y2 a) ∧ UNL n bo d' ∧ DAT d' ∧ ∀ k, dF d' 338 k = if k < n then stS (bN y1 k) (dF d 338 k) else dF d 338 k) := by
      intro de h1 h2 h3 h4 h5 h6 h7
      unfold fX12_ticks_J131
      refine pc_bd (fun u e => hK _ ⟨rfl, rfl, i + 1, by omega, ?_, h1, h2, h3, h4, h5, fun j hj => (h6 j hj).trans (hlo j hj), fun r j => (h7 r j).trans (hF r j)⟩)
      dsimp only
      rw [e, z_add hy e1 (by omega) (by omega)]
      omega
    have j106 : ∀ {z0 : Int32}, z0 = unF y1 y2 a.2.1 a.2.2.1 i → pc (fX12_ticks_J106 10000 g 328 K y1 y2 y3 z0 ((355 : Int32) + y3) 336 d14) (fun _ d' => AGI d' (tkS n bo y1 y2 a) ∧ UNL n bo d' ∧ DAT d' ∧ ∀ k, dF d' 338 k = if k < n then stS (bN y1 k) (dF d 338 k) else dF d 338 k) := by
      intro z0 hz
      unfold fX12_ticks_J106
      refine pc_gd (fun _ => pc_gd (fun _ => pc_bd (fun d57 e57 => ?_)))
      have h57 := Inv.set e57 hI (by rw [now_55]; exact okN_b i355 (by decide)) (mN (n := 4) now_55 i355 (by decide) (by decide +kernel)) (nN now_55 i355 (by decide +kernel))
      have s57 := qs_w e57 i355 (by decide)
      have t57 := tsI_congr s57 ht
      rw [x355] at e57
      have f57 : ∀ j, ¬ j = 355 + i → dI d57 336 j = dI d14 336 j := fun j h => rdq e57 (Or.inr h)
      have v57 : dI d57 336 (355 + i) = unF y1 y2 a.2.1 a.2.2.1 i := by rw [e57, sI_rd, if_pos ⟨rfl, rfl⟩, hz]
      have F57 : ∀ r j, dF d57 r j = dF d14 r j := fun r j => by rw [e57]; rfl
      refine pc_gd (fun _ => pc_ob (fun r e => ?_))
      have := gq hS (e := 336) (by decide +kernel) e
      subst this
      rw [x355, n4, v57, f57 4 (by omega), hlo 4 (by decide), hbo]
      have hq0 : 0 ≤ fQ (rw_ d57) := (qQ_iv h57.1).1
      have hq1 : qQ d57 ≤ 2500 := (qQ_iv h57.1).2
      refine pc_gd (fun _ => pc_gd (fun _ => pc_gd (fun _ => pc_if (fun hit => ?_) (fun mis => ?_))))
      · have hhi := hh.mp hit
        have hqq : (dI d57 336 557).toInt = (((qQ d57).toNat : Nat) : Int) := by
          show qQ d57 = _
          have : 0 ≤ qQ d57 := hq0
          omega
        refine pc_cv (pc_and (pc_of_ok (sX12_changes_c hS hx0 h3 (tsI_q t57 hq0 (by omega)) h57.1)) (changesM_z hS hy (by omega) hqq (by omega))) (fun d65 r => ?_)
        obtain ⟨⟨h65, e, he, hs⟩, c1, c2, c3, c4, c5, c6, c7⟩ := r
        rw [f57 353 (by omega)] at c2 c4 c5
        rw [f57 354 (by omega)] at c3 c4 c5
        rw [f57 (459 + i) (by omega), f57 (483 + i) (by omega)] at c4 c5
        rw [f57 (531 + i) (by omega)] at c5
        rw [b3] at c4 c5
        have ks : tsI ((i : Int) + 1) (rw_ d65) := tsI_congr hs (tsI_chg hq0 (by omega) h3 (fun i hi => kq_ h57.1 hi) he t57)
        have o6 : ∀ j, j < 555 → ¬ j = 353 → ¬ (j = 355 + i ∨ j = 459 + i ∨ j = 483 + i ∨ j = 507 + i ∨ j = 531 + i) → dI d65 336 j = dI d14 336 j := fun j p1 p2 p3 => (c6 j p1 p2 p3).trans (f57 j (by omega))
        have t4 : dI d14 336 354 = a.1 + 1 := hA.1
        refine j131 (Inv.call h57 h65 (by decide +kernel)) ks ⟨?_, ?_, fun k hk => ⟨?_, ?_, ?_, ?_⟩⟩ (fun k hk => ?_) (fun k hk => ?_) (fun j hj => o6 j (by omega) (by omega) (by omega)) (fun r j => (c7 r j).trans (F57 r j))
        · rw [o6 354 (by decide) (by decide) (by omega)]
          exact hA.1
        · rw [c2, hA.2.1]
          exact (if_pos hhi).symm
        · rw [tk_un]
          by_cases z : k = i
          · rw [if_pos z, if_pos hhi, z]
            exact c1
          · rw [if_neg z, o6 (355 + k) (by omega) (by omega) (by omega)]
            exact (hA.2.2 k hk).1
        · rw [tk_str]
          by_cases z : k = i
          · subst z
            rw [← (hA.2.2 k hk).2.1]
            cases hb : bN a.2.1 k
            · rw [if_pos ⟨rfl, hhi, rfl⟩]
              exact (c4 hb).1
            · rw [if_neg (fun w => absurd w.2.2 (by decide))]
              exact (c5 hb).1
          · rw [if_neg (fun w => z w.1), o6 (459 + k) (by omega) (by omega) (by omega)]
            exact (hA.2.2 k hk).2.1
        · rw [tk_lon]
          by_cases z : k = i
          · subst z
            rw [← (hA.2.2 k hk).2.2.1, ← (hA.2.2 k hk).2.2.2]
            cases hb : bN a.2.1 k
            · rw [if_neg (fun w => absurd w.2.2 (by decide))]
              exact (c4 hb).2.1
            · rw [if_pos ⟨rfl, hhi, rfl⟩, (c5 hb).2, t4, hD k hk (by rw [b3]; exact hb)]
          · rw [if_neg (fun w => z w.1), o6 (483 + k) (by omega) (by omega) (by omega)]
            exact (hA.2.2 k hk).2.2.1
        · rw [tk_lat]
          by_cases z : k = i
          · rw [if_pos ⟨z, hhi⟩, z, c3]
            exact t4
          · rw [if_neg (fun w => z w.1), o6 (507 + k) (by omega) (by omega) (by omega)]
            exact (hA.2.2 k hk).2.2.2
        · by_cases z : k = i
          · have z0 : (0 : Int32).toInt = 0 := by decide
            rw [z, c1, z0]
            omega
          · rw [o6 (355 + k) (by omega) (by omega) (by omega)]
            exact hU k hk
        · rw [c2, bN_xor, bN_1 (by omega) (by omega)]
          by_cases z : k = i
          · subst z
            rw [b3, decide_eq_true rfl, Bool.xor_true]
            intro w
            have w2 : bN a.2.1 k = false := by
              cases hb : bN a.2.1 k
              · rfl
              · rw [hb] at w
                exact absurd w (by decide)
            rw [(c4 w2).2.2, c3]
          · rw [decide_eq_false (by omega), Bool.xor_false, o6 (531 + k) (by omega) (by omega) (by omega), o6 (507 + k) (by omega) (by omega) (by omega)]
            exact hD k hk
      · have hhi : ¬ hiB bo y1 y2 a.2.1 a.2.2.1 i = true := fun w => mis (hh.mpr w)
        refine j131 h57 ⟨t57.1, QRl_mono (by omega) t57.2.1, t57.2.2⟩ ⟨?_, ?_, fun k hk => ⟨?_, ?_, ?_, ?_⟩⟩ (fun k hk => ?_) (fun k hk => ?_) (fun j hj => f57 j (by omega)) F57
        · rw [f57 354 (by omega)]
          exact hA.1
        · rw [f57 353 (by omega), hA.2.1]
          exact (if_neg hhi).symm
        · rw [tk_un]
          by_cases z : k = i
          · rw [if_pos z, if_neg hhi, z]
            exact v57
          · rw [if_neg z, f57 (355 + k) (by omega)]
            exact (hA.2.2 k hk).1
        · rw [tk_str, if_neg (fun w => hhi w.2.1), f57 (459 + k) (by omega)]
          exact (hA.2.2 k hk).2.1
        · rw [tk_lon, if_neg (fun w => hhi w.2.1), f57 (483 + k) (by omega)]
          exact (hA.2.2 k hk).2.2.1
        · rw [tk_lat, if_neg (fun w => hhi w.2), f57 (507 + k) (by omega)]
          exact (hA.2.2 k hk).2.2.2
        · by_cases z : k = i
          · rw [z, v57]
            have : ¬ (unF y1 y2 a.2.1 a.2.2.1 i).toInt = bo.toInt := fun w => mis (Int32.toInt_inj.mp w)
            omega
          · rw [f57 (355 + k) (by omega)]
            exact hU k hk
        · rw [f57 353 (by omega), f57 (531 + k) (by omega), f57 (507 + k) (by omega)]
          exact hD k hk
    have j74 : ∀ {z0 : Int32}, (z0 = 0 ∧ difB y1 y2 a.2.1 i = false ∨ z0 = 1 ∧ difB y1 y2 a.2.1 i = true) → pc (fX12_ticks_J74 10000 g 328 K y1 y2 y3 z0 d14) (fun _ d' => AGI d' (tkS n bo y1 y2 a) ∧ UNL n bo d' ∧ DAT d' ∧ ∀ k, dF d' 338 k = if k < n then stS (bN y1 k) (dF d 338 k) else dF d 338 k) := by
      intro z0 hz
      unfold fX12_ticks_J74
      refine pc_gd (fun _ => pc_ob (fun r e => ?_))
      have := gq hS (e := 336) (by decide +kernel) e
      subst this
      unfold unF at j106
      rcases hz with ⟨hz, hd⟩ | ⟨hz, hd⟩ <;> rw [hz] <;> rw [hd] at j106
      · exact pc_if (fun _ => j106 rfl) (fun w => absurd rfl w)
      · refine pc_if (fun w => absurd w (by decide)) (fun _ => pc_gd (fun _ => pc_gd (fun _ => j106 ?_)))
        rw [x355, ai.1]
        rfl
    have j73 : difB y1 y2 a.2.1 i = false → pc (fX12_ticks_J73 10000 g 328 K y1 y2 y3 d14) (fun _ d' => AGI d' (tkS n bo y1 y2 a) ∧ UNL n bo d' ∧ DAT d' ∧ ∀ k, dF d' 338 k = if k < n then stS (bN y1 k) (dF d 338 k) else dF d 338 k) := by
      intro h
      unfold fX12_ticks_J73
      exact j74 (Or.inl ⟨rfl, h⟩)
    refine pc_cb (hasM_y (k := i) hy (by omega)) (fun u50 d48 r => ?_)
    obtain ⟨e, hu50⟩ := r
    subst e
    unfold difB at j73 j74
    cases hb2 : bN y2 i <;> rw [hb2] at hu50 j73 j74 <;> rw [hu50]
    · refine pc_if (fun _ => pc_cb (hasM_y (k := i) hy (by omega)) (fun u71 d69 r => ?_)) (fun w => absurd rfl w)
      obtain ⟨e, hu71⟩ := r
      subst e
      refine pc_ob (fun r e => ?_)
      have := gq hS (e := 336) (by decide +kernel) e
      subst this
      refine pc_gd (fun _ => pc_gd (fun _ => pc_cb (hasM_y (k := i) hy (by omega)) (fun u77 d75 r => ?_)))
      obtain ⟨e, hu77⟩ := r
      subst e
      rw [n353, b3] at hu77
      cases h1 : bN y1 i <;> cases h2 : bN a.2.1 i <;> rw [h1] at hu71 j73 j74 <;> rw [h2] at hu77 j73 j74 <;> rw [hu71, hu77]
      · exact pc_if (fun _ => j73 rfl) (fun w => absurd rfl w)
      · exact pc_if (fun w => absurd w (by decide)) (fun _ => j74 (Or.inr ⟨rfl, rfl⟩))
      · exact pc_if (fun w => absurd w (by decide)) (fun _ => j74 (Or.inr ⟨rfl, rfl⟩))
      · exact pc_if (fun _ => j73 rfl) (fun w => absurd rfl w)
    · exact pc_if (fun w => absurd w (by decide)) (fun _ => j73 rfl)
/-- the model's row has it -/
def AGM (d : Ds) (a : SA) : Prop := AGI d a ∧ ∀ k, k < 24 → dF d 338 k = a.2.2.2.2.2.2 k
theorem ticks_z {g : Gs} (hS : Shp g) {b B : Nat → Int} {a : SA} {bo se ba : Int32} {r c : Nat} (hlb : LeB b B 336 42501) (hW : RWf (rw_ d)) (hB : Bnd b d) (hRC : RC r c) (hr : (dI d 336 0).toInt = (r : Int)) (hc : (dI d 336 1).toInt = (c : Int)) (hbo : dI d 336 4 = bo) (hb9 : bo.toInt ≤ 9) (hse : se = if dI d 336 2 = 1 then dI d 336 352 else seF r c (dI d 336 352) (r * c) (r * c)) (hba : ba = if dI d 336 2 = 1 then 0 else baF r c se (r * c)) (hA : AGM d a) (hU : UNL (r * c) bo d) (hD : DAT d) : pc (fX12_ticks 10000 g 328 d) (fun _ d' => AGM d' (tkS (r * c) bo se ba a) ∧ UNL (r * c) bo d' ∧ DAT d') := by
  have hx0 : cls 328 = 11 := by decide +kernel
  have ho : own 336 = 336 := by decide +kernel
  have n352 : (352 : Int32).toNatClampNeg = 352 := by decide
  have hI : Inv m_sX12_ticks__11 (bp b 336 1) d d := Inv.mono (bp_le (by decide)) (Inv.rf hB)
  have hl1 := LeB.rest (k' := 1) hlb (by decide)
  have iT := rdN_354 hB now_55
  have iT2 := cnt_hi iT ho hlb
  have hq := hW.1
  have hmul := mul_rc hRC hr hc
  unfold fX12_ticks
  refine pc_gd (fun _ => pc_ob (fun r' e => ?_))
  have := gq hS (e := 336) (by decide +kernel) e
  subst this
  refine pc_gd (fun _ => pc_gd (fun _ => pc_bd (fun d5 e5 => ?_)))
  have h5 := Inv.set e5 hI (by rw [now_55]; exact okN_354 (cnt_w5 iT ho hlb)) (mN (n := 3) now_55 (by decide : iv (354 : Int32) 354 354) (by decide) (by decide +kernel)) (nN now_55 (by decide : iv (354 : Int32) 354 354) (by decide +kernel))
  have q1 := z_add (x := dI d 336 (354 : Int32).toNatClampNeg) (y := 1) rfl (by decide : (1 : Int32).toInt = 1) (by have := iT2.1; omega) (by have := iT2.2; omega)
  have v5 : ∀ j, j ≠ 354 → rw_ d5 j = rw_ d j := by
    intro j hj
    show dI d5 336 j = dI d 336 j
    rw [e5, sI_rd, if_neg (fun z => hj (z.2.trans e354))]
  have t5 : fTm (rw_ d5) = fTm (rw_ d) + 1 := by
    show (dI d5 336 354).toInt = (dI d 336 354).toInt + 1
    rw [e5, sI_rd, if_pos ⟨rfl, e354.symm⟩, q1, e354]
  have ts5 : tsI 0 (rw_ d5) := by
    have eQ : fQ (rw_ d5) = fQ (rw_ d) := by unfold fQ; rw [v5 557 (by decide)]
    have eT : ∀ i, fT (rw_ d5) i = fT (rw_ d) i := fun i => by unfold fT; rw [v5 _ (by omega)]
    refine ⟨?_, fun i hi => ?_, ?_⟩
    · refine QA_shift (s := 0) (J := 0) (by omega) (fun i hi _ => absurd hi (by omega)) (fun i _ _ => ⟨?_, ?_⟩) (v5 353 (by decide)) hq.1
      · unfold fK; exact v5 _ (by omega)
      · unfold fD; exact v5 _ (by omega)
    · have := hq.2.1 i (by omega)
      rw [eQ, eT, t5]
      omega
    · rw [eQ, eT, t5]
      rcases hq.2.2 with z | z
      · exact Or.inl z
      · exact Or.inr (by omega)
  have w5 : ∀ j, ¬ j = 354 → dI d5 336 j = dI d 336 j := v5
  have F5 : ∀ r j, dF d5 r j = dF d r j := fun r j => by rw [e5]; rfl
  refine pc_gd (fun _ => ?_)
  rw [n352]
  refine pc_cb (pc_and (pc_of_ok (sX12_seenBy__11 hS hx0 h5.1)) (seenBy_e hS hRC (by rw [w5 0 (by decide)]; exact hr) (by rw [w5 1 (by decide)]; exact hc))) (fun u9 d7 r' => ?_)
  obtain ⟨r1, hu9, f7, F7⟩ := r'
  have h7 := Inv.call h5 r1.1 (by decide +kernel)
  have s7 := q_frm r1.1 (by decide +kernel) (by decide +kernel) (by decide +kernel) (by decide +kernel)
  have w7 : ∀ j, ¬ j = 354 → dI d7 336 j = dI d 336 j := fun j hj => (f7 336 j (by decide)).trans (w5 j hj)
  have F77 : ∀ r j, dF d7 r j = dF d r j := fun r j => by
    have : dF d7 r j = dF d5 r j := by
      unfold dF
      rw [F7]
    exact this.trans (F5 r j)
  refine pc_cb (barredBy_e hS hRC (by rw [w7 0 (by decide)]; exact hr) (by rw [w7 1 (by decide)]; exact hc)) (fun u12 d10 r' => ?_)
  obtain ⟨e, hu12⟩ := r'
  subst e
  rw [w5 2 (by decide), w5 352 (by decide)] at hu9
  have e9 : u9 = se := hu9.trans hse.symm
  subst e9
  rw [w7 2 (by decide)] at hu12
  have e12 : u12 = ba := hu12.trans hba.symm
  subst e12
  have hn := hRC.n.1
  refine pc_mono (L33_z hS (a := a) (bo := bo) hl1 hW.2.1 (tsI_congr s7 ts5) h7 (by rw [w7 0 (by decide), w7 1 (by decide)]; exact hmul) hn (by rw [w7 4 (by decide)]; exact hbo) hb9 ⟨?_, ?_, fun k hk => ?_⟩ (fun k hk => ?_) (fun k hk => ?_)) (fun u d' r' => ⟨⟨r'.1, fun k hk => ?_⟩, r'.2.1, r'.2.2.1⟩)
  · rw [f7 336 354 (by decide), e5, sI_rd, if_pos ⟨rfl, e354.symm⟩, e354, hA.1.1]
    rfl
  · rw [w7 353 (by decide)]
    exact hA.1.2.1
  · rw [w7 (355 + k) (by omega), w7 (459 + k) (by omega), w7 (483 + k) (by omega), w7 (507 + k) (by omega)]
    obtain ⟨p1, p2, p3, p4⟩ := hA.1.2.2 k hk
    obtain ⟨z1, z2, z3, z4⟩ := tk_z (bo := bo) (se := u9) (ba := u12) (a := a) (k := k)
    exact ⟨p1.trans z1.symm, p2.trans z2.symm, p3.trans z3.symm, p4.trans z4.symm⟩
  · rw [w7 (355 + k) (by omega)]
    exact hU k hk
  · rw [w7 353 (by decide), w7 (531 + k) (by omega), w7 (507 + k) (by omega)]
    exact hD k hk
  · rw [r'.2.2.2 k, F77, hA.2 k hk]
    rfl
end TKM
