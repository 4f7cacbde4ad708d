/-! what a tick does to the scan -/
/-- now, down, unlike, strokes, longest, latest, steady -/
abbrev SA : Type := Int32 × Int32 × (Nat → Int32) × (Nat → Int32) × (Nat → Int32) × (Nat → Int32) × (Nat → UInt32)
def stS (b : Bool) (x : UInt32) : UInt32 := if b = true then FP.fadd (FP.fmul x 1063256064) 1040187392 else FP.fmul x 1063256064
def difB (se ba dn : Int32) (k : Nat) : Bool := !bN ba k && (bN se k != bN dn k)
def unF (se ba dn : Int32) (unl : Nat → Int32) (k : Nat) : Int32 := if difB se ba dn k = true then unl k + 1 else 0
def hiB (bo se ba dn : Int32) (unl : Nat → Int32) (k : Nat) : Bool := decide (bo ≤ unF se ba dn unl k)
def dnF (bo se ba dn : Int32) (unl : Nat → Int32) : Nat → Int32
  | 0 => dn
  | k + 1 => if hiB bo se ba dn unl k = true then dnF bo se ba dn unl k ^^^ ((1 : Int32) <<< (Int32.ofNat k &&& 31)) else dnF bo se ba dn unl k
theorem dnF_hi {bo se ba dn : Int32} {unl : Nat → Int32} : ∀ k, k ≤ 24 → ∀ j, k ≤ j → j < 32 → bN (dnF bo se ba dn unl k) j = bN dn j := by
  intro k
  induction k with
  | zero => intro _ j _ _; rfl
  | succ k ih =>
    intro hk j h1 h2
    have h := ih (by omega) j (by omega) h2
    show bN (if hiB bo se ba dn unl k = true then dnF bo se ba dn unl k ^^^ ((1 : Int32) <<< (Int32.ofNat k &&& 31)) else dnF bo se ba dn unl k) j = _
    split
    · rw [bN_xor, h, bN_1 (by omega) h2, decide_eq_false (by omega), Bool.xor_false]
    · exact h
/-- keys below n looked at once more -/
def tkS (n : Nat) (bo se ba : Int32) (a : SA) : SA :=
  (a.1 + 1, dnF bo se ba a.2.1 a.2.2.1 n,
   (fun k => if k < n then (if hiB bo se ba a.2.1 a.2.2.1 k = true then 0 else unF se ba a.2.1 a.2.2.1 k) else a.2.2.1 k),
   (fun k => if k < n ∧ hiB bo se ba a.2.1 a.2.2.1 k = true ∧ bN a.2.1 k = false then a.2.2.2.1 k + 1 else a.2.2.2.1 k),
   (fun k => if k < n ∧ hiB bo se ba a.2.1 a.2.2.1 k = true ∧ bN a.2.1 k = true then (if a.2.2.2.2.1 k < a.1 + 1 - a.2.2.2.2.2.1 k then a.1 + 1 - a.2.2.2.2.2.1 k else a.2.2.2.2.1 k) else a.2.2.2.2.1 k),
   (fun k => if k < n ∧ hiB bo se ba a.2.1 a.2.2.1 k = true then a.1 + 1 else a.2.2.2.2.2.1 k),
   (fun k => if k < n then stS (bN se k) (a.2.2.2.2.2.2 k) else a.2.2.2.2.2.2 k))
/-- the class's course has it -/
def AGC (d : Ds) (a : SA) : Prop := dI d 227 5 = a.1 ∧ dI d 228 3 = a.2.1 ∧ ∀ k, k < 24 → dI d 229 k = a.2.2.1 k ∧ dI d 231 k = a.2.2.2.1 k ∧ dI d 232 k = a.2.2.2.2.1 k ∧ dI d 233 k = a.2.2.2.2.2.1 k ∧ dF d 230 k = a.2.2.2.2.2.2 k
section SCC0
variable {d : Ds} {y x2 : Int32} {k n : Nat}
theorem weigh_y {N : Nat} {g : Gs} (hS : Shp g) (hy : y.toInt = (k : Int)) (hk : k < 24) : pc (fX6_weighSteady N g 228 y d) (fun _ d' => dF d' 230 k = stS (bN (dI d 228 1) k) (dF d 230 k) ∧ (∀ r j, ¬ (r = 230 ∧ j = k) → dF d' r j = dF d r j) ∧ ∀ r j, dI d' r j = dI d r j) := by
  have fin : ∀ {dd : Ds} {v : UInt32}, dd = d → v = stS (bN (dI d 228 1) k) (dF d 230 k) → pc (fX6_weighSteady_J34 N g 228 y v y 230 dd) (fun _ d' => dF d' 230 k = stS (bN (dI d 228 1) k) (dF d 230 k) ∧ (∀ r j, ¬ (r = 230 ∧ j = k) → dF d' r j = dF d r j) ∧ ∀ r j, dI d' r j = dI d r j) := by
    intro dd v e hv
    subst e
    unfold fX6_weighSteady_J34
    refine pc_gd (fun _ => pc_gd (fun _ => pc_bd (fun d13 e13 => pc_some ⟨?_, fun r j h => ?_, fun r j => rdqF e13⟩)))
    · rw [e13, tn hy, sF_rd, if_pos ⟨rfl, rfl⟩]
      exact hv
    · rw [e13, tn hy, sF_rd, if_neg h]
  unfold fX6_weighSteady
  refine pc_gd (fun _ => pc_ob (fun r e => ?_))
  have := gq hS (e := 230) (by decide +kernel) e
  subst this
  rw [tn hy]
  refine pc_gd (fun _ => pc_gd (fun _ => pc_gd (fun _ => pc_bd (fun u6 e6 => pc_cb (isIn_k hy (by omega)) (fun u9 d7 r => ?_)))))
  obtain ⟨e, hu⟩ := r
  subst e
  unfold stS at fin
  cases hb : bN (dI d7 228 1) k <;> rw [hb] at hu fin <;> rw [hu]
  · exact pc_if (fun _ => fin rfl (by rw [e6]; rfl)) (fun q => absurd rfl q)
  · exact pc_if (fun q => absurd q (by decide)) (fun _ => pc_gd (fun _ => pc_bd (fun u15 e15 => fin rfl (by rw [e15, e6]; rfl))))
theorem changesC_y {N : Nat} {g : Gs} (hS : Shp g) (hy : y.toInt = (k : Int)) (hk : k < 24) : pc (fX6_changes N g 228 y x2 d) (fun u d' => (u = 1 ∧ hiB x2 (dI d 228 1) (dI d 228 2) (dI d 228 3) (fun j => dI d 229 j) k = true ∧ dI d' 229 k = 0 ∨ u = 0 ∧ hiB x2 (dI d 228 1) (dI d 228 2) (dI d 228 3) (fun j => dI d 229 j) k = false ∧ dI d' 229 k = unF (dI d 228 1) (dI d 228 2) (dI d 228 3) (fun j => dI d 229 j) k) ∧ (∀ r j, ¬ (r = 229 ∧ j = k) → dI d' r j = dI d r j) ∧ ∀ r j, dF d' r j = dF d r j) := by
  obtain ⟨w, hw⟩ : ∃ w, unF (dI d 228 1) (dI d 228 2) (dI d 228 3) (fun j => dI d 229 j) k = w := ⟨_, rfl⟩
  have hh : hiB x2 (dI d 228 1) (dI d 228 2) (dI d 228 3) (fun j => dI d 229 j) k = decide (x2 ≤ w) := by unfold hiB; rw [hw]
  rw [hh, hw]
  have j57 : ∀ {z0 : Int32}, z0 = w → pc (fX6_changes_J57 N g 228 y x2 z0 y 229 d) (fun u d' => (u = 1 ∧ decide (x2 ≤ w) = true ∧ dI d' 229 k = 0 ∨ u = 0 ∧ decide (x2 ≤ w) = false ∧ dI d' 229 k = w) ∧ (∀ r j, ¬ (r = 229 ∧ j = k) → dI d' r j = dI d r j) ∧ ∀ r j, dF d' r j = dF d r j) := by
    intro z0 hz
    subst hz
    unfold fX6_changes_J57
    rw [tn hy]
    refine pc_gd (fun _ => pc_gd (fun _ => pc_bd (fun d11 e11 => pc_gd (fun _ => pc_ob (fun r e => ?_)))))
    have := gq hS (e := 229) (by decide +kernel) e
    subst this
    have v11 : dI d11 229 k = z0 := by rw [e11, sI_rd, if_pos ⟨rfl, rfl⟩]
    rw [v11]
    have f11 : ∀ r j, ¬ (r = 229 ∧ j = k) → dI d11 r j = dI d r j := fun r j h => by rw [e11, sI_rd, if_neg h]
    refine pc_gd (fun _ => pc_gd (fun _ => pc_if (fun q => pc_bd (fun d17 e17 => pc_some ⟨Or.inl ⟨rfl, decide_eq_true q, ?_⟩, fun r j h => ?_, fun r j => ?_⟩)) (fun q => pc_some ⟨Or.inr ⟨rfl, decide_eq_false q, v11⟩, f11, fun r j => ?_⟩)))
    · rw [e17, sI_rd, if_pos ⟨rfl, rfl⟩]
    · rw [e17, sI_rd, if_neg h]
      exact f11 r j h
    · rw [e17, e11]
      rfl
    · rw [e11]
      rfl
  have j35 : ∀ {z0 : Int32}, (z0 = 0 ∧ difB (dI d 228 1) (dI d 228 2) (dI d 228 3) k = false ∨ z0 = 1 ∧ difB (dI d 228 1) (dI d 228 2) (dI d 228 3) k = true) → pc (fX6_changes_J35 N g 228 y x2 z0 d) (fun u d' => (u = 1 ∧ decide (x2 ≤ w) = true ∧ dI d' 229 k = 0 ∨ u = 0 ∧ decide (x2 ≤ w) = false ∧ dI d' 229 k = w) ∧ (∀ r j, ¬ (r = 229 ∧ j = k) → dI d' r j = dI d r j) ∧ ∀ r j, dF d' r j = dF d r j) := by
    intro z0 hz
    unfold fX6_changes_J35
    refine pc_gd (fun _ => pc_ob (fun r e => ?_))
    have := gq hS (e := 229) (by decide +kernel) e
    subst this
    unfold unF at hw
    rcases hz with ⟨hz, hd⟩ | ⟨hz, hd⟩ <;> rw [hz]
    · rw [hd, if_neg (by decide)] at hw
      exact pc_if (fun _ => j57 hw) (fun q => absurd rfl q)
    · rw [hd, if_pos rfl] at hw
      rw [tn hy]
      exact pc_if (fun q => absurd q (by decide)) (fun _ => pc_gd (fun _ => pc_gd (fun _ => j57 hw)))
  have j34 : difB (dI d 228 1) (dI d 228 2) (dI d 228 3) k = false → pc (fX6_changes_J34 N g 228 y x2 d) (fun u d' => (u = 1 ∧ decide (x2 ≤ w) = true ∧ dI d' 229 k = 0 ∨ u = 0 ∧ decide (x2 ≤ w) = false ∧ dI d' 229 k = w) ∧ (∀ r j, ¬ (r = 229 ∧ j = k) → dI d' r j = dI d r j) ∧ ∀ r j, dF d' r j = dF d r j) := by
    intro h
    unfold fX6_changes_J34
    exact j35 (Or.inl ⟨rfl, h⟩)
  unfold fX6_changes
  refine pc_gd (fun _ => pc_cb (isIn_k hy (by omega)) (fun u4 d2 r => ?_))
  obtain ⟨e, hu⟩ := r
  subst e
  unfold difB at j34 j35
  cases hb : bN (dI d2 228 2) k <;> rw [hb] at hu j34 j35 <;> rw [hu]
  · refine pc_if (fun _ => pc_cb (isIn_k hy (by omega)) (fun u22 d20 r => ?_)) (fun q => absurd rfl q)
    obtain ⟨e, hu22⟩ := r
    subst e
    refine pc_cb (isIn_k hy (by omega)) (fun u25 d23 r => ?_)
    obtain ⟨e, hu25⟩ := r
    subst e
    cases h1 : bN (dI d23 228 1) k <;> cases h3 : bN (dI d23 228 3) k <;> rw [h1] at hu22 j34 j35 <;> rw [h3] at hu25 j34 j35 <;> rw [hu22, hu25]
    · exact pc_if (fun _ => j34 rfl) (fun q => absurd rfl q)
    · exact pc_if (fun q => absurd q (by decide)) (fun _ => j35 (Or.inr ⟨rfl, rfl⟩))
    · exact pc_if (fun q => absurd q (by decide)) (fun _ => j35 (Or.inr ⟨rfl, rfl⟩))
    · exact pc_if (fun _ => j34 rfl) (fun q => absurd rfl q)
  · exact pc_if (fun q => absurd q (by decide)) (fun _ => j34 rfl)
theorem changeC_y {N : Nat} {g : Gs} (hS : Shp g) (hy : y.toInt = (k : Int)) (hk : k < 24) : pc (fX6_change N g 228 y x2 d) (fun _ d' => dI d' 228 3 = (dI d 228 3 ^^^ ((1 : Int32) <<< (Int32.ofNat k &&& 31))) ∧ dI d' 233 k = x2 ∧ (bN (dI d 228 3) k = false → dI d' 231 k = dI d 231 k + 1 ∧ dI d' 232 k = dI d 232 k) ∧ (bN (dI d 228 3) k = true → dI d' 231 k = dI d 231 k ∧ dI d' 232 k = if dI d 232 k < x2 - dI d 233 k then x2 - dI d 233 k else dI d 232 k) ∧ (∀ r j, ¬ (r = 228 ∧ j = 3) → ¬ (231 ≤ r ∧ r ≤ 233 ∧ j = k) → dI d' r j = dI d r j) ∧ ∀ r j, dF d' r j = dF d r j) := by
  unfold fX6_change
  rw [tn hy]
  refine pc_gd (fun _ => pc_bd (fun d2 e2 => pc_cb (isIn_k hy (by omega)) (fun u5 d3 r => ?_)))
  obtain ⟨e, hu⟩ := r
  subst e
  rw [ofN hy (by omega)] at e2
  have v2 : dI d3 228 3 = (dI d 228 3 ^^^ ((1 : Int32) <<< (Int32.ofNat k &&& 31))) := by rw [e2, sI_rd, if_pos ⟨rfl, rfl⟩]
  have f2 : ∀ r j, ¬ (r = 228 ∧ j = 3) → dI d3 r j = dI d r j := fun r j h => by rw [e2, sI_rd, if_neg h]
  have F2 : ∀ r j, dF d3 r j = dF d r j := fun r j => by rw [e2]; rfl
  have hb : bN (dI d3 228 3) k = !bN (dI d 228 3) k := by
    rw [v2, bN_xor, bN_1 (by omega) (by omega), decide_eq_true rfl, Bool.xor_true]
  rw [hb] at hu
  have j59 : ∀ {dd : Ds}, (∀ r j, ¬ (231 ≤ r ∧ r ≤ 232 ∧ j = k) → dI dd r j = dI d3 r j) → (bN (dI d 228 3) k = false → dI dd 231 k = dI d 231 k + 1 ∧ dI dd 232 k = dI d 232 k) → (bN (dI d 228 3) k = true → dI dd 231 k = dI d 231 k ∧ dI dd 232 k = if dI d 232 k < x2 - dI d 233 k then x2 - dI d 233 k else dI d 232 k) → (∀ r j, dF dd r j = dF d r j) → pc (fX6_change_J59 N g 228 y x2 dd) (fun _ d' => dI d' 228 3 = (dI d 228 3 ^^^ ((1 : Int32) <<< (Int32.ofNat k &&& 31))) ∧ dI d' 233 k = x2 ∧ (bN (dI d 228 3) k = false → dI d' 231 k = dI d 231 k + 1 ∧ dI d' 232 k = dI d 232 k) ∧ (bN (dI d 228 3) k = true → dI d' 231 k = dI d 231 k ∧ dI d' 232 k = if dI d 232 k < x2 - dI d 233 k then x2 - dI d 233 k else dI d 232 k) ∧ (∀ r j, ¬ (r = 228 ∧ j = 3) → ¬ (231 ≤ r ∧ r ≤ 233 ∧ j = k) → dI d' r j = dI d r j) ∧ ∀ r j, dF d' r j = dF d r j) := by
    intro dd h1 h2 h3 h4
    unfold fX6_change_J59
    rw [tn hy]
    refine pc_gd (fun _ => pc_ob (fun r e => ?_))
    have := gq hS (e := 233) (by decide +kernel) e
    subst this
    refine pc_gd (fun _ => pc_gd (fun _ => pc_bd (fun d18 e18 => pc_some ⟨?_, ?_, fun z => ?_, fun z => ?_, fun r j a b => ?_, fun r j => ?_⟩)))
    · rw [rdq e18 (Or.inl (by decide)), h1 228 3 (by omega)]
      exact v2
    · rw [e18, sI_rd, if_pos ⟨rfl, rfl⟩]
    · rw [rdq e18 (Or.inl (by decide)), rdq e18 (Or.inl (by decide))]
      exact h2 z
    · rw [rdq e18 (Or.inl (by decide)), rdq e18 (Or.inl (by decide))]
      exact h3 z
    · rw [e18, sI_rd, if_neg (fun z => b (by omega)), h1 r j (fun z => b (by omega))]
      exact f2 r j a
    · rw [e18]
      exact h4 r j
  cases hd : bN (dI d 228 3) k <;> rw [hd] at hu j59 <;> rw [hu]
  · refine pc_if (fun q => absurd q (by decide)) (fun _ => pc_ob (fun r e => ?_))
    have := gq hS (e := 231) (by decide +kernel) e
    subst this
    refine pc_gd (fun _ => pc_gd (fun _ => pc_bd (fun d22 e22 => j59 (fun r j h => ?_) (fun _ => ⟨?_, ?_⟩) (fun z => absurd z (by decide)) (fun r j => ?_))))
    · rw [e22, sI_rd, if_neg (fun z => h (by omega))]
    · rw [e22, sI_rd, if_pos ⟨rfl, rfl⟩, f2 231 k (by omega)]
    · rw [rdq e22 (Or.inl (by decide)), f2 232 k (by omega)]
    · rw [e22]
      exact F2 r j
  · refine pc_if (fun _ => pc_ob (fun r e => ?_)) (fun q => absurd rfl q)
    have := gq hS (e := 232) (by decide +kernel) e
    subst this
    refine pc_gd (fun _ => pc_gd (fun _ => pc_ob (fun r e => ?_)))
    have := gq hS (e := 233) (by decide +kernel) e
    subst this
    rw [f2 232 k (by omega), f2 233 k (by omega)]
    refine pc_gd (fun _ => pc_gd (fun _ => pc_bd (fun d13 e13 => j59 (fun r j h => ?_) (fun z => absurd z (by decide)) (fun _ => ⟨?_, ?_⟩) (fun r j => ?_))))
    · rw [e13, sI_rd, if_neg (fun z => h (by omega))]
    · rw [rdq e13 (Or.inl (by decide)), f2 231 k (by omega)]
    · rw [e13, sI_rd, if_pos ⟨rfl, rfl⟩]
    · rw [e13]
      exact F2 r j
theorem addC_y {N : Nat} {g : Gs} (hS : Shp g) {a b e0 : Int32} : pc (fX4_add N g 234 a b e0 d) (fun _ d' => (∀ r j, ¬ (234 ≤ r ∧ r ≤ 235) → dI d' r j = dI d r j) ∧ ∀ r j, dF d' r j = dF d r j) := by
  have j35 : ∀ {z0 z1 z2 : Int32}, pc (fX4_add_J35 N g 234 a b e0 z0 z1 z2 235 d) (fun _ d' => (∀ r j, ¬ (234 ≤ r ∧ r ≤ 235) → dI d' r j = dI d r j) ∧ ∀ r j, dF d' r j = dF d r j) := by
    intro z0 z1 z2
    unfold fX4_add_J35 fX4_add_J57
    refine pc_gd (fun _ => pc_gd (fun _ => pc_bd (fun d7 e7 => pc_gd (fun _ => pc_bd (fun d9 e9 => pc_bd (fun d10 e10 => pc_some ⟨fun r j h => ?_, fun r j => ?_⟩))))))
    · rw [rdq e10 (Or.inl (by omega)), rdq e9 (Or.inl (by omega)), rdq e7 (Or.inl (by omega))]
    · rw [e10, e9, e7]
      rfl
  unfold fX4_add fX4_add_J57
  refine pc_gd (fun _ => pc_if (fun _ => pc_some ⟨fun _ _ _ => rfl, fun _ _ => rfl⟩) (fun _ => pc_ob (fun r e => ?_)))
  have := gq hS (e := 235) (by decide +kernel) e
  subst this
  exact pc_if (fun _ => j35) (fun _ => j35)
/-- a tick of the class -/
theorem passTick_z {g : Gs} (hS : Shp g) {a : SA} {bo se ba : Int32} (hm : (dI d 117 0 * dI d 117 1).toInt = (n : Int)) (hn : n ≤ 24) (hbo : dI d 117 4 = bo) (hse : dI d 228 1 = se) (hba : dI d 228 2 = ba) (hA : AGC d a) : pc (fX1_passTick 10000 g 227 d) (fun _ d' => AGC d' (tkS n bo se ba a) ∧ (∀ r j, ¬ (227 ≤ r ∧ r ≤ 246) → dI d' r j = dI d r j) ∧ (∀ r j, ¬ r = 230 → ¬ (234 ≤ r ∧ r ≤ 246) → dF d' r j = dF d r j) ∧ ∀ j, ¬ j = 3 → dI d' 228 j = dI d 228 j) := by
  have e1 : (1 : Int32).toInt = 1 := by decide
  have e24 : (24 : Int32).toInt = 24 := by decide
  obtain ⟨h5, h3, hk⟩ := hA
  unfold fX1_passTick
  refine pc_gd (fun _ => pc_bd (fun d2 e2 => ?_))
  unfold fX1_passTick_L12
  refine pc_lp (fun (w : Int32 × Ds) => ∃ i : Nat, i ≤ n ∧ w.1.toInt = (i : Int) ∧ AGC w.2 (tkS i bo se ba a) ∧ (∀ r j, ¬ (227 ≤ r ∧ r ≤ 246) → dI w.2 r j = dI d r j) ∧ (∀ r j, ¬ r = 230 → ¬ (234 ≤ r ∧ r ≤ 246) → dF w.2 r j = dF d r j) ∧ ∀ j, ¬ j = 3 → dI w.2 228 j = dI d 228 j) ?_ 10000 (0, d2) ⟨0, Nat.zero_le _, (by decide : (0 : Int32).toInt = ((0 : Nat) : Int)), ⟨?_, ?_, fun k hk24 => ?_⟩, fun r j h => ?_, fun r j _ _ => ?_, fun j _ => ?_⟩
  · rintro K ⟨y1, dd⟩ ⟨i, hi, hy, hA, hf, hF, h28⟩ hK
    dsimp only at hy hA hf hF h28 hK ⊢
    unfold fX1_passTick_B12
    refine pc_gd (fun _ => pc_ob (fun r e => ?_))
    have := gq hS (e := 117) (by decide +kernel) e
    subst this
    have wm : (dI dd 117 0 * dI dd 117 1).toInt = (n : Int) := by rw [hf 117 0 (by decide), hf 117 1 (by decide)]; exact hm
    refine pc_gd (fun _ => pc_cb (hasKey_k wm hy) (fun u8 d6 r => ?_))
    obtain ⟨e, hu⟩ := r
    subst e
    have fin : n ≤ i → pc (fX1_passTick_J96 10000 g 227 d6) (fun _ d' => AGC d' (tkS n bo se ba a) ∧ (∀ r j, ¬ (227 ≤ r ∧ r ≤ 246) → dI d' r j = dI d r j) ∧ (∀ r j, ¬ r = 230 → ¬ (234 ≤ r ∧ r ≤ 246) → dF d' r j = dF d r j) ∧ ∀ j, ¬ j = 3 → dI d' 228 j = dI d 228 j) := by
      intro h
      have ein : i = n := by omega
      subst ein
      refine pc_mono (wQ_fX1_passTick_J96 (d0 := d6) 10000 g d6 hS FQQ.rf) (fun u d' r => ?_)
      have rI : ∀ r' j, ¬ (234 ≤ r' ∧ r' ≤ 246) → dI d' r' j = dI d6 r' j := fun r' j h => r.1 r' j (by unfold fp_Q; simp only [Bool.and_eq_false_imp, decide_eq_true_eq, decide_eq_false_iff_not]; omega)
      have rF : ∀ r' j, ¬ (234 ≤ r' ∧ r' ≤ 246) → dF d' r' j = dF d6 r' j := fun r' j h => r.2 r' j (by unfold fp_Q; simp only [Bool.and_eq_false_imp, decide_eq_true_eq, decide_eq_false_iff_not]; omega)
      refine ⟨⟨?_, ?_, fun k hk24 => ?_⟩, fun r' j h' => ?_, fun r' j h1 h2 => ?_, fun j hj => ?_⟩
      · rw [rI 227 5 (by decide)]
        exact hA.1
      · rw [rI 228 3 (by decide)]
        exact hA.2.1
      · rw [rI 229 k (by decide), rI 231 k (by decide), rI 232 k (by decide), rI 233 k (by decide), rF 230 k (by decide)]
        exact hA.2.2 k hk24
      · rw [rI r' j (by omega)]
        exact hf r' j h'
      · rw [rF r' j h2]
        exact hF r' j h1 h2
      · rw [rI 228 j (by decide)]
        exact h28 j hj
    rcases hu with ⟨hu, hin⟩ | ⟨hu, hin⟩ <;> rw [hu]
    · refine pc_if (fun q3 => absurd q3 (by decide)) (fun _ => pc_if (fun q3 => ?_) (fun q3 => pc_ob (fun r e => ?_)))
      · have := Int32.le_iff_toInt_le.mp q3
        omega
      have := gq hS (e := 228) (by decide +kernel) e
      subst this
      obtain ⟨g5, g3, gk⟩ := hA
      have gi := gk i (by omega)
      refine pc_gd (fun _ => pc_cv (weigh_y hS hy (by omega)) (fun d33 r33 => ?_))
      obtain ⟨s1, s2, s3⟩ := r33
      have wd : dI d33 117 4 = bo := by rw [s3, hf 117 4 (by decide)]; exact hbo
      rw [wd]
      have k1 : dI d33 228 1 = se := by rw [s3, h28 1 (by decide)]; exact hse
      have k2 : dI d33 228 2 = ba := by rw [s3, h28 2 (by decide)]; exact hba
      have k3 : dI d33 228 3 = dnF bo se ba a.2.1 a.2.2.1 i := by rw [s3]; exact g3
      have b3 : bN (dI d33 228 3) i = bN a.2.1 i := by rw [k3]; exact dnF_hi i (by omega) i (Nat.le_refl i) (by omega)
      have u3 : dI d33 229 i = a.2.2.1 i := by
        rw [s3]
        exact gi.1.trans (if_neg (Nat.lt_irrefl i))
      have uE : unF (dI d33 228 1) (dI d33 228 2) (dI d33 228 3) (fun j => dI d33 229 j) i = unF se ba a.2.1 a.2.2.1 i := by
        unfold unF difB
        dsimp only
        rw [k1, k2, b3, u3]
      have hE : hiB bo (dI d33 228 1) (dI d33 228 2) (dI d33 228 3) (fun j => dI d33 229 j) i = hiB bo se ba a.2.1 a.2.2.1 i := by
        unfold hiB
        rw [uE]
      refine pc_cb (changesC_y hS hy (by omega)) (fun u37 d35 r35 => ?_)
      rw [hE, uE] at r35
      obtain ⟨c1, c2, c3⟩ := r35
      have o230 : ∀ dz : Ds, (∀ r j, dF dz r j = dF d33 r j) → ∀ k, k < 24 → dF dz 230 k = (tkS (i + 1) bo se ba a).2.2.2.2.2.2 k := by
        intro dz hz k hk24
        rw [hz]
        by_cases z : k = i
        · subst z
          rw [s1, h28 1 (by decide), hse, gi.2.2.2.2]
          show stS (bN se k) (if k < k then _ else a.2.2.2.2.2.2 k) = if k < k + 1 then _ else _
          rw [if_neg (Nat.lt_irrefl k), if_pos (Nat.lt_succ_self k)]
        · rw [s2 230 k (fun y => z y.2), (gk k hk24).2.2.2.2]
          show (if k < i then _ else _) = if k < i + 1 then _ else _
          by_cases y : k < i
          · rw [if_pos y, if_pos (show k < i + 1 by omega)]
          · rw [if_neg y, if_neg (show ¬ k < i + 1 by omega)]
      have fI : ∀ dz : Ds, (∀ r j, ¬ (227 ≤ r ∧ r ≤ 246) → dI dz r j = dI d35 r j) → ∀ r j, ¬ (227 ≤ r ∧ r ≤ 246) → dI dz r j = dI d r j := fun dz hz r j h => by
        rw [hz r j h, c2 r j (by omega), s3]
        exact hf r j h
      have fF : ∀ dz : Ds, (∀ r j, dF dz r j = dF d35 r j) → ∀ r j, ¬ r = 230 → ¬ (234 ≤ r ∧ r ≤ 246) → dF dz r j = dF d r j := fun dz hz r j h h' => by
        rw [hz r j, c3, s2 r j (fun y => h y.1)]
        exact hF r j h h'
      have j90 : ∀ {dz : Ds}, AGC dz (tkS (i + 1) bo se ba a) → (∀ r j, ¬ (227 ≤ r ∧ r ≤ 246) → dI dz r j = dI d r j) → (∀ r j, ¬ r = 230 → ¬ (234 ≤ r ∧ r ≤ 246) → dF dz r j = dF d r j) → (∀ j, ¬ j = 3 → dI dz 228 j = dI d 228 j) → pc (fX1_passTick_J90 10000 g 227 K y1 dz) (fun _ d' => AGC d' (tkS n bo se ba a) ∧ (∀ r j, ¬ (227 ≤ r ∧ r ≤ 246) → dI d' r j = dI d r j) ∧ (∀ r j, ¬ r = 230 → ¬ (234 ≤ r ∧ r ≤ 246) → dF d' r j = dF d r j) ∧ ∀ j, ¬ j = 3 → dI d' 228 j = dI d 228 j) := by
        intro dz h1 h2 h3 h4
        unfold fX1_passTick_J90
        refine pc_bd (fun u e => hK _ ⟨i + 1, by omega, ?_, h1, h2, h3, h4⟩)
        dsimp only
        rw [e, z_add hy e1 (by omega) (by omega)]
        omega
      rcases c1 with ⟨c1, ch, cu⟩ | ⟨c1, ch, cu⟩ <;> rw [c1]
      · refine pc_if (fun q => absurd q (by decide)) (fun _ => pc_cv (changeC_y hS hy (by omega)) (fun d40 r40 => pc_ob (fun r e => ?_)))
        have := gq hS (e := 234) (by decide +kernel) e
        subst this
        obtain ⟨m1, m2, m3, m4, m5, m6⟩ := r40
        refine pc_cb isin_y (fun u45 d43 r => ?_)
        obtain ⟨e, _⟩ := r
        subst e
        refine pc_gd (fun _ => pc_cv (addC_y hS) (fun d47 r47 => ?_))
        obtain ⟨a1, a2⟩ := r47
        have n5 : dI d35 227 5 = a.1 + 1 := by rw [c2 227 5 (by omega), s3]; exact g5
        have t3 : dI d35 228 3 = dnF bo se ba a.2.1 a.2.2.1 i := by rw [c2 228 3 (by omega)]; exact k3
        have tb : bN (dI d35 228 3) i = bN a.2.1 i := by rw [c2 228 3 (by omega)]; exact b3
        have q231 : dI d35 231 i = a.2.2.2.1 i := by
          rw [c2 231 i (by omega), s3]
          exact gi.2.1.trans (if_neg (fun z => Nat.lt_irrefl i z.1))
        have q232 : dI d35 232 i = a.2.2.2.2.1 i := by
          rw [c2 232 i (by omega), s3]
          exact gi.2.2.1.trans (if_neg (fun z => Nat.lt_irrefl i z.1))
        have q233 : dI d35 233 i = a.2.2.2.2.2.1 i := by
          rw [c2 233 i (by omega), s3]
          exact gi.2.2.2.1.trans (if_neg (fun z => Nat.lt_irrefl i z.1))
        rw [tb, q231, q232] at m3
        rw [tb, q231, q232, q233, n5] at m4
        rw [n5] at m2
        have lt1 : i < i + 1 := Nat.lt_succ_self i
        refine j90 ⟨?_, ?_, fun k hk24 => ?_⟩ (fI d47 (fun r j h => ?_)) (fF d47 (fun r j => ?_)) (fun j hj => ?_)
        · rw [a1 227 5 (by omega), m5 227 5 (by omega) (by omega)]
          exact n5
        · rw [a1 228 3 (by omega), m1, t3]
          exact (if_pos ch).symm
        · rw [a1 229 k (by omega), a1 231 k (by omega), a1 232 k (by omega), a1 233 k (by omega), m5 229 k (by omega) (by omega)]
          refine ⟨?_, ?_, ?_, ?_, o230 d47 (fun r j => by rw [a2, m6, c3]) k hk24⟩
          · by_cases z : k = i
            · subst z
              rw [cu]
              show _ = if k < k + 1 then _ else _
              rw [if_pos lt1, if_pos ch]
            · rw [c2 229 k (fun y => z y.2), s3, (gk k hk24).1]
              show (if k < i then _ else _) = if k < i + 1 then _ else _
              by_cases y : k < i
              · rw [if_pos y, if_pos (show k < i + 1 by omega)]
              · rw [if_neg y, if_neg (show ¬ k < i + 1 by omega)]
          · by_cases z : k = i
            · subst z
              show _ = if k < k + 1 ∧ _ ∧ bN a.2.1 k = false then _ else _
              cases hb : bN a.2.1 k
              · rw [if_pos ⟨lt1, ch, rfl⟩]
                exact (m3 hb).1
              · rw [if_neg (fun y => absurd y.2.2 (by decide))]
                exact (m4 hb).1
            · rw [m5 231 k (by omega) (by omega), c2 231 k (by omega), s3, (gk k hk24).2.1]
              show (if k < i ∧ _ then _ else _) = if k < i + 1 ∧ _ then _ else _
              by_cases y : k < i
              · simp only [y, show k < i + 1 by omega, true_and]
              · simp only [y, show ¬ k < i + 1 by omega, false_and]
          · by_cases z : k = i
            · subst z
              show _ = if k < k + 1 ∧ _ ∧ bN a.2.1 k = true then _ else _
              cases hb : bN a.2.1 k
              · rw [if_neg (fun y => absurd y.2.2 (by decide))]
                exact (m3 hb).2
              · rw [if_pos ⟨lt1, ch, rfl⟩]
                exact (m4 hb).2
            · rw [m5 232 k (by omega) (by omega), c2 232 k (by omega), s3, (gk k hk24).2.2.1]
              show (if k < i ∧ _ then _ else _) = if k < i + 1 ∧ _ then _ else _
              by_cases y : k < i
              · simp only [y, show k < i + 1 by omega, true_and]
              · simp only [y, show ¬ k < i + 1 by omega, false_and]
          · by_cases z : k = i
            · subst z
              rw [m2]
              show _ = if k < k + 1 ∧ _ then _ else _
              rw [if_pos ⟨lt1, ch⟩]
            · rw [m5 233 k (by omega) (by omega), c2 233 k (by omega), s3, (gk k hk24).2.2.2.1]
              show (if k < i ∧ _ then _ else _) = if k < i + 1 ∧ _ then _ else _
              by_cases y : k < i
              · simp only [y, show k < i + 1 by omega, true_and]
              · simp only [y, show ¬ k < i + 1 by omega, false_and]
        · rw [a1 r j (by omega), m5 r j (by omega) (by omega)]
        · rw [a2, m6]
        · rw [a1 228 j (by omega), m5 228 j (fun y => hj y.2) (by omega), c2 228 j (by omega), s3]
          exact h28 j hj
      · refine pc_if (fun _ => j90 ⟨?_, ?_, fun k hk24 => ?_⟩ (fI d35 (fun _ _ _ => rfl)) (fF d35 (fun _ _ => rfl)) (fun j hj => ?_)) (fun q => absurd rfl q)
        · rw [c2 227 5 (by omega), s3]
          exact g5
        · rw [c2 228 3 (by omega), k3]
          exact (if_neg (by rw [ch]; decide)).symm
        · have nh : ∀ (p : Prop), ¬ (k = i ∧ hiB bo se ba a.2.1 a.2.2.1 k = true ∧ p) := fun p y => by
            rw [y.1, ch] at y
            exact absurd y.2.1 (by decide)
          refine ⟨?_, ?_, ?_, ?_, o230 d35 (fun r j => by rw [c3]) k hk24⟩
          · by_cases z : k = i
            · subst z
              rw [cu]
              show _ = if k < k + 1 then _ else _
              rw [if_pos (Nat.lt_succ_self k), if_neg (by rw [ch]; decide)]
            · rw [c2 229 k (fun y => z y.2), s3, (gk k hk24).1]
              show (if k < i then _ else _) = if k < i + 1 then _ else _
              by_cases y : k < i
              · rw [if_pos y, if_pos (show k < i + 1 by omega)]
              · rw [if_neg y, if_neg (show ¬ k < i + 1 by omega)]
          · rw [c2 231 k (by omega), s3, (gk k hk24).2.1]
            show (if k < i ∧ _ ∧ _ then _ else _) = if k < i + 1 ∧ _ ∧ _ then _ else _
            by_cases y : k < i
            · simp only [y, show k < i + 1 by omega, true_and]
            · rw [if_neg (fun q => y q.1), if_neg (fun q => nh _ ⟨by omega, q.2.1, q.2.2⟩)]
          · rw [c2 232 k (by omega), s3, (gk k hk24).2.2.1]
            show (if k < i ∧ _ ∧ _ then _ else _) = if k < i + 1 ∧ _ ∧ _ then _ else _
            by_cases y : k < i
            · simp only [y, show k < i + 1 by omega, true_and]
            · rw [if_neg (fun q => y q.1), if_neg (fun q => nh _ ⟨by omega, q.2.1, q.2.2⟩)]
          · rw [c2 233 k (by omega), s3, (gk k hk24).2.2.2.1]
            show (if k < i ∧ _ then _ else _) = if k < i + 1 ∧ _ then _ else _
            by_cases y : k < i
            · simp only [y, show k < i + 1 by omega, true_and]
            · rw [if_neg (fun q => y q.1), if_neg (fun q => nh True ⟨by omega, q.2, trivial⟩)]
        · rw [c2 228 j (by omega), s3]
          exact h28 j hj
    · exact pc_if (fun _ => fin hin) (fun q => absurd rfl q)
  · rw [e2, sI_rd, if_pos ⟨rfl, rfl⟩, h5]
    rfl
  · rw [rdq e2 (Or.inl (by decide))]
    exact h3
  · rw [rdq e2 (Or.inl (by decide)), rdq e2 (Or.inl (by decide)), rdq e2 (Or.inl (by decide)), rdq e2 (Or.inl (by decide))]
    have hF2 : dF d2 230 k = dF d 230 k := by
      rw [e2]
      rfl
    rw [hF2]
    obtain ⟨p1, p2, p3, p4, p5⟩ := hk k hk24
    exact ⟨p1, p2, p3, p4, p5⟩
  · dsimp only
    rw [rdq e2 (Or.inl (by omega))]
  · dsimp only
    rw [e2]
    rfl
  · dsimp only
    rw [rdq e2 (Or.inl (by decide))]
end SCC0
