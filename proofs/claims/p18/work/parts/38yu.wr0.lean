/-! rows and columns by closed switches -/
/-- which lines hang together by the keys below k -/
def eqB (r c : Nat) (cl : Int32) : Nat → Nat → Nat → Bool
  | 0, x, y => x == y
  | k + 1, x, y => if bN cl k = true then eqB r c cl k x y || ((eqB r c cl k x (k / c) || eqB r c cl k x (r + k % c)) && (eqB r c cl k y (k / c) || eqB r c cl k y (r + k % c))) else eqB r c cl k x y
def prt (p : Int32) (r c : Nat) (cl : Int32) : Nat → Int32
  | 0 => p
  | k + 1 => if bN cl k = true ∧ eqB r c cl k (k / c) (r + k % c) = false then prt p r c cl k - 1 else prt p r c cl k
def seF (r c : Nat) (cl : Int32) (n : Nat) : Nat → Int32
  | 0 => 0
  | k + 1 => if eqB r c cl n (k / c) (r + k % c) = true then seF r c cl n k ||| ((1 : Int32) <<< (Int32.ofNat k &&& 31)) else seF r c cl n k
def crO (c : Nat) (S : Int32) (o i j : Nat) : Bool := (List.range o).any (fun r2 => r2 != i && (List.range c).any (fun c2 => c2 != j && bN S (c * i + j) && bN S (c * i + c2) && bN S (c * r2 + j) && bN S (c * r2 + c2)))
def baF (r c : Nat) (S : Int32) : Nat → Int32
  | 0 => 0
  | k + 1 => if crO c S r (k / c) (k % c) = true then baF r c S k ||| ((1 : Int32) <<< (Int32.ofNat k &&& 31)) else baF r c S k
/-- lines as the labels P tell them -/
def LAB (m : Nat) (ph : Nat → Nat) (P : Nat → Int32) (e : Nat → Nat → Bool) : Prop := ∀ x y, x < m → y < m → (P (ph x) = P (ph y) ↔ e x y = true)
theorem lab_st {m : Nat} {ph : Nat → Nat} {P P' : Nat → Int32} {e : Nat → Nat → Bool} {a b : Nat} {f t : Int32} (h : LAB m ph P e) (ha : a < m) (hb : b < m) (hft : f = P (ph a) ∧ t = P (ph b) ∨ f = P (ph b) ∧ t = P (ph a)) (hP : ∀ x, x < m → P' (ph x) = if P (ph x) = f then t else P (ph x)) : LAB m ph P' (fun x y => e x y || ((e x a || e x b) && (e y a || e y b))) := by
  intro x y hx hy
  dsimp only
  rw [Bool.or_eq_true, Bool.and_eq_true, Bool.or_eq_true, Bool.or_eq_true, ← h x y hx hy, ← h x a hx ha, ← h x b hx hb, ← h y a hy ha, ← h y b hy hb, hP x hx, hP y hy]
  have sw : ∀ {z : Int32}, (z = P (ph a) ∨ z = P (ph b)) ↔ (z = f ∨ z = t) := by
    intro z
    rcases hft with ⟨h1, h2⟩ | ⟨h1, h2⟩
    · rw [h1, h2]
    · rw [h1, h2]
      exact Or.comm
  rw [sw, sw]
  by_cases z1 : P (ph x) = f
  · rw [if_pos z1]
    by_cases z2 : P (ph y) = f
    · rw [if_pos z2]
      exact ⟨fun _ => Or.inr ⟨Or.inl z1, Or.inl z2⟩, fun _ => rfl⟩
    · rw [if_neg z2]
      constructor
      · intro q
        exact Or.inr ⟨Or.inl z1, Or.inr q.symm⟩
      · rintro (q | ⟨_, q | q⟩)
        · exact absurd (q.symm.trans z1) z2
        · exact absurd q z2
        · exact q.symm
  · rw [if_neg z1]
    by_cases z2 : P (ph y) = f
    · rw [if_pos z2]
      constructor
      · intro q
        exact Or.inr ⟨Or.inr q, Or.inl z2⟩
      · rintro (q | ⟨q | q, _⟩)
        · exact absurd (q.trans z2) z1
        · exact absurd q z1
        · exact q
    · rw [if_neg z2]
      constructor
      · exact Or.inl
      · rintro (q | ⟨q | q, q2 | q2⟩)
        · exact q
        · exact absurd q z1
        · exact absurd q z1
        · exact absurd q2 z2
        · exact q.trans q2.symm
theorem eqB_s {r c : Nat} {cl : Int32} {k : Nat} (h : bN cl k = true) : eqB r c cl (k + 1) = fun x y => eqB r c cl k x y || ((eqB r c cl k x (k / c) || eqB r c cl k x (r + k % c)) && (eqB r c cl k y (k / c) || eqB r c cl k y (r + k % c))) := funext (fun x => funext (fun y => if_pos h))
theorem eqB_n {r c : Nat} {cl : Int32} {k : Nat} (h : ¬ bN cl k = true) : eqB r c cl (k + 1) = eqB r c cl k := funext (fun x => funext (fun y => if_neg h))
theorem crO_iff {c : Nat} {S : Int32} {o i j : Nat} : crO c S o i j = true ↔ ∃ r2, r2 < o ∧ ¬ r2 = i ∧ ∃ c2, c2 < c ∧ ¬ c2 = j ∧ bN S (c * i + j) = true ∧ bN S (c * i + c2) = true ∧ bN S (c * r2 + j) = true ∧ bN S (c * r2 + c2) = true := by
  unfold crO
  simp only [List.any_eq_true, List.mem_range, Bool.and_eq_true, bne_iff_ne, ne_eq, and_assoc]
section WRM
variable {d : Ds} {r c : Nat} {cl : Int32}
/-- rows and columns of a board -/
def RC (r c : Nat) : Prop := r = 0 ∧ c = 0 ∨ 1 ≤ r ∧ r ≤ 4 ∧ 1 ≤ c ∧ c ≤ 6
theorem RC.n (h : RC r c) : r * c ≤ 24 ∧ r + c ≤ 10 ∧ r ≤ 4 ∧ c ≤ 6 := by
  rcases h with ⟨h1, h2⟩ | ⟨h1, h2, h3, h4⟩
  · subst h1
    subst h2
    decide
  · have := Nat.mul_le_mul h2 h4
    omega
/-- a key's row and column -/
theorem RC.k (h : RC r c) {k : Nat} (hk : k < r * c) : 1 ≤ c ∧ k / c < r ∧ k % c < c := by
  rcases h with ⟨h1, h2⟩ | ⟨h1, h2, h3, h4⟩
  · subst h1
    omega
  · exact ⟨h3, (Nat.div_lt_iff_lt_mul (by omega)).mpr hk, Nat.mod_lt _ (by omega)⟩
theorem kdiv {k : Nat} {y w : Int32} (hy : y.toInt = (k : Int)) (hw : w.toInt = (c : Int)) (hc : 1 ≤ c) : (y / w).toInt = ((k / c : Nat) : Int) ∧ (y - y / w * w).toInt = ((k % c : Nat) : Int) := by
  have h1 := z_div (x := y) (y := w) (by omega) (by omega)
  have h2 := z_rem (x := y) (y := w) (by omega) (by omega)
  rw [h1, h2, hy, hw]
  exact ⟨rfl, rfl⟩
theorem mul_rc (h : RC r c) {x y : Int32} (hx : x.toInt = (r : Int)) (hy : y.toInt = (c : Int)) : (x * y).toInt = ((r * c : Nat) : Int) := by
  have hn := h.n
  have : ((r * c : Nat) : Int) = (r : Int) * (c : Int) := Int.natCast_mul r c
  rw [z_mul hx hy (by omega) (by omega), this]
theorem laysParts_e {g : Gs} (hS : Shp g) (hR : RC r c) (hr : (dI d 336 0).toInt = (r : Int)) (hc : (dI d 336 1).toInt = (c : Int)) : pc (fX12_laysParts 10000 g 328 cl d) (fun u d' => u = prt (dI d 336 0 + dI d 336 1) r c cl (r * c) ∧ LAB (r + c) (fun x => x) (fun j => dI d' 340 j) (eqB r c cl (r * c)) ∧ (∀ r' j, ¬ r' = 340 → dI d' r' j = dI d r' j) ∧ d'.2 = d.2) := by
  have e1 : (1 : Int32).toInt = 1 := by decide
  have e0 : (0 : Int32).toInt = 0 := by decide
  have n0 : (0 : Int32).toNatClampNeg = 0 := by decide
  have n1 : (1 : Int32).toNatClampNeg = 1 := by decide
  obtain ⟨hn24, hm10, hr4, hc6⟩ := hR.n
  have hmul := mul_rc hR hr hc
  obtain ⟨p0, hp0⟩ : ∃ p0, dI d 336 0 + dI d 336 1 = p0 := ⟨_, rfl⟩
  have hp0i : p0.toInt = ((r + c : Nat) : Int) := by rw [← hp0, z_add hr hc (by omega) (by omega)]; omega
  obtain ⟨m, hm⟩ : ∃ m, r + c = m := ⟨_, rfl⟩
  obtain ⟨n, hn⟩ : ∃ n, r * c = n := ⟨_, rfl⟩
  rw [hm] at hp0i hm10
  rw [hn] at hn24 hmul
  unfold fX12_laysParts
  refine pc_gd (fun _ => pc_ob (fun r' e => ?_))
  have := gq hS (e := 336) (by decide +kernel) e
  subst this
  rw [n0, n1, hp0, hm, hn]
  refine pc_gd (fun _ => pc_gd (fun _ => pc_gd (fun _ => pc_bd (fun u6 e6 => ?_))))
  rw [e6]
  unfold fX12_laysParts_L16
  refine pc_lp (fun (a : Int32 × Int32 × Ds) => a.1 = p0 ∧ ∃ k : Nat, k ≤ m ∧ a.2.1.toInt = (k : Int) ∧ (∀ l, l < k → (dI a.2.2 340 l).toInt = (l : Int)) ∧ (∀ r' j, ¬ r' = 340 → dI a.2.2 r' j = dI d r' j) ∧ a.2.2.2 = d.2) ?_ 10000 (p0, 0, d) ⟨rfl, 0, Nat.zero_le _, (by decide : (0 : Int32).toInt = ((0 : Nat) : Int)), fun l hl => absurd hl (Nat.not_lt_zero l), fun _ _ _ => rfl, rfl⟩
  rintro K ⟨y2, y3, dd⟩ ⟨ea, k, hk, hy, hl, hf, hF⟩ hK
  dsimp only at ea hy hl hf hF hK ⊢
  subst ea
  unfold fX12_laysParts_B16
  refine pc_if (fun q => ?_) (fun q => ?_)
  · have q2 := Int32.le_iff_toInt_le.mp q
    have km : k = m := by omega
    subst km
    unfold fX12_laysParts_L39
    refine pc_lp (fun (a : Int32 × Int32 × Int32 × Ds) => a.1 = y2 ∧ ∃ i : Nat, i ≤ n ∧ a.2.2.1.toInt = (i : Int) ∧ a.2.1 = prt y2 r c cl i ∧ LAB k (fun x => x) (fun j => dI a.2.2.2 340 j) (eqB r c cl i) ∧ (∀ r' j, ¬ r' = 340 → dI a.2.2.2 r' j = dI d r' j) ∧ a.2.2.2.2 = d.2) ?_ 10000 (y2, y2, 0, dd) ⟨rfl, 0, Nat.zero_le _, (by decide : (0 : Int32).toInt = ((0 : Nat) : Int)), rfl, fun x y hx hy => ?_, hf, hF⟩
    · rintro K2 ⟨z2, z3, z4, de⟩ ⟨ea, i, hi, hz, hp, hL, hf2, hF2⟩ hK2
      dsimp only at ea hz hp hL hf2 hF2 hK2 ⊢
      subst ea
      unfold fX12_laysParts_B39
      refine pc_gd (fun _ => pc_cb (manyM_y hS) (fun u11 d9 r => ?_))
      obtain ⟨e, hu⟩ := r
      subst e
      rw [hf2 336 0 (by decide), hf2 336 1 (by decide)] at hu
      refine pc_if (fun q3 => ?_) (fun q3 => ?_)
      · have q4 := Int32.le_iff_toInt_le.mp q3
        have ein : i = n := by rw [hu] at q4; omega
        subst ein
        exact pc_some ⟨hp, hL, hf2, hF2⟩
      · have q4 := Int32.lt_iff_toInt_lt.mp (nle q3)
        have hin : i < n := by rw [hu] at q4; omega
        obtain ⟨hc1, kd, km2⟩ := hR.k (k := i) (by rw [hn]; exact hin)
        have j148 : ∀ {df : Ds} {w3 : Int32}, w3 = prt z2 r c cl (i + 1) → LAB k (fun x => x) (fun j => dI df 340 j) (eqB r c cl (i + 1)) → (∀ r' j, ¬ r' = 340 → dI df r' j = dI d r' j) → df.2 = d.2 → pc (fX12_laysParts_J148 10000 g 328 cl K2 z2 w3 z4 df) (fun u d' => u = prt z2 r c cl n ∧ LAB k (fun x => x) (fun j => dI d' 340 j) (eqB r c cl n) ∧ (∀ r' j, ¬ r' = 340 → dI d' r' j = dI d r' j) ∧ d'.2 = d.2) := by
          intro df w3 h1 h2 h3 h4
          unfold fX12_laysParts_J148
          refine pc_bd (fun u e => hK2 _ ⟨rfl, i + 1, by omega, ?_, h1, h2, h3, h4⟩)
          dsimp only
          rw [e, z_add hz e1 (by omega) (by omega)]
          omega
        refine pc_cb (hasM_y (k := i) hz (by omega)) (fun u15 d13 r => ?_)
        obtain ⟨e, hb⟩ := r
        subst e
        by_cases hbit : bN cl i = true
        · rw [if_pos hbit] at hb
          rw [hb]
          refine pc_if (fun q5 => absurd q5 (by decide)) (fun _ => pc_ob (fun r' e => ?_))
          have := gq hS (e := 340) (by decide +kernel) e
          subst this
          refine pc_ob (fun r' e => ?_)
          have := gq hS (e := 336) (by decide +kernel) e
          subst this
          have w1 : (dI d13 336 1).toInt = (c : Int) := by rw [hf2 336 1 (by decide)]; exact hc
          have w0 : (dI d13 336 0).toInt = (r : Int) := by rw [hf2 336 0 (by decide)]; exact hr
          obtain ⟨k1, k2⟩ := kdiv hz w1 hc1
          rw [n0, n1, tn k1]
          refine pc_gd (fun _ => pc_gd (fun _ => pc_gd (fun _ => pc_gd (fun _ => pc_gd (fun _ => pc_bd (fun u24 e24 => pc_gd (fun _ => pc_bd (fun u26 e26 => ?_))))))))
          have i26 : u26.toNatClampNeg = r + i % c := tn (by rw [e26, z_add w0 k2 (by omega) (by omega)]; omega)
          rw [i26]
          refine pc_gd (fun _ => pc_bd (fun u28 e28 => ?_))
          have st : ∀ {P' : Nat → Int32}, (∀ x, x < k → P' x = if dI d13 340 x = u24 then u28 else dI d13 340 x) → LAB k (fun x => x) P' (eqB r c cl (i + 1)) := by
            intro P' h
            rw [eqB_s hbit]
            exact lab_st (P := fun j => dI d13 340 j) hL (by omega) (by omega) (Or.inl ⟨e24, e28⟩) h
          refine pc_if (fun q5 => j148 ?_ (st (fun x hx => ?_)) hf2 hF2) (fun q5 => ?_)
          · rw [hp]
            have eb : eqB r c cl i (i / c) (r + i % c) = true := (hL (i / c) (r + i % c) (by omega) (by omega)).mp (by dsimp only; rw [← e24, ← e28]; exact q5)
            exact (if_neg (fun z => by rw [eb] at z; exact absurd z.2 (by decide))).symm
          · by_cases z : dI d13 340 x = u24
            · rw [if_pos z, z, q5]
            · rw [if_neg z]
          · refine pc_bd (fun u30 e30 => ?_)
            have eb : eqB r c cl i (i / c) (r + i % c) = false := by
              cases e : eqB r c cl i (i / c) (r + i % c)
              · rfl
              · exact absurd ((hL (i / c) (r + i % c) (by omega) (by omega)).mpr e) (by dsimp only; rw [← e24, ← e28]; exact q5)
            have hp30 : u30 = prt z2 r c cl (i + 1) := by
              rw [e30, hp]
              show _ = if _ then _ else _
              rw [if_pos ⟨hbit, eb⟩, Int32.sub_eq_add_neg]
            unfold fX12_laysParts_L115
            refine pc_lp (fun (a : Int32 × Int32 × Int32 × Int32 × Int32 × Int32 × Ds) => a.1 = z2 ∧ a.2.1 = u30 ∧ a.2.2.1 = z4 ∧ a.2.2.2.1 = u24 ∧ a.2.2.2.2.1 = u28 ∧ ∃ l : Nat, l ≤ k ∧ a.2.2.2.2.2.1.toInt = (l : Int) ∧ (∀ x, x < l → dI a.2.2.2.2.2.2 340 x = if dI d13 340 x = u24 then u28 else dI d13 340 x) ∧ (∀ x, l ≤ x → dI a.2.2.2.2.2.2 340 x = dI d13 340 x) ∧ (∀ r' j, ¬ r' = 340 → dI a.2.2.2.2.2.2 r' j = dI d r' j) ∧ a.2.2.2.2.2.2.2 = d.2) ?_ 10000 (z2, u30, z4, u24, u28, 0, d13) ⟨rfl, rfl, rfl, rfl, rfl, 0, Nat.zero_le _, (by decide : (0 : Int32).toInt = ((0 : Nat) : Int)), fun x hx => absurd hx (Nat.not_lt_zero x), fun _ _ => rfl, hf2, hF2⟩
            rintro K3 ⟨v2, v3, v4, v5, v6, v7, df⟩ ⟨ea, eb', ec, ed, ee, l, hl', hv, h1, h2, h3, h4⟩ hK3
            dsimp only at ea eb' ec ed ee hv h1 h2 h3 h4 hK3 ⊢
            subst ea
            subst eb'
            subst ec
            subst ed
            subst ee
            unfold fX12_laysParts_B115
            refine pc_if (fun q7 => ?_) (fun q7 => pc_gd (fun _ => pc_ob (fun r' e => ?_)))
            · have q8 := Int32.le_iff_toInt_le.mp q7
              exact j148 hp30 (st (fun x hx => h1 x (by omega))) h3 h4
            · have q8 := Int32.lt_iff_toInt_lt.mp (nle q7)
              have := gq hS (e := 340) (by decide +kernel) e
              subst this
              rw [tn hv]
              have nx : ∀ {dg : Ds}, dI dg 340 l = (if dI d13 340 l = v5 then v6 else dI d13 340 l) → (∀ x, ¬ x = l → dI dg 340 x = dI df 340 x) → (∀ r' j, ¬ r' = 340 → dI dg r' j = dI d r' j) → dg.2 = d.2 → pc (fX12_laysParts_J142 10000 g 328 cl K2 K3 v2 v3 v4 v5 v6 v7 dg) (fun u d' => u = prt v2 r c cl n ∧ LAB k (fun x => x) (fun j => dI d' 340 j) (eqB r c cl n) ∧ (∀ r' j, ¬ r' = 340 → dI d' r' j = dI d r' j) ∧ d'.2 = d.2) := by
                intro dg g1 g2 g3 g4
                unfold fX12_laysParts_J142
                refine pc_bd (fun u e => hK3 _ ⟨rfl, rfl, rfl, rfl, rfl, l + 1, by omega, ?_, fun x hx => ?_, fun x hx => ?_, g3, g4⟩)
                · dsimp only
                  rw [e, z_add hv e1 (by omega) (by omega)]
                  omega
                · dsimp only
                  by_cases z : x = l
                  · rw [z]
                    exact g1
                  · rw [g2 x z]
                    exact h1 x (by omega)
                · dsimp only
                  rw [g2 x (by omega)]
                  exact h2 x (by omega)
              refine pc_gd (fun _ => pc_gd (fun _ => pc_if (fun q9 => pc_bd (fun d39 e39 => nx ?_ (fun x hx => ?_) (fun r' j hr' => ?_) ?_)) (fun q9 => nx ?_ (fun _ _ => rfl) h3 h4)))
              · rw [h2 l (Nat.le_refl l)] at q9
                rw [e39, sI_rd, if_pos ⟨rfl, rfl⟩, if_pos q9]
              · exact rdq e39 (Or.inr hx)
              · rw [rdq e39 (Or.inl hr')]
                exact h3 r' j hr'
              · rw [e39]
                exact h4
              · rw [h2 l (Nat.le_refl l)] at q9 ⊢
                rw [if_neg q9]
        · rw [if_neg hbit] at hb
          rw [hb]
          refine pc_if (fun _ => j148 ?_ (by rw [eqB_n hbit]; exact hL) hf2 hF2) (fun q5 => absurd rfl q5)
          rw [hp]
          exact (if_neg (fun z => hbit z.1)).symm
    · show dI dd 340 x = dI dd 340 y ↔ (x == y) = true
      have lx := hl x hx
      have ly := hl y hy
      rw [beq_iff_eq]
      constructor
      · intro z
        rw [z, ly] at lx
        omega
      · intro z
        rw [z]
  · have q2 := Int32.lt_iff_toInt_lt.mp (nle q)
    refine pc_gd (fun _ => pc_ob (fun r' e => ?_))
    have := gq hS (e := 340) (by decide +kernel) e
    subst this
    refine pc_gd (fun _ => pc_gd (fun _ => pc_bd (fun d44 e44 => pc_bd (fun u45 e45 => ?_))))
    rw [tn hy] at e44
    refine hK _ ⟨rfl, k + 1, by omega, ?_, fun l hl' => ?_, fun r' j hr' => ?_, ?_⟩
    · dsimp only
      rw [e45, z_add hy e1 (by omega) (by omega)]
      omega
    · dsimp only
      rw [e44, sI_rd]
      by_cases z : l = k
      · rw [if_pos ⟨rfl, z⟩, z]
        exact hy
      · rw [if_neg (fun y => z y.2)]
        exact hl l (by omega)
    · dsimp only
      rw [rdq e44 (Or.inl hr')]
      exact hf r' j hr'
    · dsimp only
      rw [e44]
      exact hF
theorem seenBy_e {g : Gs} (hS : Shp g) (hR : RC r c) (hr : (dI d 336 0).toInt = (r : Int)) (hc : (dI d 336 1).toInt = (c : Int)) : pc (fX12_seenBy 10000 g 328 cl d) (fun u d' => u = (if dI d 336 2 = 1 then cl else seF r c cl (r * c) (r * c)) ∧ (∀ r' j, ¬ r' = 340 → dI d' r' j = dI d r' j) ∧ d'.2 = d.2) := by
  have e1 : (1 : Int32).toInt = 1 := by decide
  have n0 : (0 : Int32).toNatClampNeg = 0 := by decide
  have n1 : (1 : Int32).toNatClampNeg = 1 := by decide
  have n2 : (2 : Int32).toNatClampNeg = 2 := by decide
  obtain ⟨hn24, hm10, hr4, hc6⟩ := hR.n
  have hmul := mul_rc hR hr hc
  unfold fX12_seenBy
  refine pc_gd (fun _ => pc_ob (fun r' e => ?_))
  have := gq hS (e := 336) (by decide +kernel) e
  subst this
  rw [n2]
  refine pc_gd (fun _ => pc_gd (fun _ => pc_if (fun q => pc_some ⟨by rw [if_pos q], fun _ _ _ => rfl, rfl⟩) (fun q => pc_cb (laysParts_e hS hR hr hc) (fun u8 d6 r' => ?_))))
  obtain ⟨_, hL, hf, hF⟩ := r'
  rw [if_neg q]
  unfold fX12_seenBy_L23
  refine pc_lp (fun (a : Int32 × Int32 × Ds) => a.2.2 = d6 ∧ ∃ i : Nat, i ≤ r * c ∧ a.2.1.toInt = (i : Int) ∧ a.1 = seF r c cl (r * c) i) ?_ 10000 (0, 0, d6) ⟨rfl, 0, Nat.zero_le _, (by decide : (0 : Int32).toInt = ((0 : Nat) : Int)), rfl⟩
  rintro K ⟨y3, y4, dd⟩ ⟨ed, i, hi, hy, hs⟩ hK
  dsimp only at ed hy hs hK ⊢
  subst ed
  unfold fX12_seenBy_B23
  refine pc_gd (fun _ => pc_cb (manyM_y hS) (fun u12 d10 r' => ?_))
  obtain ⟨e, hu⟩ := r'
  subst e
  rw [hf 336 0 (by decide), hf 336 1 (by decide)] at hu
  refine pc_if (fun q3 => ?_) (fun q3 => ?_)
  · have q4 := Int32.le_iff_toInt_le.mp q3
    have ein : i = r * c := by rw [hu] at q4; omega
    rw [ein] at hs
    exact pc_some ⟨hs, hf, hF⟩
  · have q4 := Int32.lt_iff_toInt_lt.mp (nle q3)
    have hin : i < r * c := by rw [hu] at q4; omega
    obtain ⟨hc1, kd, km2⟩ := hR.k hin
    refine pc_ob (fun r' e => ?_)
    have := gq hS (e := 340) (by decide +kernel) e
    subst this
    refine pc_ob (fun r' e => ?_)
    have := gq hS (e := 336) (by decide +kernel) e
    subst this
    have w1 : (dI d10 336 1).toInt = (c : Int) := by rw [hf 336 1 (by decide)]; exact hc
    have w0 : (dI d10 336 0).toInt = (r : Int) := by rw [hf 336 0 (by decide)]; exact hr
    obtain ⟨k1, k2⟩ := kdiv hy w1 hc1
    rw [n0, n1, tn k1]
    refine pc_gd (fun _ => pc_gd (fun _ => pc_gd (fun _ => pc_gd (fun _ => pc_gd (fun _ => pc_gd (fun _ => pc_bd (fun u22 e22 => ?_)))))))
    have i22 : u22.toNatClampNeg = r + i % c := tn (by rw [e22, z_add w0 k2 (by omega) (by omega)]; omega)
    rw [i22]
    have nx : ∀ {w : Int32}, w = seF r c cl (r * c) (i + 1) → pc (fX12_seenBy_J77 10000 g 328 cl K w y4 d10) (fun u d' => u = seF r c cl (r * c) (r * c) ∧ (∀ r' j, ¬ r' = 340 → dI d' r' j = dI d r' j) ∧ d'.2 = d.2) := by
      intro w hw
      unfold fX12_seenBy_J77
      refine pc_bd (fun u e => hK _ ⟨rfl, i + 1, by omega, ?_, hw⟩)
      dsimp only
      rw [e, z_add hy e1 (by omega) (by omega)]
      omega
    have hLL := hL (i / c) (r + i % c) (by omega) (by omega)
    dsimp only at hLL
    refine pc_gd (fun _ => pc_if (fun q5 => pc_bd (fun u26 e26 => nx ?_)) (fun q5 => nx ?_))
    · rw [e26, hs, ofN hy (by omega)]
      exact (if_pos (hLL.mp q5)).symm
    · rw [hs]
      exact (if_neg (fun z => q5 (hLL.mpr z))).symm
theorem isCornered_e {g : Gs} (hS : Shp g) (hR : RC r c) (hr : (dI d 336 0).toInt = (r : Int)) (hc : (dI d 336 1).toInt = (c : Int)) {S x2 x3 : Int32} {i j : Nat} (hi : i < r) (hj : j < c) (h2 : x2.toInt = (i : Int)) (h3 : x3.toInt = (j : Int)) : pc (fX12_isCornered 10000 g 328 S x2 x3 d) (fun u d' => d' = d ∧ (u = 0 ∧ crO c S r i j = false ∨ u = 1 ∧ crO c S r i j = true)) := by
  have e1 : (1 : Int32).toInt = 1 := by decide
  have n0 : (0 : Int32).toNatClampNeg = 0 := by decide
  have n1 : (1 : Int32).toNatClampNeg = 1 := by decide
  obtain ⟨hn24, hm10, hr4, hc6⟩ := hR.n
  unfold fX12_isCornered
  refine pc_gd (fun _ => pc_ob (fun r' e => ?_))
  have := gq hS (e := 336) (by decide +kernel) e
  subst this
  rw [n1]
  refine pc_gd (fun _ => pc_gd (fun _ => pc_bd (fun u5 e5 => ?_)))
  have h5 : u5.toInt = (c : Int) := by rw [e5]; exact hc
  have fa : (∀ r2, r2 < r → ¬ r2 = i → ∀ c2, c2 < c → ¬ c2 = j → ¬ (bN S (c * i + j) = true ∧ bN S (c * i + c2) = true ∧ bN S (c * r2 + j) = true ∧ bN S (c * r2 + c2) = true)) → crO c S r i j = false := by
    intro h
    cases e : crO c S r i j
    · rfl
    · obtain ⟨r2, a1, a2, c2, a3, a4, a5⟩ := crO_iff.mp e
      exact absurd a5 (h r2 a1 a2 c2 a3 a4)
  unfold fX12_isCornered_L11
  refine pc_lp (fun (a : Int32 × Int32 × Ds) => a.2.2 = d ∧ a.1 = u5 ∧ ∃ o : Nat, o ≤ r ∧ a.2.1.toInt = (o : Int) ∧ ∀ r2, r2 < o → ¬ r2 = i → ∀ c2, c2 < c → ¬ c2 = j → ¬ (bN S (c * i + j) = true ∧ bN S (c * i + c2) = true ∧ bN S (c * r2 + j) = true ∧ bN S (c * r2 + c2) = true)) ?_ 10000 (u5, 0, d) ⟨rfl, rfl, 0, Nat.zero_le _, (by decide : (0 : Int32).toInt = ((0 : Nat) : Int)), fun r2 h => absurd h (Nat.not_lt_zero r2)⟩
  rintro K ⟨y4, y5, dd⟩ ⟨ed, e4, o, ho, hy, hN⟩ hK
  dsimp only at ed e4 hy hN hK ⊢
  subst ed
  subst e4
  unfold fX12_isCornered_B11
  refine pc_gd (fun _ => pc_ob (fun r' e => ?_))
  have := gq hS (e := 336) (by decide +kernel) e
  subst this
  rw [n0]
  refine pc_gd (fun _ => pc_gd (fun _ => pc_if (fun q => ?_) (fun q => ?_)))
  · have q2 := Int32.le_iff_toInt_le.mp q
    have eo : o = r := by omega
    subst eo
    exact pc_some ⟨rfl, Or.inl ⟨rfl, fa hN⟩⟩
  · have q2 := Int32.lt_iff_toInt_lt.mp (nle q)
    have hor : o < r := by omega
    have mlt : ∀ {a b : Nat}, a < r → b < c → c * a + b < 24 := by
      intro a b ha hb
      have : c * (a + 1) ≤ c * r := Nat.mul_le_mul_left c ha
      rw [Nat.mul_succ] at this
      have h24 : c * r ≤ 24 := by rw [Nat.mul_comm]; exact hn24
      omega
    have ix : ∀ {a b : Nat} {x y : Int32}, a < r → b < c → x.toInt = (a : Int) → y.toInt = (b : Int) → ((y4 * x) + y).toInt = ((c * a + b : Nat) : Int) := by
      intro a b x y ha hb hx hy
      have h24 := mlt ha hb
      have hcm : ((c * a : Nat) : Int) = (c : Int) * (a : Int) := Int.natCast_mul c a
      rw [z_add (z_mul h5 hx (by omega) (by omega)) hy (by omega) (by omega)]
      omega
    unfold fX12_isCornered_L25
    refine pc_lp (fun (a : Int32 × Int32 × Int32 × Ds) => a.2.2.2 = dd ∧ a.1 = y4 ∧ a.2.1 = y5 ∧ ∃ p : Nat, p ≤ c ∧ a.2.2.1.toInt = (p : Int) ∧ (¬ o = i → ∀ c2, c2 < p → ¬ c2 = j → ¬ (bN S (c * i + j) = true ∧ bN S (c * i + c2) = true ∧ bN S (c * o + j) = true ∧ bN S (c * o + c2) = true))) ?_ 10000 (y4, y5, 0, dd) ⟨rfl, rfl, rfl, 0, Nat.zero_le _, (by decide : (0 : Int32).toInt = ((0 : Nat) : Int)), fun _ c2 h => absurd h (Nat.not_lt_zero c2)⟩
    rintro K2 ⟨z4, z5, z6, de⟩ ⟨ed, e4, e5', p, hp, hz, hM⟩ hK2
    dsimp only at ed e4 e5' hz hM hK2 ⊢
    subst ed
    subst e4
    subst e5'
    unfold fX12_isCornered_B25
    refine pc_if (fun q3 => pc_bd (fun u12 e12 => hK _ ⟨rfl, rfl, o + 1, by omega, ?_, fun r2 hr2 hne c2 hc2 hne2 => ?_⟩)) (fun q3 => ?_)
    · dsimp only
      rw [e12, z_add hy e1 (by omega) (by omega)]
      omega
    · have q4 := Int32.le_iff_toInt_le.mp q3
      by_cases w : r2 = o
      · subst w
        exact hM hne c2 (by omega) hne2
      · exact hN r2 (by omega) hne c2 hc2 hne2
    · have q4 := Int32.lt_iff_toInt_lt.mp (nle q3)
      have hpc : p < c := by omega
      have nx : (¬ o = i → ¬ p = j → ¬ (bN S (c * i + j) = true ∧ bN S (c * i + p) = true ∧ bN S (c * o + j) = true ∧ bN S (c * o + p) = true)) → pc (fX12_isCornered_J105 10000 g 328 S x2 x3 K K2 z4 z5 z6 de) (fun u d' => d' = de ∧ (u = 0 ∧ crO c S r i j = false ∨ u = 1 ∧ crO c S r i j = true)) := by
        intro h
        unfold fX12_isCornered_J105
        refine pc_bd (fun u e => hK2 _ ⟨rfl, rfl, rfl, p + 1, by omega, ?_, fun hne c2 hc2 hne2 => ?_⟩)
        · dsimp only
          rw [e, z_add hz e1 (by omega) (by omega)]
          omega
        · by_cases w : c2 = p
          · subst w
            exact h hne hne2
          · exact hM hne c2 (by omega) hne2
      refine pc_if (fun q5 => nx (fun z => absurd ?_ z)) (fun q5 => pc_if (fun q6 => nx (fun _ z => absurd ?_ z)) (fun q6 => ?_))
      · have := congrArg Int32.toInt q5
        rw [hy, h2] at this
        omega
      · have := congrArg Int32.toInt q6
        rw [hz, h3] at this
        omega
      have bt : ∀ {u : Int32} {k : Nat}, u = (if bN S k = true then (1 : Int32) else 0) → (u = 0 → ¬ bN S k = true) ∧ (¬ u = 0 → bN S k = true) := by
        intro u k h
        cases e : bN S k
        · exact ⟨fun _ z => absurd z (by decide), fun z => absurd (by rw [h, e]; rfl) z⟩
        · exact ⟨fun z => absurd (by rw [← z, h, e]; rfl : (1 : Int32) = 0) (by decide), fun _ => rfl⟩
      refine pc_cb (hasM_y (k := c * i + j) (ix hi hj h2 h3) (by have := mlt hi hj; omega)) (fun u18 d16 r' => ?_)
      obtain ⟨e, b1⟩ := r'
      subst e
      refine pc_if (fun q7 => nx (fun _ _ z => (bt b1).1 q7 z.1)) (fun q7 => ?_)
      refine pc_cb (hasM_y (k := c * i + p) (ix hi hpc h2 hz) (by have := mlt hi hpc; omega)) (fun u22 d20 r' => ?_)
      obtain ⟨e, b2⟩ := r'
      subst e
      refine pc_if (fun q8 => nx (fun _ _ z => (bt b2).1 q8 z.2.1)) (fun q8 => ?_)
      refine pc_cb (hasM_y (k := c * o + j) (ix hor hj hy h3) (by have := mlt hor hj; omega)) (fun u26 d24 r' => ?_)
      obtain ⟨e, b3⟩ := r'
      subst e
      refine pc_if (fun q9 => nx (fun _ _ z => (bt b3).1 q9 z.2.2.1)) (fun q9 => ?_)
      refine pc_cb (hasM_y (k := c * o + p) (ix hor hpc hy hz) (by have := mlt hor hpc; omega)) (fun u30 d28 r' => ?_)
      obtain ⟨e, b4⟩ := r'
      subst e
      refine pc_if (fun q10 => nx (fun _ _ z => (bt b4).1 q10 z.2.2.2)) (fun q10 => pc_some ⟨rfl, Or.inr ⟨rfl, crO_iff.mpr ⟨o, hor, fun z => q5 ?_, p, hpc, fun z => q6 ?_, (bt b1).2 q7, (bt b2).2 q8, (bt b3).2 q9, (bt b4).2 q10⟩⟩⟩)
      · exact Int32.toInt_inj.mp (by rw [hy, h2, z])
      · exact Int32.toInt_inj.mp (by rw [hz, h3, z])
theorem barredBy_e {g : Gs} (hS : Shp g) (hR : RC r c) (hr : (dI d 336 0).toInt = (r : Int)) (hc : (dI d 336 1).toInt = (c : Int)) {S : Int32} : pc (fX12_barredBy 10000 g 328 S d) (fun u d' => d' = d ∧ u = if dI d 336 2 = 1 then 0 else baF r c S (r * c)) := by
  have e1 : (1 : Int32).toInt = 1 := by decide
  have n1 : (1 : Int32).toNatClampNeg = 1 := by decide
  have n2 : (2 : Int32).toNatClampNeg = 2 := by decide
  obtain ⟨hn24, hm10, hr4, hc6⟩ := hR.n
  have hmul := mul_rc hR hr hc
  unfold fX12_barredBy
  refine pc_gd (fun _ => pc_ob (fun r' e => ?_))
  have := gq hS (e := 336) (by decide +kernel) e
  subst this
  rw [n2]
  refine pc_gd (fun _ => pc_gd (fun _ => pc_if (fun q => pc_some ⟨rfl, by rw [if_pos q]⟩) (fun q => ?_)))
  rw [if_neg q]
  unfold fX12_barredBy_L16
  refine pc_lp (fun (a : Int32 × Int32 × Ds) => a.2.2 = d ∧ ∃ i : Nat, i ≤ r * c ∧ a.2.1.toInt = (i : Int) ∧ a.1 = baF r c S i) ?_ 10000 (0, 0, d) ⟨rfl, 0, Nat.zero_le _, (by decide : (0 : Int32).toInt = ((0 : Nat) : Int)), rfl⟩
  rintro K ⟨y2, y3, dd⟩ ⟨ed, i, hi, hy, hs⟩ hK
  dsimp only at ed hy hs hK ⊢
  subst ed
  unfold fX12_barredBy_B16
  refine pc_gd (fun _ => pc_cb (manyM_y hS) (fun u9 d7 r' => ?_))
  obtain ⟨e, hu⟩ := r'
  subst e
  refine pc_if (fun q3 => ?_) (fun q3 => ?_)
  · have q4 := Int32.le_iff_toInt_le.mp q3
    have ein : i = r * c := by rw [hu] at q4; omega
    rw [ein] at hs
    exact pc_some ⟨rfl, hs⟩
  · have q4 := Int32.lt_iff_toInt_lt.mp (nle q3)
    have hin : i < r * c := by rw [hu] at q4; omega
    obtain ⟨hc1, kd, km2⟩ := hR.k hin
    refine pc_ob (fun r' e => ?_)
    have := gq hS (e := 336) (by decide +kernel) e
    subst this
    obtain ⟨k1, k2⟩ := kdiv hy hc hc1
    rw [n1]
    have nx : ∀ {w : Int32}, w = baF r c S (i + 1) → pc (fX12_barredBy_J54 10000 g 328 S K w y3 d7) (fun u d' => d' = d7 ∧ u = baF r c S (r * c)) := by
      intro w hw
      unfold fX12_barredBy_J54
      refine pc_bd (fun u e => hK _ ⟨rfl, i + 1, by omega, ?_, hw⟩)
      dsimp only
      rw [e, z_add hy e1 (by omega) (by omega)]
      omega
    refine pc_gd (fun _ => pc_gd (fun _ => pc_gd (fun _ => pc_cb (isCornered_e hS hR hr hc kd km2 k1 k2) (fun u17 d15 r' => ?_))))
    obtain ⟨e, hh⟩ := r'
    subst e
    rcases hh with ⟨hu17, hcr⟩ | ⟨hu17, hcr⟩ <;> rw [hu17]
    · refine pc_if (fun _ => nx ?_) (fun z => absurd rfl z)
      rw [hs]
      exact (if_neg (by rw [hcr]; decide)).symm
    · refine pc_if (fun z => absurd z (by decide)) (fun _ => pc_bd (fun u20 e20 => nx ?_))
      rw [e20, hs, ofN hy (by omega)]
      exact (if_pos hcr).symm
end WRM
