/-! the class's wiring -/
/-- where a line lies in the class -/
def phC (r x : Nat) : Nat := if x < r then x else 4 + (x - r)
theorem phC_10 {r c x : Nat} (h : x < r + c) (hr : r ≤ 4) (hc : c ≤ 6) : phC r x < 10 := by
  unfold phC
  split <;> omega
section WRC
variable {d : Ds} {r c : Nat} {cl : Int32}
theorem len226 {g : Gs} (hS : Shp g) : gL g 226 = 10 := (hS.2.1 226 (by decide)).2.trans (by decide +kernel)
theorem hasKey_k {N : Nat} {g : Gs} {y : Int32} {i n : Nat} (hm : (dI d 117 0 * dI d 117 1).toInt = (n : Int)) (hy : y.toInt = (i : Int)) : pc (fX0_hasKey N g 117 y d) (fun u d' => d' = d ∧ (u = 1 ∧ i < n ∨ u = 0 ∧ n ≤ i)) := by
  refine pc_mono hasKey_y (fun u d' h => ⟨h.1, ?_⟩)
  rw [hm] at h
  rcases h.2 with ⟨a, b1, b2⟩ | ⟨a, b⟩
  · exact Or.inl ⟨a, by omega⟩
  · exact Or.inr ⟨a, by omega⟩
theorem join_e {g : Gs} (hS : Shp g) (hR : RC r c) (hr : (dI d 117 0).toInt = (r : Int)) (hc : (dI d 117 1).toInt = (c : Int)) : pc (fX9_join 10000 g 225 117 cl d) (fun _ d' => dI d' 225 1 = prt (dI d 117 0 + dI d 117 1) r c cl (r * c) ∧ LAB (r + c) (phC r) (fun j => dI d' 226 j) (eqB r c cl (r * c)) ∧ (∀ r' j, ¬ r' = 226 → ¬ (r' = 225 ∧ j = 1) → dI d' r' j = dI d r' j)) := by
  have e1 : (1 : Int32).toInt = 1 := by decide
  have e4 : (4 : Int32).toInt = 4 := by decide
  have e24 : (24 : Int32).toInt = 24 := by decide
  have eL : (Int32.ofNat 10).toInt = 10 := by decide
  obtain ⟨hn24, hm10, hr4, hc6⟩ := hR.n
  have hmul := mul_rc hR hr hc
  obtain ⟨n, hn⟩ : ∃ n, r * c = n := ⟨_, rfl⟩
  obtain ⟨p0, hp0⟩ : ∃ p0, dI d 117 0 + dI d 117 1 = p0 := ⟨_, rfl⟩
  rw [hn] at hn24 hmul
  rw [hn, hp0]
  unfold fX9_join fX9_join_L2
  refine pc_lp (fun (a : Int32 × Ds) => ∃ k : Nat, k ≤ 10 ∧ a.1.toInt = (k : Int) ∧ (∀ l, l < k → (dI a.2 226 l).toInt = (l : Int)) ∧ ∀ r' j, ¬ r' = 226 → dI a.2 r' j = dI d r' j) ?_ 10000 (0, d) ⟨0, Nat.zero_le _, (by decide : (0 : Int32).toInt = ((0 : Nat) : Int)), fun l hl => absurd hl (Nat.not_lt_zero l), fun _ _ _ => rfl⟩
  rintro K ⟨y3, dd⟩ ⟨k, hk, hy, hl, hf⟩ hK
  dsimp only at hy hl hf hK ⊢
  unfold fX9_join_B2
  refine pc_gd (fun _ => pc_ob (fun r' e => ?_))
  have := gq hS (e := 226) (by decide +kernel) e
  subst this
  rw [len226 hS]
  refine pc_gd (fun _ => pc_if (fun q => pc_gd (fun _ => pc_bd (fun d6 e6 => ?_))) (fun q => ?_))
  · have q2 := Int32.le_iff_toInt_le.mp q
    have km : k = 10 := by omega
    subst km
    have f6 : ∀ r' j, ¬ r' = 226 → ¬ (r' = 225 ∧ j = 1) → dI d6 r' j = dI d r' j := fun r' j h1 h2 => by
      rw [e6, sI_rd, if_neg h2]
      exact hf r' j h1
    have v6 : dI d6 225 1 = p0 := by rw [e6, sI_rd, if_pos ⟨rfl, rfl⟩, hf 117 0 (by decide), hf 117 1 (by decide), hp0]
    unfold fX9_join_L39
    refine pc_lp (fun (a : Int32 × Ds) => ∃ i : Nat, i ≤ n ∧ a.1.toInt = (i : Int) ∧ dI a.2 225 1 = prt p0 r c cl i ∧ LAB (r + c) (phC r) (fun j => dI a.2 226 j) (eqB r c cl i) ∧ ∀ r' j, ¬ r' = 226 → ¬ (r' = 225 ∧ j = 1) → dI a.2 r' j = dI d r' j) ?_ 10000 (0, d6) ⟨0, Nat.zero_le _, (by decide : (0 : Int32).toInt = ((0 : Nat) : Int)), v6, fun x y hx hy => ?_, f6⟩
    · rintro K2 ⟨z3, de⟩ ⟨i, hi, hz, hp, hL, hf2⟩ hK2
      dsimp only at hz hp hL hf2 hK2 ⊢
      unfold fX9_join_B39
      have fin : ∀ {df : Ds}, df = de → n ≤ i → pc (fX9_join_J152 10000 g 225 117 cl df) (fun _ d' => dI d' 225 1 = prt p0 r c cl n ∧ LAB (r + c) (phC r) (fun j => dI d' 226 j) (eqB r c cl n) ∧ ∀ r' j, ¬ r' = 226 → ¬ (r' = 225 ∧ j = 1) → dI d' r' j = dI d r' j) := by
        intro df e h
        subst e
        have : i = n := by omega
        subst this
        unfold fX9_join_J152
        exact pc_some ⟨hp, hL, hf2⟩
      have w0 : (dI de 117 0).toInt = (r : Int) := by rw [hf2 117 0 (by decide) (by decide)]; exact hr
      have w1 : (dI de 117 1).toInt = (c : Int) := by rw [hf2 117 1 (by decide) (by decide)]; exact hc
      have wm : (dI de 117 0 * dI de 117 1).toInt = (n : Int) := by rw [hf2 117 0 (by decide) (by decide), hf2 117 1 (by decide) (by decide)]; exact hmul
      refine pc_gd (fun _ => pc_cb (hasKey_k wm hz) (fun u10 d8 r' => ?_))
      obtain ⟨e, hu⟩ := r'
      subst e
      rcases hu with ⟨hu, hin⟩ | ⟨hu, hin⟩ <;> rw [hu]
      · obtain ⟨hc1, kd, km2⟩ := hR.k (k := i) (by rw [hn]; exact hin)
        obtain ⟨k1, k2⟩ := kdiv hz w1 hc1
        refine pc_if (fun q3 => absurd q3 (by decide)) (fun _ => pc_if (fun q3 => ?_) (fun q3 => pc_gd (fun _ => pc_ob (fun r' e => ?_))))
        · have := Int32.le_iff_toInt_le.mp q3
          omega
        have := gq hS (e := 226) (by decide +kernel) e
        subst this
        have ph1 : phC r (i / c) = i / c := if_pos kd
        have ph2 : phC r (r + i % c) = 4 + i % c := by
          unfold phC
          rw [if_neg (by omega)]
          omega
        rw [tn (p := 4 + i % c) (by rw [z_add e4 k2 (by omega) (by omega)]; omega), tn k1]
        refine pc_gd (fun _ => pc_gd (fun _ => pc_gd (fun _ => pc_bd (fun u18 e18 => pc_gd (fun _ => pc_bd (fun u20 e20 => pc_cb (isIn_k (k := i) hz (by omega)) (fun u23 d21 r' => ?_)))))))
        obtain ⟨e, hb⟩ := r'
        subst e
        have j146 : ∀ {df : Ds}, dI df 225 1 = prt p0 r c cl (i + 1) → LAB (r + c) (phC r) (fun j => dI df 226 j) (eqB r c cl (i + 1)) → (∀ r' j, ¬ r' = 226 → ¬ (r' = 225 ∧ j = 1) → dI df r' j = dI d r' j) → pc (fX9_join_J146 10000 g 225 117 cl K2 z3 df) (fun _ d' => dI d' 225 1 = prt p0 r c cl n ∧ LAB (r + c) (phC r) (fun j => dI d' 226 j) (eqB r c cl n) ∧ ∀ r' j, ¬ r' = 226 → ¬ (r' = 225 ∧ j = 1) → dI d' r' j = dI d r' j) := by
          intro df h1 h2 h3
          unfold fX9_join_J146
          refine pc_bd (fun u e => hK2 _ ⟨i + 1, by omega, ?_, h1, h2, h3⟩)
          dsimp only
          rw [e, z_add hz e1 (by omega) (by omega)]
          omega
        by_cases hbit : bN cl i = true
        · rw [if_pos hbit] at hb
          rw [hb]
          have st : ∀ {P' : Nat → Int32}, (∀ x, x < 10 → P' x = if dI d21 226 x = u18 then u20 else dI d21 226 x) → LAB (r + c) (phC r) P' (eqB r c cl (i + 1)) := by
            intro P' h
            rw [eqB_s hbit]
            exact lab_st (P := fun j => dI d21 226 j) hL (by omega) (by omega) (Or.inr ⟨by rw [ph2]; exact e18, by rw [ph1]; exact e20⟩) (fun x hx => h _ (phC_10 hx hr4 hc6))
          have hLL := hL (i / c) (r + i % c) (by omega) (by omega)
          dsimp only at hLL
          rw [ph1, ph2, ← e18, ← e20] at hLL
          refine pc_if (fun q5 => absurd q5 (by decide)) (fun _ => pc_if (fun q5 => j146 ?_ (st (fun x hx => ?_)) hf2) (fun q5 => pc_bd (fun d27 e27 => ?_)))
          · rw [hp]
            have eb := hLL.mp q5.symm
            exact (if_neg (fun z => by rw [eb] at z; exact absurd z.2 (by decide))).symm
          · by_cases z : dI d21 226 x = u18
            · rw [if_pos z, z, q5]
            · rw [if_neg z]
          · have eb : eqB r c cl i (i / c) (r + i % c) = false := by
              cases e : eqB r c cl i (i / c) (r + i % c)
              · rfl
              · exact absurd (hLL.mpr e).symm q5
            have v27 : dI d27 225 1 = prt p0 r c cl (i + 1) := by
              rw [e27, sI_rd, if_pos ⟨rfl, rfl⟩, hp]
              exact (if_pos ⟨hbit, eb⟩).symm
            have f27 : ∀ r' j, ¬ r' = 226 → ¬ (r' = 225 ∧ j = 1) → dI d27 r' j = dI d r' j := fun r' j h1 h2 => by
              rw [e27, sI_rd, if_neg h2]
              exact hf2 r' j h1 h2
            have l27 : ∀ x, dI d27 226 x = dI d21 226 x := fun x => rdq e27 (Or.inl (by decide))
            unfold fX9_join_L109
            refine pc_lp (fun (a : Int32 × Int32 × Int32 × Int32 × Ds) => a.1 = z3 ∧ a.2.1 = u18 ∧ a.2.2.1 = u20 ∧ ∃ l : Nat, l ≤ 10 ∧ a.2.2.2.1.toInt = (l : Int) ∧ (∀ x, x < l → dI a.2.2.2.2 226 x = if dI d21 226 x = u18 then u20 else dI d21 226 x) ∧ (∀ x, l ≤ x → dI a.2.2.2.2 226 x = dI d21 226 x) ∧ dI a.2.2.2.2 225 1 = prt p0 r c cl (i + 1) ∧ ∀ r' j, ¬ r' = 226 → ¬ (r' = 225 ∧ j = 1) → dI a.2.2.2.2 r' j = dI d r' j) ?_ 10000 (z3, u18, u20, 0, d27) ⟨rfl, rfl, rfl, 0, Nat.zero_le _, (by decide : (0 : Int32).toInt = ((0 : Nat) : Int)), fun x hx => absurd hx (Nat.not_lt_zero x), fun x _ => l27 x, v27, f27⟩
            rintro K3 ⟨v3, v4, v5, v6, df⟩ ⟨ea, eb', ec, l, hl', hv, h1, h2, h3, h4⟩ hK3
            dsimp only at ea eb' ec hv h1 h2 h3 h4 hK3 ⊢
            subst ea
            subst eb'
            subst ec
            unfold fX9_join_B109
            refine pc_gd (fun _ => pc_ob (fun r' e => ?_))
            have := gq hS (e := 226) (by decide +kernel) e
            subst this
            rw [len226 hS]
            refine pc_gd (fun _ => pc_if (fun q7 => ?_) (fun q7 => ?_))
            · have q8 := Int32.le_iff_toInt_le.mp q7
              exact j146 h3 (st (fun x hx => h1 x (by omega))) h4
            · have q8 := Int32.lt_iff_toInt_lt.mp (nle q7)
              rw [tn hv]
              have nx : ∀ {dg : Ds}, dI dg 226 l = (if dI d21 226 l = v4 then v5 else dI d21 226 l) → (∀ x, ¬ x = l → dI dg 226 x = dI df 226 x) → (∀ r' j, ¬ r' = 226 → dI dg r' j = dI df r' j) → pc (fX9_join_J140 10000 g 225 117 cl K2 K3 v3 v4 v5 v6 dg) (fun _ d' => dI d' 225 1 = prt p0 r c cl n ∧ LAB (r + c) (phC r) (fun j => dI d' 226 j) (eqB r c cl n) ∧ ∀ r' j, ¬ r' = 226 → ¬ (r' = 225 ∧ j = 1) → dI d' r' j = dI d r' j) := by
                intro dg g1 g2 g3
                unfold fX9_join_J140
                refine pc_bd (fun u e => hK3 _ ⟨rfl, rfl, rfl, l + 1, by omega, ?_, fun x hx => ?_, fun x hx => ?_, ?_, fun r' j a b => ?_⟩)
                · dsimp only
                  rw [e, z_add hv e1 (by omega) (by omega)]
                  omega
                · dsimp only
                  by_cases z : x = l
                  · rw [z]
                    exact g1
                  · rw [g2 x z]
                    exact h1 x (by omega)
                · dsimp only
                  rw [g2 x (by omega)]
                  exact h2 x (by omega)
                · dsimp only
                  rw [g3 225 1 (by decide)]
                  exact h3
                · dsimp only
                  rw [g3 r' j a]
                  exact h4 r' j a b
              refine pc_gd (fun _ => pc_if (fun q9 => pc_bd (fun d35 e35 => nx ?_ (fun x hx => ?_) (fun r' j hr' => ?_))) (fun q9 => nx ?_ (fun _ _ => rfl) (fun _ _ _ => rfl)))
              · rw [h2 l (Nat.le_refl l)] at q9
                rw [e35, sI_rd, if_pos ⟨rfl, rfl⟩, if_pos q9]
              · exact rdq e35 (Or.inr hx)
              · exact rdq e35 (Or.inl hr')
              · rw [h2 l (Nat.le_refl l)] at q9 ⊢
                rw [if_neg q9]
        · rw [if_neg hbit] at hb
          rw [hb]
          refine pc_if (fun _ => j146 ?_ (by rw [eqB_n hbit]; exact hL) hf2) (fun q5 => absurd rfl q5)
          rw [hp]
          exact (if_neg (fun z => hbit z.1)).symm
      · exact pc_if (fun _ => fin rfl hin) (fun q3 => absurd rfl q3)
    · show dI d6 226 (phC r x) = dI d6 226 (phC r y) ↔ (x == y) = true
      have g6 : ∀ l, dI d6 226 l = dI dd 226 l := fun l => rdq e6 (Or.inl (by decide))
      rw [g6, g6, beq_iff_eq]
      have lx := hl _ (phC_10 hx hr4 hc6)
      have ly := hl _ (phC_10 hy hr4 hc6)
      constructor
      · intro z
        rw [z, ly] at lx
        have e : phC r x = phC r y := by omega
        unfold phC at e
        split at e <;> split at e <;> omega
      · intro z
        rw [z]
  · have q2 := Int32.lt_iff_toInt_lt.mp (nle q)
    refine pc_gd (fun _ => pc_bd (fun d37 e37 => pc_bd (fun u38 e38 => ?_)))
    rw [tn hy] at e37
    refine hK _ ⟨k + 1, by omega, ?_, fun l hl' => ?_, fun r' j hr' => ?_⟩
    · dsimp only
      rw [e38, z_add hy e1 (by omega) (by omega)]
      omega
    · dsimp only
      rw [e37, sI_rd]
      by_cases z : l = k
      · rw [if_pos ⟨rfl, z⟩, z]
        exact hy
      · rw [if_neg (fun y => z y.2)]
        exact hl l (by omega)
    · dsimp only
      rw [rdq e37 (Or.inl hr')]
      exact hf r' j hr'
/-! bits of rows -/
theorem bN_big {x : Int32} {j : Nat} (h : 32 ≤ j) : bN x j = false := BitVec.getLsbD_of_ge _ _ h
theorem bN_ush {x : Int32} {s j : Nat} (hs : s < 32) : bN ((x.toUInt32 >>> ((Int32.ofNat s).toUInt32 &&& Int32.toUInt32 31)).toInt32) j = bN x (s + j) := by
  have hh : ∀ k, k < 32 → (((Int32.ofNat k).toUInt32 &&& Int32.toUInt32 31).toBitVec % 32) = BitVec.ofNat 32 k := by decide
  unfold bN
  show (x.toBitVec >>> (((Int32.ofNat s).toUInt32 &&& Int32.toUInt32 31).toBitVec % 32)).getLsbD j = _
  rw [hh s hs, BitVec.ushiftRight_eq', BitVec.toNat_ofNat, Nat.mod_eq_of_lt (show s < 2 ^ 32 by omega), BitVec.getLsbD_ushiftRight]
theorem bN_sl {x : Int32} {s j : Nat} (hs : s < 32) (hj : j < 32) : bN (x <<< (Int32.ofNat s &&& 31)) j = (decide (s ≤ j) && bN x (j - s)) := by
  have hh : ∀ k, k < 32 → ((Int32.ofNat k &&& 31).toBitVec.smod 32) = BitVec.ofNat 32 k := by decide
  unfold bN
  show (x.toBitVec <<< ((Int32.ofNat s &&& 31).toBitVec.smod 32)).getLsbD j = _
  rw [hh s hs, BitVec.shiftLeft_eq', BitVec.toNat_ofNat, Nat.mod_eq_of_lt (show s < 2 ^ 32 by omega), BitVec.getLsbD_shiftLeft, decide_eq_true hj, Bool.true_and]
  by_cases z : s ≤ j
  · rw [decide_eq_true z, decide_eq_false (by omega : ¬ j < s)]
    rfl
  · rw [decide_eq_false z, decide_eq_true (by omega : j < s)]
    rfl
theorem bN_mask {c j : Nat} (hc : c ≤ 6) (hj : j < 32) : bN (((1 : Int32) <<< (Int32.ofNat c &&& 31)) - 1) j = decide (j < c) := by
  have all : ∀ c, c ≤ 6 → ∀ j, j < 32 → bN (((1 : Int32) <<< (Int32.ofNat c &&& 31)) - 1) j = decide (j < c) := by decide +kernel
  exact all c hc j hj
theorem bN_sm {x : Int32} {m : Nat} (hm : m ≤ 30) (h : ∀ j, m ≤ j → j < 32 → bN x j = false) : ∃ w, w < 2 ^ m ∧ x = Int32.ofNat w := by
  refine ⟨x.toBitVec.toNat, Nat.lt_pow_two_of_testBit _ (fun i hi => ?_), ?_⟩
  · rw [BitVec.testBit_toNat]
    by_cases z : i < 32
    · exact h i hi z
    · exact BitVec.getLsbD_of_ge _ _ (by omega)
  · refine Int32.toBitVec_inj.mp ?_
    show x.toBitVec = BitVec.ofNat 32 x.toBitVec.toNat
    rw [BitVec.ofNat_toNat, BitVec.setWidth_eq]
/-- what the JDK's bitCount reckons -/
def bcF (x0 : Int32) : Int32 :=
  let u1 := x0 - (((x0.toUInt32 >>> ((1 : Int32).toUInt32 &&& Int32.toUInt32 31)).toInt32) &&& 1431655765)
  let u2 := (u1 &&& 858993459) + (((u1.toUInt32 >>> ((2 : Int32).toUInt32 &&& Int32.toUInt32 31)).toInt32) &&& 858993459)
  let u3 := (u2 + ((u2.toUInt32 >>> ((4 : Int32).toUInt32 &&& Int32.toUInt32 31)).toInt32)) &&& 252645135
  let u4 := u3 + ((u3.toUInt32 >>> ((8 : Int32).toUInt32 &&& Int32.toUInt32 31)).toInt32)
  let u5 := u4 + ((u4.toUInt32 >>> ((16 : Int32).toUInt32 &&& Int32.toUInt32 31)).toInt32)
  u5 &&& 63
theorem bitCount_e {N : Nat} {g : Gs} {x : Int32} : pc (fJ6_bitCount_0f7a4 N g x d) (fun u d' => d' = d ∧ u = bcF x) := by
  unfold fJ6_bitCount_0f7a4
  refine pc_bd (fun u1 e1 => pc_bd (fun u2 e2 => pc_bd (fun u3 e3 => pc_bd (fun u4 e4 => pc_bd (fun u5 e5 => pc_some ⟨rfl, ?_⟩)))))
  subst e5
  subst e4
  subst e3
  subst e2
  subst e1
  rfl
theorem bc6b : (List.range 64).all (fun w => decide (bcF (Int32.ofNat w) ≤ 1) == (List.range 6).all (fun j => (List.range 6).all (fun k => (j == k) || !(bN (Int32.ofNat w) j && bN (Int32.ofNat w) k)))) = true := by decide +kernel
theorem bc6 : ∀ w, w < 64 → (bcF (Int32.ofNat w) ≤ 1 ↔ ∀ j, j < 6 → ∀ k, k < 6 → ¬ j = k → ¬ (bN (Int32.ofNat w) j = true ∧ bN (Int32.ofNat w) k = true)) := by
  intro w hw
  have h := List.all_eq_true.mp bc6b w (List.mem_range.mpr hw)
  rw [beq_iff_eq] at h
  constructor
  · intro hl j hj k hk hne hb
    rw [decide_eq_true hl] at h
    have a := List.all_eq_true.mp (List.all_eq_true.mp h.symm j (List.mem_range.mpr hj)) k (List.mem_range.mpr hk)
    rw [hb.1, hb.2] at a
    rcases Bool.or_eq_true_iff.mp a with a | a
    · exact hne (beq_iff_eq.mp a)
    · exact absurd a (by decide)
  · intro ha
    have e : (List.range 6).all (fun j => (List.range 6).all (fun k => (j == k) || !(bN (Int32.ofNat w) j && bN (Int32.ofNat w) k))) = true := by
      refine List.all_eq_true.mpr (fun j hj => List.all_eq_true.mpr (fun k hk => ?_))
      by_cases z : j = k
      · rw [z, beq_self_eq_true, Bool.true_or]
      · have := ha j (List.mem_range.mp hj) k (List.mem_range.mp hk) z
        rw [Bool.or_comm]
        cases e1 : bN (Int32.ofNat w) j
        · rfl
        · cases e2 : bN (Int32.ofNat w) k
          · rfl
          · exact absurd ⟨e1, e2⟩ this
    rw [e] at h
    exact of_decide_eq_true h
theorem baF_b {S : Int32} : ∀ n, n ≤ 32 → ∀ j, j < 32 → bN (baF r c S n) j = (decide (j < n) && crO c S r (j / c) (j % c)) := by
  intro n
  induction n with
  | zero =>
    intro _ j _
    show bN 0 j = _
    rw [bN_0, decide_eq_false (Nat.not_lt_zero j)]
    rfl
  | succ n ih =>
    intro hn j hj
    have h := ih (by omega) j hj
    have lt : ¬ j = n → decide (j < n + 1) = decide (j < n) := fun z => decide_eq_decide.mpr (by omega)
    cases e : crO c S r (n / c) (n % c)
    · have eb : baF r c S (n + 1) = baF r c S n := if_neg (by rw [e]; decide)
      rw [eb, h]
      by_cases z : j = n
      · subst z
        rw [e, Bool.and_false, Bool.and_false]
      · rw [lt z]
    · have eb : baF r c S (n + 1) = baF r c S n ||| ((1 : Int32) <<< (Int32.ofNat n &&& 31)) := if_pos e
      rw [eb, bN_or, bN_1 (by omega) hj, h]
      by_cases z : j = n
      · subst z
        rw [e, decide_eq_true rfl, decide_eq_true (Nat.lt_succ_self j), Bool.or_true]
        rfl
      · rw [lt z, decide_eq_false z, Bool.or_false]
theorem bar_e {g : Gs} (hS : Shp g) (hR : RC r c) (hr : (dI d 117 0).toInt = (r : Int)) (hc : (dI d 117 1).toInt = (c : Int)) {x : Int32} {i : Nat} (hx : x.toInt = (i : Int)) (hi : i < r) : pc (fX9_bar 10000 g 225 117 x d) (fun _ d' => (∀ j, j < 32 → bN (dI d' 225 3) j = (bN (dI d 225 3) j || (decide (j / c = i) && crO c (dI d 225 2) r i (j % c)))) ∧ ∀ r' j, ¬ (r' = 225 ∧ j = 3) → dI d' r' j = dI d r' j) := by
  have e1 : (1 : Int32).toInt = 1 := by decide
  obtain ⟨hn24, hm10, hr4, hc6⟩ := hR.n
  have hc1 : 1 ≤ c := by rcases hR with h | h <;> omega
  have mc : ∀ {a : Nat} {y : Int32}, a < r → y.toInt = (a : Int) → y * dI d 117 1 = Int32.ofNat (a * c) ∧ a * c + c ≤ 24 := by
    intro a y ha hy
    have h1 : (a + 1) * c ≤ r * c := Nat.mul_le_mul_right c ha
    rw [Nat.succ_mul] at h1
    have hcm : ((a * c : Nat) : Int) = (a : Int) * (c : Int) := Int.natCast_mul a c
    exact ⟨ofN (by rw [z_mul hy hc (by omega) (by omega)]; omega) (by omega), by omega⟩
  obtain ⟨mi, hi24⟩ := mc hi hx
  obtain ⟨S, hSe⟩ : ∃ S, dI d 225 2 = S := ⟨_, rfl⟩
  rw [hSe]
  unfold fX9_bar
  refine pc_gd (fun _ => pc_bd (fun u2 e2 => pc_gd (fun _ => pc_bd (fun u4 e4 => ?_))))
  rw [ofN hc (by omega)] at e2
  rw [hSe, mi] at e4
  have b4 : ∀ j, j < 32 → bN u4 j = (bN S (i * c + j) && decide (j < c)) := fun j hj => by
    rw [e4, bN_and, bN_ush (by omega), e2, bN_mask hc6 hj]
  unfold fX9_bar_L27
  refine pc_lp (fun (a : Int32 × Int32 × Ds) => a.1 = u4 ∧ ∃ o : Nat, o ≤ r ∧ a.2.1.toInt = (o : Int) ∧ (∀ j, j < 32 → bN (dI a.2.2 225 3) j = (bN (dI d 225 3) j || (decide (j / c = i) && crO c S o i (j % c)))) ∧ ∀ r' j, ¬ (r' = 225 ∧ j = 3) → dI a.2.2 r' j = dI d r' j) ?_ 10000 (u4, 0, d) ⟨rfl, 0, Nat.zero_le _, (by decide : (0 : Int32).toInt = ((0 : Nat) : Int)), fun j _ => ?_, fun _ _ _ => rfl⟩
  · rintro K ⟨y4, y5, dd⟩ ⟨ea, o, ho, hy, hb, hf⟩ hK
    dsimp only at ea hy hb hf hK ⊢
    subst ea
    unfold fX9_bar_B27
    have w0 : (dI dd 117 0).toInt = (r : Int) := by rw [hf 117 0 (by decide)]; exact hr
    refine pc_gd (fun _ => pc_if (fun q => ?_) (fun q => ?_))
    · have q2 := Int32.le_iff_toInt_le.mp q
      have eo : o = r := by omega
      subst eo
      exact pc_some ⟨hb, hf⟩
    · have q2 := Int32.lt_iff_toInt_lt.mp (nle q)
      have hor : o < r := by omega
      obtain ⟨mo, ho24⟩ := mc hor hy
      rw [hf 117 1 (by decide), hf 225 2 (by decide), hSe, mo]
      refine pc_gd (fun _ => pc_bd (fun u8 e8 => ?_))
      have b8 : ∀ j, j < 32 → bN u8 j = (bN S (i * c + j) && decide (j < c) && bN S (o * c + j)) := fun j hj => by
        rw [e8, bN_and, bN_ush (by omega), b4 j hj]
      have nx : ∀ {de : Ds}, (∀ j, j < 32 → bN (dI de 225 3) j = (bN (dI d 225 3) j || (decide (j / c = i) && crO c S (o + 1) i (j % c)))) → (∀ r' j, ¬ (r' = 225 ∧ j = 3) → dI de r' j = dI d r' j) → pc (fX9_bar_J86 10000 g 225 117 x K y4 y5 de) (fun _ d' => (∀ j, j < 32 → bN (dI d' 225 3) j = (bN (dI d 225 3) j || (decide (j / c = i) && crO c S r i (j % c)))) ∧ ∀ r' j, ¬ (r' = 225 ∧ j = 3) → dI d' r' j = dI d r' j) := by
        intro de h1 h2
        unfold fX9_bar_J86
        refine pc_bd (fun u e => hK _ ⟨rfl, o + 1, by omega, ?_, h1, h2⟩)
        dsimp only
        rw [e, z_add hy e1 (by omega) (by omega)]
        omega
      -- one row more
      have cs : ∀ j, crO c S (o + 1) i j = (crO c S o i j || (decide (¬ o = i) && (List.range c).any (fun c2 => c2 != j && bN S (c * i + j) && bN S (c * i + c2) && bN S (c * o + j) && bN S (c * o + c2)))) := by
        intro j
        unfold crO
        rw [List.range_succ, List.any_append, List.any_cons, List.any_nil, Bool.or_false]
        congr 1
        congr 1
        by_cases z : o = i
        · subst z
          rw [decide_eq_false (fun y => y rfl)]
          exact bne_self_eq_false o
        · rw [decide_eq_true z]
          exact bne_iff_ne.mpr z
      refine pc_if (fun q5 => nx (fun j hj => ?_) hf) (fun q5 => pc_cb bitCount_e (fun u13 d11 r' => ?_))
      · have eoi : o = i := by
          have := congrArg Int32.toInt q5
          rw [hy, hx] at this
          omega
        rw [hb j hj, cs, decide_eq_false (p := ¬ o = i) (fun z => z eoi), Bool.false_and, Bool.or_false]
      obtain ⟨e, hu13⟩ := r'
      subst e
      have noi : ¬ o = i := fun z => q5 (Int32.toInt_inj.mp (by rw [hy, hx, z]))
      obtain ⟨w, hw, ew⟩ := bN_sm (x := u8) (m := 6) (by decide) (fun j h1 h2 => by
        rw [b8 j h2, decide_eq_false (by omega), Bool.and_false, Bool.false_and])
      have hbc := bc6 w hw
      rw [← ew, ← hu13] at hbc
      -- a pair in both rows
      have anyB : ∀ j, j < c → ((List.range c).any (fun c2 => c2 != j && bN S (c * i + j) && bN S (c * i + c2) && bN S (c * o + j) && bN S (c * o + c2)) = true ↔ bN u8 j = true ∧ ∃ c2, c2 < c ∧ ¬ c2 = j ∧ bN u8 c2 = true) := by
        intro j hj
        simp only [List.any_eq_true, List.mem_range, Bool.and_eq_true, bne_iff_ne, ne_eq]
        rw [Nat.mul_comm c i, Nat.mul_comm c o]
        constructor
        · rintro ⟨c2, h1, ⟨⟨⟨h2, h3⟩, h4⟩, h5⟩, h6⟩
          refine ⟨?_, c2, h1, h2, ?_⟩
          · rw [b8 j (by omega), h3, h5, decide_eq_true hj]
            rfl
          · rw [b8 c2 (by omega), h4, h6, decide_eq_true h1]
            rfl
        · rintro ⟨h1, c2, h2, h3, h4⟩
          rw [b8 j (by omega), Bool.and_eq_true, Bool.and_eq_true] at h1
          rw [b8 c2 (by omega), Bool.and_eq_true, Bool.and_eq_true] at h4
          exact ⟨c2, h2, ⟨⟨⟨h3, h1.1.1⟩, h4.1.1⟩, h1.2⟩, h4.2⟩
      refine pc_if (fun q7 => nx (fun j hj => ?_) hf) (fun q7 => pc_bd (fun d15 e15 => nx (fun j hj => ?_) (fun r' j h => ?_)))
      · rw [hb j hj, cs]
        have hjc : j % c < c := Nat.mod_lt _ (by omega)
        have f0 : (List.range c).any (fun c2 => c2 != j % c && bN S (c * i + j % c) && bN S (c * i + c2) && bN S (c * o + j % c) && bN S (c * o + c2)) = false := by
          cases e : (List.range c).any (fun c2 => c2 != j % c && bN S (c * i + j % c) && bN S (c * i + c2) && bN S (c * o + j % c) && bN S (c * o + c2))
          · rfl
          · obtain ⟨h1, c2, h2, h3, h4⟩ := (anyB (j % c) hjc).mp e
            exact absurd ⟨h4, h1⟩ (hbc.mp q7 c2 (by omega) (j % c) (by omega) h3)
        rw [f0, Bool.and_false, Bool.or_false]
      · rw [e15, sI_rd, if_pos ⟨rfl, rfl⟩, bN_or, hb j hj, hf 117 1 (by decide), mi, bN_sl (by omega) hj, cs, decide_eq_true noi, Bool.true_and]
        have hjc : j % c < c := Nat.mod_lt _ (by omega)
        -- two of them there are
        have two : ∀ p, p < c → bN u8 p = true → ∃ c2, c2 < c ∧ ¬ c2 = p ∧ bN u8 c2 = true := by
          intro p hp hpb
          have h2 : ¬ ∀ j, j < 6 → ∀ k, k < 6 → ¬ j = k → ¬ (bN u8 j = true ∧ bN u8 k = true) := fun z => q7 (hbc.mpr z)
          by_cases y : ∃ c2, c2 < c ∧ ¬ c2 = p ∧ bN u8 c2 = true
          · exact y
          · exfalso
            have inC : ∀ k, k < 6 → bN u8 k = true → k < c := fun k hk hb => by
              rw [b8 k (by omega), Bool.and_eq_true, Bool.and_eq_true] at hb
              exact of_decide_eq_true hb.1.2
            refine h2 (fun a ha k hk hne hab => ?_)
            have ha1 := inC a ha hab.1
            have hk1 := inC k hk hab.2
            by_cases z : a = p
            · exact y ⟨k, hk1, fun q => hne (z.trans q.symm), hab.2⟩
            · exact y ⟨a, ha1, z, hab.1⟩
        have key : (decide (i * c ≤ j) && bN u8 (j - i * c)) = (decide (j / c = i) && (List.range c).any (fun c2 => c2 != j % c && bN S (c * i + j % c) && bN S (c * i + c2) && bN S (c * o + j % c) && bN S (c * o + c2))) := by
          have dm := Nat.div_add_mod j c
          by_cases z : j / c = i
          · have ej : j - i * c = j % c := by
              rw [z, Nat.mul_comm] at dm
              omega
            have le : i * c ≤ j := by
              rw [z, Nat.mul_comm] at dm
              omega
            rw [decide_eq_true z, decide_eq_true le, Bool.true_and, Bool.true_and, ej]
            refine Bool.eq_iff_iff.mpr ?_
            rw [anyB (j % c) hjc]
            exact ⟨fun y => ⟨y, two _ hjc y⟩, fun y => y.1⟩
          · rw [decide_eq_false z, Bool.false_and]
            by_cases le : i * c ≤ j
            · rw [decide_eq_true le, Bool.true_and]
              have hge : c ≤ j - i * c := by
                rcases Nat.lt_or_ge (j - i * c) c with y | y
                · exfalso
                  apply z
                  have : j = j - i * c + c * i := by
                    rw [Nat.mul_comm c i]
                    omega
                  rw [this, Nat.add_mul_div_left _ _ (by omega), Nat.div_eq_of_lt y, Nat.zero_add]
                · exact y
              rw [b8 _ (by omega), decide_eq_false (by omega), Bool.and_false, Bool.false_and]
            · rw [decide_eq_false le, Bool.false_and]
        rw [key]
        cases bN (dI d 225 3) j <;> cases decide (j / c = i) <;> cases crO c S o i (j % c) <;> rfl
      · rw [e15, sI_rd, if_neg h]
        exact hf r' j h
  · dsimp only
    have : crO c S 0 i (j % c) = false := rfl
    rw [this, Bool.and_false, Bool.or_false]
theorem follow_e {g : Gs} (hS : Shp g) (hR : RC r c) (hr : (dI d 117 0).toInt = (r : Int)) (hc : (dI d 117 1).toInt = (c : Int)) : pc (fX9_follow 10000 g 225 117 cl d) (fun _ d' => dI d' 225 1 = prt (dI d 117 0 + dI d 117 1) r c cl (r * c) ∧ dI d' 225 2 = (if dI d 117 2 = 0 then seF r c cl (r * c) (r * c) else cl) ∧ dI d' 225 3 = (if dI d 117 2 = 0 then baF r c (seF r c cl (r * c) (r * c)) (r * c) else 0) ∧ ∀ r' j, ¬ (225 ≤ r' ∧ r' ≤ 226) → dI d' r' j = dI d r' j) := by
  have e1 : (1 : Int32).toInt = 1 := by decide
  have e4 : (4 : Int32).toInt = 4 := by decide
  have e24 : (24 : Int32).toInt = 24 := by decide
  obtain ⟨hn24, hm10, hr4, hc6⟩ := hR.n
  have hmul := mul_rc hR hr hc
  unfold fX9_follow
  refine pc_gd (fun _ => pc_cv (join_e hS hR hr hc) (fun d2 r2 => ?_))
  obtain ⟨h1, hL, hf⟩ := r2
  rw [hf 117 2 (by decide) (by decide)]
  refine pc_gd (fun _ => pc_if (fun q => pc_bd (fun d6 e6 => ?_)) (fun q => pc_bd (fun d30 e30 => pc_bd (fun d31 e31 => pc_some ⟨?_, ?_, ?_, fun r' j h => ?_⟩))))
  · rw [if_pos q, if_pos q]
    have f6 : ∀ r' j, ¬ r' = 226 → ¬ (r' = 225 ∧ (j = 1 ∨ j = 2)) → dI d6 r' j = dI d r' j := fun r' j a b => by
      rw [e6, sI_rd, if_neg (fun z => b ⟨z.1, Or.inr z.2⟩)]
      exact hf r' j a (fun z => b ⟨z.1, Or.inl z.2⟩)
    have L6 : LAB (r + c) (phC r) (fun j => dI d6 226 j) (eqB r c cl (r * c)) := by
      intro x y hx hy
      show dI d6 226 _ = dI d6 226 _ ↔ _
      rw [rdq e6 (Or.inl (by decide)), rdq e6 (Or.inl (by decide))]
      exact hL x y hx hy
    have P6 : dI d6 225 1 = prt (dI d 117 0 + dI d 117 1) r c cl (r * c) := by
      rw [rdq e6 (Or.inr (by decide))]
      exact h1
    -- rows barred
    have j90 : ∀ {de : Ds}, dI de 225 2 = seF r c cl (r * c) (r * c) → dI de 225 1 = prt (dI d 117 0 + dI d 117 1) r c cl (r * c) → (∀ r' j, ¬ (225 ≤ r' ∧ r' ≤ 226) → dI de r' j = dI d r' j) → pc (fX9_follow_J90 10000 g 225 117 cl de) (fun _ d' => dI d' 225 1 = prt (dI d 117 0 + dI d 117 1) r c cl (r * c) ∧ dI d' 225 2 = seF r c cl (r * c) (r * c) ∧ dI d' 225 3 = baF r c (seF r c cl (r * c) (r * c)) (r * c) ∧ ∀ r' j, ¬ (225 ≤ r' ∧ r' ≤ 226) → dI d' r' j = dI d r' j) := by
      intro de g2 g1 gf
      unfold fX9_follow_J90
      refine pc_gd (fun _ => pc_bd (fun d13 e13 => ?_))
      unfold fX9_follow_L97
      refine pc_lp (fun (a : Int32 × Ds) => ∃ o : Nat, o ≤ r ∧ a.1.toInt = (o : Int) ∧ (∀ j, j < 32 → bN (dI a.2 225 3) j = (decide (j / c < o) && crO c (seF r c cl (r * c) (r * c)) r (j / c) (j % c))) ∧ dI a.2 225 2 = seF r c cl (r * c) (r * c) ∧ dI a.2 225 1 = prt (dI d 117 0 + dI d 117 1) r c cl (r * c) ∧ ∀ r' j, ¬ (225 ≤ r' ∧ r' ≤ 226) → dI a.2 r' j = dI d r' j) ?_ 10000 (0, d13) ⟨0, Nat.zero_le _, (by decide : (0 : Int32).toInt = ((0 : Nat) : Int)), fun j _ => ?_, ?_, ?_, fun r' j h => ?_⟩
      · rintro K ⟨y3, df⟩ ⟨o, ho, hy, hb, k2, k1, kf⟩ hK
        dsimp only at hy hb k2 k1 kf hK ⊢
        unfold fX9_follow_B97
        have w0 : (dI df 117 0).toInt = (r : Int) := by rw [kf 117 0 (by decide)]; exact hr
        have w1 : (dI df 117 1).toInt = (c : Int) := by rw [kf 117 1 (by decide)]; exact hc
        refine pc_gd (fun _ => pc_if (fun q3 => pc_some ⟨k1, k2, ?_, kf⟩) (fun q3 => pc_gd (fun _ => ?_)))
        · have q4 := Int32.le_iff_toInt_le.mp q3
          have eo : o = r := by omega
          subst eo
          refine bN_ext (fun j hj => ?_)
          rw [hb j hj, baF_b _ (by omega) j hj]
          congr 1
          refine decide_eq_decide.mpr ?_
          rcases hR with ⟨z1, z2⟩ | ⟨_, _, z3, _⟩
          · subst z1
            rw [Nat.zero_mul]
            exact ⟨fun z => absurd z (Nat.not_lt_zero _), fun z => absurd z (Nat.not_lt_zero _)⟩
          · exact Nat.div_lt_iff_lt_mul (by omega)
        · have q4 := Int32.lt_iff_toInt_lt.mp (nle q3)
          refine pc_cv (bar_e hS hR w0 w1 hy (by omega)) (fun d17 r17 => pc_bd (fun u19 e19 => hK _ ⟨o + 1, by omega, ?_, fun j hj => ?_, ?_, ?_, fun r' j h => ?_⟩))
          · dsimp only
            rw [e19, z_add hy e1 (by omega) (by omega)]
            omega
          · dsimp only
            rw [r17.1 j hj, hb j hj, k2]
            by_cases z : j / c = o
            · rw [z, decide_eq_false (Nat.lt_irrefl o), decide_eq_true rfl, decide_eq_true (Nat.lt_succ_self o), Bool.false_and, Bool.false_or]
            · rw [decide_eq_false z, Bool.false_and, Bool.or_false]
              congr 1
              exact decide_eq_decide.mpr (by omega)
          · dsimp only
            rw [r17.2 225 2 (by decide)]
            exact k2
          · dsimp only
            rw [r17.2 225 1 (by decide)]
            exact k1
          · dsimp only
            rw [r17.2 r' j (by omega)]
            exact kf r' j h
      · dsimp only
        rw [e13, sI_rd, if_pos ⟨rfl, rfl⟩, bN_0, decide_eq_false (Nat.not_lt_zero _)]
        rfl
      · dsimp only
        rw [rdq e13 (Or.inr (by decide))]
        exact g2
      · dsimp only
        rw [rdq e13 (Or.inr (by decide))]
        exact g1
      · dsimp only
        rw [rdq e13 (Or.inl (by omega))]
        exact gf r' j h
    unfold fX9_follow_L31
    refine pc_lp (fun (a : Int32 × Ds) => ∃ i : Nat, i ≤ r * c ∧ a.1.toInt = (i : Int) ∧ dI a.2 225 2 = seF r c cl (r * c) i ∧ ∀ r' j, ¬ (r' = 225 ∧ j = 2) → dI a.2 r' j = dI d6 r' j) ?_ 10000 (0, d6) ⟨0, Nat.zero_le _, (by decide : (0 : Int32).toInt = ((0 : Nat) : Int)), by show dI d6 225 2 = 0; rw [e6, sI_rd, if_pos ⟨rfl, rfl⟩], fun _ _ _ => rfl⟩
    rintro K ⟨y3, de⟩ ⟨i, hi, hy, hs, hf2⟩ hK
    dsimp only at hy hs hf2 hK ⊢
    unfold fX9_follow_B31
    have fo : ∀ r' j, ¬ (225 ≤ r' ∧ r' ≤ 226) → dI de r' j = dI d r' j := fun r' j h => by
      rw [hf2 r' j (by omega), f6 r' j (by omega) (by omega)]
    have w1 : (dI de 117 1).toInt = (c : Int) := by rw [fo 117 1 (by decide)]; exact hc
    have wm : (dI de 117 0 * dI de 117 1).toInt = ((r * c : Nat) : Int) := by rw [fo 117 0 (by decide), fo 117 1 (by decide)]; exact hmul
    refine pc_gd (fun _ => pc_cb (hasKey_k wm hy) (fun u10 d8 r' => ?_))
    obtain ⟨e, hu⟩ := r'
    subst e
    have p1 : dI d8 225 1 = prt (dI d 117 0 + dI d 117 1) r c cl (r * c) := by
      rw [hf2 225 1 (by decide)]
      exact P6
    rcases hu with ⟨hu, hin⟩ | ⟨hu, hin⟩ <;> rw [hu]
    · obtain ⟨hc1, kd, km2⟩ := hR.k hin
      obtain ⟨k1, k2⟩ := kdiv hy w1 hc1
      refine pc_if (fun q3 => absurd q3 (by decide)) (fun _ => pc_if (fun q3 => ?_) (fun q3 => pc_gd (fun _ => pc_ob (fun r' e => ?_))))
      · have := Int32.le_iff_toInt_le.mp q3
        omega
      have := gq hS (e := 226) (by decide +kernel) e
      subst this
      have ph1 : phC r (i / c) = i / c := if_pos kd
      have ph2 : phC r (r + i % c) = 4 + i % c := by
        unfold phC
        rw [if_neg (by omega)]
        omega
      have i24 : ((4 : Int32) + (y3 - y3 / dI d8 117 1 * dI d8 117 1)).toNatClampNeg = 4 + i % c := tn (by rw [z_add e4 k2 (by omega) (by omega)]; omega)
      rw [tn k1, i24]
      have hLL := L6 (i / c) (r + i % c) (by omega) (by omega)
      dsimp only at hLL
      rw [ph1, ph2] at hLL
      have nx : ∀ {df : Ds}, dI df 225 2 = seF r c cl (r * c) (i + 1) → (∀ r' j, ¬ (r' = 225 ∧ j = 2) → dI df r' j = dI d6 r' j) → pc (fX9_follow_J84 10000 g 225 117 cl K y3 df) (fun _ d' => dI d' 225 1 = prt (dI d 117 0 + dI d 117 1) r c cl (r * c) ∧ dI d' 225 2 = seF r c cl (r * c) (r * c) ∧ dI d' 225 3 = baF r c (seF r c cl (r * c) (r * c)) (r * c) ∧ ∀ r' j, ¬ (225 ≤ r' ∧ r' ≤ 226) → dI d' r' j = dI d r' j) := by
        intro df g1 g2
        unfold fX9_follow_J84
        refine pc_bd (fun u e => hK _ ⟨i + 1, by omega, ?_, g1, g2⟩)
        dsimp only
        rw [e, z_add hy e1 (by omega) (by omega)]
        omega
      rw [← hf2 226 _ (fun z => absurd z.1 (by decide)), ← hf2 226 _ (fun z => absurd z.1 (by decide))] at hLL
      refine pc_gd (fun _ => pc_gd (fun _ => pc_gd (fun _ => pc_gd (fun _ => pc_if (fun q5 => pc_bd (fun d29 e29 => nx ?_ (fun r' j h => ?_))) (fun q5 => nx ?_ hf2)))))
      · rw [e29, sI_rd, if_pos ⟨rfl, rfl⟩, hs, ofN hy (by omega)]
        exact (if_pos (hLL.mp q5)).symm
      · rw [e29, sI_rd, if_neg h]
        exact hf2 r' j h
      · rw [hs]
        exact (if_neg (fun z => q5 (hLL.mpr z))).symm
    · have ein : i = r * c := by omega
      rw [ein] at hs
      exact pc_if (fun _ => j90 hs p1 fo) (fun q3 => absurd rfl q3)
  · rw [rdq e31 (Or.inr (by decide)), rdq e30 (Or.inr (by decide))]
    exact h1
  · rw [if_neg q, rdq e31 (Or.inr (by decide)), e30, sI_rd, if_pos ⟨rfl, rfl⟩]
  · rw [if_neg q, e31, sI_rd, if_pos ⟨rfl, rfl⟩]
  · rw [rdq e31 (Or.inl (by omega)), rdq e30 (Or.inl (by omega)), hf r' j (by omega) (by omega)]
end WRC
