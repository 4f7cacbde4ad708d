section MAX
variable {t : Nat → Int32} {n s : Nat} {d : Ds} {w : Int32 × Nat} {c m : Nat} {ck : Nat → Int32} {T E : Nat}
/-- while codes are told -/
def CKP (V : Nat → Int32) (d : Ds) (c m cnt : Nat) (ck : Nat → Int32) : Prop := dI d 337 0 = V 1 ∧ dI d 337 1 = V 2 ∧ (dI d 337 10).toInt = (c : Int) ∧ (dI d 337 11).toInt = (m : Int) ∧ (∀ j, j < c → dI d 337 (300 + 4 * j) = ck (2 * j) ∧ dI d 337 (300 + 4 * j + 1) = ck (2 * j + 1)) ∧ (∀ i, m + 1 ≤ i → i < 4 → dI d 337 (316 + 9 * i) = 0) ∧ MX d m ck ∧ dI d 337 (316 + 9 * m) = Int32.ofNat cnt ∧ (0 < cnt → ck (200 + 9 * m) = Int32.ofNat cnt) ∧ cnt ≤ 8 ∧ ∀ j, j < cnt → dI d 337 (316 + 9 * m + 1 + j) = ck (200 + 9 * m + 1 + j)
theorem CKP.nx {V : Nat → Int32} {d' : Ds} {cnt : Nat} {a : Int32} (h : CKP V d c m cnt ck) (hm : m < 4) (hn : cnt < 8) (f : ∀ j, ¬ (316 + 9 * m ≤ j ∧ j < 316 + 9 * m + 9) → dI d' 337 j = dI d 337 j) (hc : c ≤ 4) (h0 : dI d' 337 (316 + 9 * m) = Int32.ofNat (cnt + 1)) (h1 : dI d' 337 (316 + 9 * m + 1 + cnt) = a) (f2 : ∀ j, j < cnt → dI d' 337 (316 + 9 * m + 1 + j) = dI d 337 (316 + 9 * m + 1 + j)) : CKP V d' c m (cnt + 1) (mcU ck m cnt a) := by
  obtain ⟨a0, b, c1, d1, e, k, ⟨x1, x2, x3⟩, _, y1, y2, y3⟩ := h
  have lo : ∀ j, ¬ (200 + 9 * m ≤ j ∧ j < 200 + 9 * m + 9) → mcU ck m cnt a j = ck j := fun j hj => by
    unfold mcU
    rw [if_neg (by omega), if_neg (by omega)]
  refine ⟨by rw [f 0 (by omega)]; exact a0, by rw [f 1 (by omega)]; exact b, by rw [f 10 (by omega)]; exact c1, by rw [f 11 (by omega)]; exact d1, fun j hj => ?_, fun i hi h4 => ?_, ⟨by rw [f 2 (by omega), lo _ (by omega)]; exact x1, by rw [f 4 (by omega), lo _ (by omega)]; exact x2, fun i hi => ?_⟩, h0, fun _ => if_pos rfl, by omega, fun j hj => ?_⟩
  · rw [f _ (by omega), f _ (by omega), lo _ (by omega), lo _ (by omega)]
    exact e j hj
  · rw [f _ (by omega)]
    exact k i hi h4
  · obtain ⟨z1, z2, z3⟩ := x3 i hi
    rw [lo _ (by omega)]
    refine ⟨by rw [f _ (by omega)]; exact z1, z2, fun j hj => ?_⟩
    rw [f _ (by omega), lo _ (by omega)]
    exact z3 j hj
  · unfold mcU
    by_cases w : j = cnt
    · subst w
      rw [if_neg (by omega), if_pos rfl]
      exact h1
    · rw [if_neg (by omega), if_neg (by omega), f2 j (by omega)]
      exact y3 j (by omega)
/-- reader's part alone -/
def RBx (t : Nat → Int32) (n s : Nat) (d : Ds) (w : Int32 × Nat) : Prop := MTk t n s d ∧ NM t n d w ∧ (dI d 328 22 = 0 → ¬ w.1 = 0) ∧ (w.1 = 0 ∨ 0 < w.1.toInt) ∧ (w.1 = 0 → BR (VS t n))
theorem RBx.wf {d' : Ds} {w' : Int32 × Nat} (h : RBx t n s d w) (f : WF d d') (hN : NM t n d' w') (hx : NX w w') : RBx t n s d' w' := ⟨h.1.wf f, hN, fun z => fun y => h.2.2.1 (by rw [← f 328 22 (by decide) (by decide)]; exact z) (hx.1 y), hx.2 h.2.2.2.1, fun z => h.2.2.2.2 (hx.1 z)⟩
theorem RBx.put {d' : Ds} {j : Nat} {v : Int32} (h : RBx t n s d w) (e : d' = sI d 337 j v) : RBx t n s d' w := by
  have f : ∀ r i, ¬ r = 337 → dI d' r i = dI d r i := fun r i q => rdq e (Or.inl q)
  refine ⟨⟨h.1.1, h.1.2.1, by rw [f 328 10 (by decide)]; exact h.1.2.2.1, fun i hi => ?_⟩, h.2.1.i e (by omega), fun z => h.2.2.1 (by rw [← f 328 22 (by decide)]; exact z), h.2.2.2.1, h.2.2.2.2⟩
  rw [f 331 i (by decide), f 332 i (by decide), f 333 i (by decide)]
  exact h.1.2.2.2 i hi
theorem RM.rb (h : RM t n s d w c m ck) : RBx t n s d w := ⟨h.1, h.2.1, h.2.2.1, h.2.2.2.1, fun z => (h.2.2.2.2 z).1⟩
theorem RBx.rm (h : RBx t n s d w) (k : w.1 = 0 → CKM (VS t n) d c m ck) : RM t n s d w c m ck := ⟨h.1, h.2.1, h.2.2.1, h.2.2.2.1, fun z => ⟨h.2.2.2.2 z, k z⟩⟩
theorem meansMacro_x {g : Gs} (hS : Shp g) {x : Int32} (hc4 : c ≤ 4) (hm4 : m < 4) (hR : RM t n s d w c m ck) (hx : x.toInt = (T : Int)) (hT : T + 2 ≤ E) (hT2 : E ≤ T + 9) (hk : ∀ j, T + 1 ≤ j → j < E → KS t n j = 2) (hk4 : KS t n E = 4) (hE : E ≤ s) (hL : SB w (T + 1)) : pc (fX12_meansMacro 10000 g 328 x d) (fun _ d' => RM t n s d' (mNt (KS t n) (VS t n) 7 (T + 2) (nNu (VS t n) 1 200 (T + 1) w)) c (m + 1) (mcF (KS t n) (VS t n) m 8 (T + 1) 0 ck) ∧ SB (mNt (KS t n) (VS t n) 7 (T + 2) (nNu (VS t n) 1 200 (T + 1) w)) E) := by
  have e1 : (1 : Int32).toInt = 1 := by decide
  have e9 : (9 : Int32).toInt = 9 := by decide
  have e316 : (316 : Int32).toInt = 316 := by decide
  have n11 : (11 : Int32).toNatClampNeg = 11 := by decide
  have hs := hR.1.1
  obtain ⟨W, hW⟩ : ∃ W, mNt (KS t n) (VS t n) 7 (T + 2) (nNu (VS t n) 1 200 (T + 1) w) = W := ⟨_, rfl⟩
  rw [hW]
  have nw : ∀ {p : Nat} {v : Int32 × Nat}, nW (VS t n) 30 p v = nNu (VS t n) 1 200 p v := fun {p v} => nW_e (by decide +kernel) (by decide +kernel)
  have hW8 : mNt (KS t n) (VS t n) 8 (T + 1) w = W := by
    rw [← hW, ← nw]
    exact if_pos (hk (T + 1) (by omega) (by omega))
  obtain ⟨CK, hCKe⟩ : ∃ CK, mcF (KS t n) (VS t n) m 8 (T + 1) 0 ck = CK := ⟨_, rfl⟩
  rw [hCKe]
  unfold fX12_meansMacro
  refine pc_gd (fun _ => pc_ob (fun r e => ?_))
  have := gq hS (e := 337) (by decide +kernel) e
  subst this
  refine pc_gd (fun _ => pc_gd (fun _ => pc_bd (fun u5 e5 => pc_bd (fun u6 e6 => ?_))))
  rw [n11] at e5
  have h5 : w.1 = 0 → u5.toInt = 316 + 9 * (m : Int) := by
    intro z
    have h11 := (hR.2.2.2.2 z).2.2.2.2.1
    rw [e5]
    exact z_add e316 (z_mul e9 h11 (by omega) (by omega)) (by omega) (by omega)
  have h6 : u6.toInt = ((T + 1 : Nat) : Int) := by rw [e6, z_add hx e1 (by omega) (by omega)]; omega
  unfold fX12_meansMacro_L19
  refine pc_lp (fun (a : Int32 × Int32 × Ds) => a.1 = u5 ∧ ∃ (p : Nat) (w' : Int32 × Nat), T + 1 ≤ p ∧ p ≤ E ∧ a.2.1.toInt = (p : Int) ∧ RBx t n s a.2.2 w' ∧ SB w' p ∧ NX w w' ∧ mNt (KS t n) (VS t n) (8 - (p - (T + 1))) p w' = W ∧ ∃ ck', mcF (KS t n) (VS t n) m (8 - (p - (T + 1))) p (p - (T + 1)) ck' = CK ∧ (w'.1 = 0 → CKP (VS t n) a.2.2 c m (p - (T + 1)) ck')) ?_ 10000 (u5, u6, d) ⟨rfl, T + 1, w, by omega, by omega, h6, hR.rb, hL, NX.rf, by rw [Nat.sub_self]; exact hW8, ck, by rw [Nat.sub_self]; exact hCKe, fun z => ?_⟩
  · rintro K ⟨y2, y3, dd⟩ ⟨ea, p, w', hp, hpE, hy, hB, hSB, hNX, hM, ck', hcf, hCK⟩ hK
    dsimp only at ea hy hB hCK hK ⊢
    subst ea
    unfold fX12_meansMacro_B19
    refine pc_gd (fun _ => pc_ob (fun r e => ?_))
    have := gq hS (e := 331) (by decide +kernel) e
    subst this
    refine pc_gd (fun _ => pc_gd (fun _ => ?_))
    have hkp : dI dd 331 y3.toNatClampNeg = KS t n p := by
      rw [tn hy]
      exact (hB.1.2.2.2 p (by omega)).1
    rw [hkp]
    refine pc_if (fun q => ?_) (fun q => ?_)
    · have hlt : p < E := by
        rcases Nat.lt_or_ge p E with z | z
        · exact z
        · exfalso
          have : p = E := by omega
          rw [this, hk4] at q
          exact absurd q (by decide)
      refine pc_ob (fun r e => ?_)
      have := gq hS (e := 337) (by decide +kernel) e
      subst this
      refine pc_gd (fun _ => pc_gd (fun _ => pc_bd (fun d19 e19 => ?_)))
      have B19 := hB.put e19
      refine pc_cb (within_x hS B19.1 B19.2.1 hy (by omega) hSB.lb) (fun u22 d20 r => pc_gd (fun _ => pc_bd (fun d24 e24 => pc_bd (fun u25 e25 => ?_))))
      obtain ⟨v20, N20, f20⟩ := r
      have B20 := B19.wf f20 N20 NX.n
      have B24 := B20.put e24
      refine hK _ ⟨rfl, p + 1, nNu (VS t n) 1 200 p w', by omega, by omega, ?_, B24, hSB.lb.nns (Nat.lt_succ_self p), hNX.tr NX.n, ?_, mcU ck' m (p - (T + 1)) (VS t n p), ?_, fun z => ?_⟩
      · dsimp only
        rw [e25, z_add hy e1 (by omega) (by omega)]
        omega
      · rw [← hM, ← nw, show 8 - (p - (T + 1)) = 8 - (p + 1 - (T + 1)) + 1 by omega]
        exact (if_pos q).symm
      · rw [← hcf, show 8 - (p - (T + 1)) = 8 - (p + 1 - (T + 1)) + 1 by omega, show p + 1 - (T + 1) = p - (T + 1) + 1 by omega]
        exact (if_pos q).symm
      · have z' : w'.1 = 0 := NX.n.1 z
        have hC := hCK z'
        have y2i := h5 (hNX.1 z')
        have i0 : y2.toNatClampNeg = 316 + 9 * m := tn (by omega)
        have hcn8 : p - (T + 1) < 8 := by omega
        have hcnt : (dI dd 337 (316 + 9 * m)).toInt = ((p - (T + 1) : Nat) : Int) := by rw [hC.2.2.2.2.2.2.2.1]; exact Int32.toInt_ofNat_of_lt (by omega)
        rw [i0] at e19 e24
        have v19 : (dI d19 337 (316 + 9 * m)).toInt = ((p - (T + 1) : Nat) : Int) + 1 := by
          rw [e19, sI_rd, if_pos ⟨rfl, rfl⟩]
          exact z_add hcnt e1 (by omega) (by omega)
        have i1 : (y2 + dI d19 337 (316 + 9 * m)).toNatClampNeg = 316 + 9 * m + (p - (T + 1) + 1) := tn (by rw [z_add y2i v19 (by omega) (by omega)]; omega)
        rw [i1] at e24
        rw [show p + 1 - (T + 1) = p - (T + 1) + 1 by omega]
        refine hC.nx hm4 hcn8 (fun j hj => ?_) hc4 ?_ ?_ (fun j hj => ?_)
        · rw [rdq e24 (Or.inr (by omega)), f20 337 j (by omega) (by decide), rdq e19 (Or.inr (by omega))]
        · rw [rdq e24 (Or.inr (by omega)), f20 337 _ (by omega) (by decide)]
          exact Int32.toInt_inj.mp (by rw [v19, Int32.toInt_ofNat_of_lt (by omega)]; omega)
        · rw [e24, sI_rd, if_pos ⟨rfl, by omega⟩]
          exact v20
        · rw [rdq e24 (Or.inr (by omega)), f20 337 _ (by omega) (by decide), rdq e19 (Or.inr (by omega))]
    · have hpe : p = E := by
        rcases Nat.lt_or_ge p E with z | z
        · exact absurd (hk p hp z) q
        · omega
      have eW : w' = W := by
        rw [← hM]
        cases (8 - (p - (T + 1))) with
        | zero => rfl
        | succ k => exact (if_neg q).symm
      have eC : ck' = CK := by
        rw [← hcf]
        cases (8 - (p - (T + 1))) with
        | zero => rfl
        | succ k => exact (if_neg q).symm
      subst eW
      subst eC
      refine pc_ob (fun r e => ?_)
      have := gq hS (e := 337) (by decide +kernel) e
      subst this
      refine pc_gd (fun _ => pc_gd (fun _ => pc_bd (fun d15 e15 => pc_some ⟨(hB.put e15).rm (fun z => ?_), by rw [← hpe]; exact hSB⟩)))
      rw [n11] at e15
      obtain ⟨a, b, c1, d1, e, k, ⟨x1, x2, x3⟩, x4, x5, x6, x7⟩ := hCK z
      refine ⟨?_, ?_, ?_, ?_, fun j hj => ?_, fun i hi h4 => ?_, ?_, ?_, fun i hi => ?_⟩
      · rw [rdq e15 (Or.inr (by omega))]
        exact a
      · rw [rdq e15 (Or.inr (by omega))]
        exact b
      · rw [rdq e15 (Or.inr (by omega))]
        exact c1
      · rw [e15, sI_rd, if_pos ⟨rfl, rfl⟩, z_add d1 e1 (by omega) (by omega)]
        omega
      · rw [rdq e15 (Or.inr (by omega)), rdq e15 (Or.inr (by omega))]
        exact e j hj
      · rw [rdq e15 (Or.inr (by omega))]
        exact k i hi h4
      · rw [rdq e15 (Or.inr (by omega))]
        exact x1
      · rw [rdq e15 (Or.inr (by omega))]
        exact x2
      · by_cases y : i = m
        · subst y
          have l5 := x5 (by omega)
          rw [l5, Int32.toInt_ofNat_of_lt (by omega)]
          refine ⟨by rw [rdq e15 (Or.inr (by omega))]; exact x4, by omega, fun j hj => ?_⟩
          rw [rdq e15 (Or.inr (by omega))]
          exact x7 j (by omega)
        · obtain ⟨z1, z2, z3⟩ := x3 i (by omega)
          refine ⟨by rw [rdq e15 (Or.inr (by omega))]; exact z1, z2, fun j hj => ?_⟩
          rw [rdq e15 (Or.inr (by omega))]
          exact z3 j hj
  · obtain ⟨a, b, c1, d1, e, k, kx⟩ := (hR.2.2.2.2 z).2
    refine ⟨a, b, c1, d1, e, fun i hi h4 => k i (by omega) h4, kx, ?_, fun y => ?_, ?_, fun j hj => ?_⟩
    · dsimp only
      rw [k m (Nat.le_refl m) hm4, Nat.sub_self]
      rfl
    · rw [Nat.sub_self] at y
      exact absurd y (Nat.lt_irrefl 0)
    · omega
    · rw [Nat.sub_self] at hj
      exact absurd hj (Nat.not_lt_zero _)
theorem MX.st {d' : Ds} {i j : Nat} {a : Int32} (h : MX d m ck) (hj : i = 100 ∧ j = 2 ∨ i = 101 ∧ j = 4) (e : d' = sI d 337 j a) : MX d' m (stU ck i a) := by
  obtain ⟨x1, x2, x3⟩ := h
  refine ⟨?_, ?_, fun k hk => ?_⟩
  · unfold stU
    by_cases z : j = 2
    · rw [if_pos (by omega), e, sI_rd, if_pos ⟨rfl, z.symm⟩]
    · rw [if_neg (by omega), rdq e (Or.inr (by omega))]
      exact x1
  · unfold stU
    by_cases z : j = 4
    · rw [if_pos (by omega), e, sI_rd, if_pos ⟨rfl, z.symm⟩]
    · rw [if_neg (by omega), rdq e (Or.inr (by omega))]
      exact x2
  · obtain ⟨y1, y2, y3⟩ := x3 k hk
    have s0 : stU ck i a (200 + 9 * k) = ck (200 + 9 * k) := if_neg (by omega)
    rw [s0]
    refine ⟨by rw [rdq e (Or.inr (by omega))]; exact y1, y2, fun l hl => ?_⟩
    rw [rdq e (Or.inr (by omega)), show stU ck i a (200 + 9 * k + 1 + l) = ck (200 + 9 * k + 1 + l) from if_neg (by omega)]
    exact y3 l hl
theorem RM.st {d' : Ds} {i j : Nat} {a : Int32} (h : RM t n s d w c m ck) (hc : c ≤ 4) (hj : i = 100 ∧ j = 2 ∨ i = 101 ∧ j = 4) (e : d' = sI d 337 j a) : RM t n s d' w c m (stU ck i a) := by
  refine h.any (fun r i q => rdq e (Or.inl q)) (fun z => ?_)
  obtain ⟨a0, b, c1, d1, e1, k, x⟩ := (h.2.2.2.2 z).2
  refine ⟨by rw [rdq e (Or.inr (by omega))]; exact a0, by rw [rdq e (Or.inr (by omega))]; exact b, by rw [rdq e (Or.inr (by omega))]; exact c1, by rw [rdq e (Or.inr (by omega))]; exact d1, fun l hl => ?_, fun l hl h4 => ?_, x.st hj e⟩
  · rw [rdq e (Or.inr (by omega)), rdq e (Or.inr (by omega)), show stU ck i a (2 * l) = ck (2 * l) from if_neg (by omega), show stU ck i a (2 * l + 1) = ck (2 * l + 1) from if_neg (by omega)]
    exact e1 l hl
  · rw [rdq e (Or.inr (by omega))]
    exact k l hl h4
/-- a line -/
theorem meansLine_x {g : Gs} (hS : Shp g) {x : Int32} (hc4 : c ≤ 4) (hm4 : m ≤ 4) (hc : KS t n T = 29 → c < 4) (hm : KS t n T = 30 → m < 4) (hR : RM t n s d w c m ck) (hx : x.toInt = (T : Int)) (hl : lOK (KS t n) T E) (hE : E ≤ s) (hL : SB w T) : pc (fX12_meansLine 10000 g 328 x d) (fun _ d' => RM t n s d' (lNt (KS t n) (VS t n) c ck T w) (c + if KS t n T = 29 then 1 else 0) (m + if KS t n T = 30 then 1 else 0) (ckN (KS t n) (VS t n) T c m ck) ∧ SB (lNt (KS t n) (VS t n) c ck T w) E) := by
  have e1 : (1 : Int32).toInt = 1 := by decide
  have e2 : (2 : Int32).toInt = 2 := by decide
  have hs := hR.1.1
  obtain ⟨l1, l2, l3, l4, l5, l6, l7, l8, l9⟩ := hl
  have x1 : (x + 1).toInt = ((T + 1 : Nat) : Int) := by rw [z_add hx e1 (by omega) (by omega)]; omega
  have x2 : (x + 2).toInt = ((T + 2 : Nat) : Int) := by rw [z_add hx e2 (by omega) (by omega)]; omega
  have S1 : SB w (T + 1) := hL.up (by omega)
  obtain ⟨k, hk⟩ : ∃ k, KS t n T = k := ⟨_, rfl⟩
  rw [hk] at l3 l4 l6 l7 l8 l9 hc hm
  have hkT : dI d 331 x.toNatClampNeg = k := by
    rw [tn hx, ← hk]
    exact (hR.1.2.2.2 T (by omega)).1
  have same : ∀ {w' : Int32 × Nat} {dd : Ds}, ¬ k = 29 → ¬ k = 30 → lNt (KS t n) (VS t n) c ck T w = w' → RM t n s dd w' c m (if k = 21 then stU ck 100 1 else if k = 23 then stU ck 101 (VS t n (T + 1)) else ck) → SB w' E → pc (fX12_meansLine_J219 10000 g 328 x dd) (fun _ d' => RM t n s d' (lNt (KS t n) (VS t n) c ck T w) (c + if KS t n T = 29 then 1 else 0) (m + if KS t n T = 30 then 1 else 0) (ckN (KS t n) (VS t n) T c m ck) ∧ SB (lNt (KS t n) (VS t n) c ck T w) E) := by
    intro w' dd n29 n30 ew R S
    unfold fX12_meansLine_J219 ckN
    rw [hk, if_neg n29, if_neg n30, if_neg n29, if_neg n30, ew]
    exact pc_some ⟨R, S⟩
  have same0 : ∀ {w' : Int32 × Nat} {dd : Ds}, ¬ k = 29 → ¬ k = 30 → ¬ k = 21 → ¬ k = 23 → lNt (KS t n) (VS t n) c ck T w = w' → RM t n s dd w' c m ck → SB w' E → pc (fX12_meansLine_J219 10000 g 328 x dd) (fun _ d' => RM t n s d' (lNt (KS t n) (VS t n) c ck T w) (c + if KS t n T = 29 then 1 else 0) (m + if KS t n T = 30 then 1 else 0) (ckN (KS t n) (VS t n) T c m ck) ∧ SB (lNt (KS t n) (VS t n) c ck T w) E) := by
    intro w' dd n29 n30 n21 n23 ew R S
    exact same n29 n30 ew (by rw [if_neg n21, if_neg n23]; exact R) S
  have flg : ∀ {j : Nat} {v : Int32}, k.toInt < 23 → (j = 2 ∧ v = 1 ∧ k = 21 ∨ j = 3 ∧ k = 22) → pc (bd (sI d 337 j v) fun d10 => fX12_meansLine_J219 10000 g 328 x d10) (fun _ d' => RM t n s d' (lNt (KS t n) (VS t n) c ck T w) (c + if KS t n T = 29 then 1 else 0) (m + if KS t n T = 30 then 1 else 0) (ckN (KS t n) (VS t n) T c m ck) ∧ SB (lNt (KS t n) (VS t n) c ck T w) E) := by
    intro j v h1 h2
    refine pc_bd (fun d10 e10 => same (w' := w) ?_ ?_ ?_ ?_ (hL.up (by omega)))
    · intro z
      rw [z] at h1
      exact absurd h1 (by decide)
    · intro z
      rw [z] at h1
      exact absurd h1 (by decide)
    · unfold lNt
      rw [hk, if_pos h1]
    · rcases h2 with ⟨h2, h3, h4⟩ | ⟨h2, h3⟩
      · rw [if_pos h4, ← h3]
        exact hR.st hc4 (Or.inl ⟨rfl, h2⟩) e10
      · rw [if_neg (by rw [h3]; decide), if_neg (by rw [h3]; decide)]
        exact hR.put e10 (by omega)
  have one : ∀ {j : Nat} {lo hi : Int32}, 23 ≤ k.toInt → ¬ k = 27 → ¬ k = 28 → ¬ k = 29 → ¬ k = 30 → wfv 0 (kk k) = lo → wfv 1 (kk k) = hi → (j = 4 ∧ k = 23 ∨ ¬ k = 23 ∧ (j = 5 ∨ j = 6 ∨ j = 7)) → pc (cb (fX12_within 10000 g 328 (x + 1) lo hi d) fun u20 d18 => (gd (chk g 337 102) <| gd (¬ ((Int32.ofNat j) < 0 ∨ gL g 337 ≤ (Int32.ofNat j).toNatClampNeg)) <| bd (sI d18 337 j u20) fun d23 => (fX12_meansLine_J219 10000 g 328 x d23))) (fun _ d' => RM t n s d' (lNt (KS t n) (VS t n) c ck T w) (c + if KS t n T = 29 then 1 else 0) (m + if KS t n T = 30 then 1 else 0) (ckN (KS t n) (VS t n) T c m ck) ∧ SB (lNt (KS t n) (VS t n) c ck T w) E) := by
    intro j lo hi h23 n27 n28 n29 n30 h1 h2 hj
    have := l6 h23
    refine pc_cb (within_x hS hR.1 hR.2.1 x1 (by omega) S1.lb) (fun u20 d18 r => pc_gd (fun _ => pc_gd (fun _ => pc_bd (fun d23 e23 => same (w' := nNu (VS t n) lo hi (T + 1) w) n29 n30 ?_ ?_ (S1.lb.nns (by omega))))))
    rotate_left
    · have R18 := hR.wf r.2.2 r.2.1 NX.n
      rw [if_neg (fun z => by rw [z] at h23; exact absurd h23 (by decide))]
      rcases hj with ⟨h3, h4⟩ | ⟨h3, h4⟩
      · rw [if_pos h4, ← r.1]
        exact R18.st hc4 (Or.inr ⟨rfl, h3⟩) e23
      · rw [if_neg h3]
        exact R18.put e23 (by omega)
    unfold lNt
    rw [hk, if_neg (by omega), if_neg n28, if_neg n29, if_neg n30, if_neg n27]
    exact nW_e h1 h2
  unfold fX12_meansLine
  refine pc_gd (fun _ => pc_ob (fun r e => ?_))
  have := gq hS (e := 331) (by decide +kernel) e
  subst this
  refine pc_gd (fun _ => pc_gd (fun _ => ?_))
  rw [hkT]
  have dfr : ∀ {α : Type} {f : Nat → Option (α × Ds)} {Q : α → Ds → Prop}, pc (f 337) Q → pc (ob (gR g 328 18) f) Q := by
    intro α f Q h
    refine pc_ob (fun r e => ?_)
    have := gq hS (e := 337) (by decide +kernel) e
    subst this
    exact h
  refine pc_if (fun q => ?_) (fun q0 => pc_if (fun q => ?_) (fun q1 => pc_if (fun q => ?_) (fun q2 => pc_if (fun q => ?_) (fun q3 => pc_if (fun q => ?_) (fun q4 => pc_if (fun q => ?_) (fun q5 => pc_if (fun q => ?_) (fun q6 => pc_if (fun q => ?_) (fun q7 => pc_if (fun q => ?_) (fun q8 => pc_if (fun q => ?_) (fun q9 => pc_if (fun q => ?_) (fun q10 => ?_)))))))))))
  · omega
  · exact dfr (pc_gd (fun _ => pc_gd (fun _ => flg (by rw [q]; decide) (Or.inl ⟨by decide, rfl, q⟩))))
  · exact dfr (pc_gd (fun _ => pc_gd (fun _ => flg (by rw [q]; decide) (Or.inr ⟨by decide, q⟩))))
  · exact dfr (one (j := 4) (by rw [q]; decide) (by rw [q]; decide) (by rw [q]; decide) (by rw [q]; decide) (by rw [q]; decide) (by rw [q]; decide +kernel) (by rw [q]; decide +kernel) (Or.inl ⟨rfl, q⟩))
  · exact dfr (one (j := 5) (by rw [q]; decide) (by rw [q]; decide) (by rw [q]; decide) (by rw [q]; decide) (by rw [q]; decide) (by rw [q]; decide +kernel) (by rw [q]; decide +kernel) (Or.inr ⟨by rw [q]; decide, by decide⟩))
  · exact dfr (one (j := 6) (by rw [q]; decide) (by rw [q]; decide) (by rw [q]; decide) (by rw [q]; decide) (by rw [q]; decide) (by rw [q]; decide +kernel) (by rw [q]; decide +kernel) (Or.inr ⟨by rw [q]; decide, by decide⟩))
  · exact dfr (one (j := 7) (by rw [q]; decide) (by rw [q]; decide) (by rw [q]; decide) (by rw [q]; decide) (by rw [q]; decide) (by rw [q]; decide +kernel) (by rw [q]; decide +kernel) (Or.inr ⟨by rw [q]; decide, by decide⟩))
  · have h3 := l7 q
    refine dfr (pc_cb (within_x hS hR.1 hR.2.1 x1 (by omega) S1.lb) (fun u52 d50 r => pc_gd (fun _ => pc_gd (fun _ => pc_bd (fun d55 e55 => ?_)))))
    have R55 := (hR.wf r.2.2 r.2.1 NX.n).put e55 (by decide)
    have S55 : SB (nNu (VS t n) 1 99 (T + 1) w) (T + 2) := S1.lb.nns (by omega)
    unfold fX12_meansLine_J175
    refine pc_gd (fun _ => dfr (pc_cb (within_x hS R55.1 R55.2.1 x2 (by omega) S55.lb) (fun u60 d58 r => pc_gd (fun _ => pc_gd (fun _ => pc_bd (fun d63 e63 => same0 (by rw [q]; decide) (by rw [q]; decide) (by rw [q]; decide) (by rw [q]; decide) ?_ ((R55.wf r.2.2 r.2.1 NX.n).put e63 (by decide)) (S55.lb.nns (by omega))))))))
    unfold lNt
    rw [hk, q, if_neg (by decide), if_neg (by decide), if_neg (by decide), if_neg (by decide), if_pos rfl, nW_e (k := 27) (lo := 1) (hi := 99) (by decide +kernel) (by decide +kernel)]
  · refine pc_cv (meansKey_x hS hR hx (l8 (Or.inl q)) hE S1) (fun d65 r => same0 (by rw [q]; decide) (by rw [q]; decide) (by rw [q]; decide) (by rw [q]; decide) ?_ r.1 r.2)
    unfold lNt
    rw [hk, q, if_neg (by decide), if_pos rfl, nW_e (k := 28) (lo := 0) (hi := 3) (by decide +kernel) (by decide +kernel)]
  · refine pc_cv (meansChord_x hS (hc q) hR hx (l8 (Or.inr q)) hE S1) (fun d68 r => ?_)
    unfold fX12_meansLine_J219 ckN lNt
    rw [hk, q, if_pos rfl, if_neg (show ¬ (29 : Int32) = 30 by decide), if_pos rfl, if_neg (show ¬ (29 : Int32).toInt < 23 by decide), if_neg (show ¬ (29 : Int32) = 28 by decide), if_pos rfl]
    exact pc_some r
  · obtain ⟨a1, a2, a3⟩ := l9 q
    refine pc_cv (meansMacro_x hS hc4 (hm q) hR hx a1 a2 a3 l2 hE S1) (fun d71 r => ?_)
    unfold fX12_meansLine_J219 ckN lNt
    rw [hk, q, if_neg (show ¬ (30 : Int32) = 29 by decide), if_pos rfl, if_neg (show ¬ (30 : Int32) = 29 by decide), if_neg (show ¬ (30 : Int32).toInt < 23 by decide), if_neg (show ¬ (30 : Int32) = 28 by decide), if_neg (show ¬ (30 : Int32) = 29 by decide), if_pos rfl, if_pos rfl, nW_e (k := 30) (lo := 1) (hi := 200) (by decide +kernel) (by decide +kernel)]
    exact pc_some r
  · exact absurd (no10 q0 q1 q2 q3 q4 q5 q6 q7 q8 q9 q10) id
end MAX
