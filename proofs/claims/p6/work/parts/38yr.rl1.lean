/-! both sides alike: tapes, place, slots, what the board tells, switches -/
theorem sm_un {K V : Nat → Int32} {i j : Nat} (h : stp2 K (sx K i)) (k : stp2 K (sx K j)) : sm K V i = sm K V j := by
  rcases Nat.le_total i j with q | q
  · have a := sm_st (V := V) h (j - i)
    rw [show i + (j - i) = j by omega] at a
    exact a.symm
  · have a := sm_st (V := V) k (i - j)
    rw [show j + (i - j) = i by omega] at a
    exact a
theorem mcF_lo {K V : Nat → Int32} {m j : Nat} (hj : j < 200) : ∀ k {T l : Nat} {ck : Nat → Int32}, mcF K V m k T l ck j = ck j := by
  intro k
  induction k with
  | zero => intro T l ck; rfl
  | succ k ih =>
    intro T l ck
    show (if K T = 2 then mcF K V m k (T + 1) (l + 1) (mcU ck m l (V T)) else ck) j = ck j
    by_cases z : K T = 2
    · rw [if_pos z, ih]
      unfold mcU
      rw [if_neg (by omega), if_neg (by omega)]
    · rw [if_neg z]
theorem NX.m {K V : Nat → Int32} : ∀ k {T : Nat} {w : Int32 × Nat}, NX w (mNt K V k T w) := by
  intro k
  induction k with
  | zero => intro T w; exact NX.rf
  | succ k ih =>
    intro T w
    show NX w (if K T = 2 then mNt K V k (T + 1) (nW V 30 T w) else w)
    by_cases z : K T = 2
    · rw [if_pos z]
      exact NX.tr NX.n ih
    · rw [if_neg z]
      exact NX.rf
theorem NX.c {K V : Nat → Int32} {T : Nat} {w : Int32 × Nat} : NX w (cDt K V T w) := by
  have h : NX w (if K T = 31 ∨ K T = 32 ∨ K T = 39 then w else nT 5 T w) := by
    split
    · exact NX.rf
    · exact NX.t (by decide)
  exact NX.tr h NX.d
theorem NX.l {K V : Nat → Int32} {n T : Nat} {ck : Nat → Int32} {w : Int32 × Nat} : NX w (lNt K V n ck T w) := by
  unfold lNt
  split
  · exact NX.rf
  · split
    · exact NX.tr (NX.tr NX.n NX.n) NX.d
    · split
      · exact NX.tr (NX.tr NX.cn NX.cn) NX.c
      · split
        · exact NX.tr NX.n (NX.m 7)
        · split
          · exact NX.tr NX.n NX.n
          · exact NX.n
/-- bounce as told lies between its bounds -/
theorem sm_b {K V : Nat → Int32} : ∀ i, (sm K V i).1.1 = 0 → 1 ≤ ((sm K V i).2 101).toInt ∧ ((sm K V i).2 101).toInt ≤ 9 := by
  have e1 : (1 : Int32).toInt = 1 := by decide
  have e9 : (9 : Int32).toInt = 9 := by decide
  intro i
  induction i with
  | zero => intro _; exact (by decide : 1 ≤ (ck0 101).toInt ∧ (ck0 101).toInt ≤ 9)
  | succ i ih =>
    intro h
    by_cases q : (sx K i).1.2 = 0 ∧ ¬ K (sx K i).1.1 = 0
    · have em : sm K V (i + 1) = (lNt K V (sx K i).2.1 (sm K V i).2 (sx K i).1.1 (sm K V i).1, ckN K V (sx K i).1.1 (sx K i).2.1 (sx K i).2.2 (sm K V i).2) := if_pos q
      rw [em] at h ⊢
      dsimp only at h ⊢
      have h0 := ih (NX.l.1 h)
      have hc := (sx_c i q.1).1
      unfold ckN
      by_cases q29 : K (sx K i).1.1 = 29
      · rw [if_pos q29]
        unfold ckU
        rw [if_neg (by omega), if_neg (by omega)]
        exact h0
      · rw [if_neg q29]
        by_cases q30 : K (sx K i).1.1 = 30
        · rw [if_pos q30, mcF_lo (by decide)]
          exact h0
        · rw [if_neg q30]
          by_cases q21 : K (sx K i).1.1 = 21
          · rw [if_pos q21]
            unfold stU
            rw [if_neg (by decide)]
            exact h0
          · rw [if_neg q21]
            by_cases q23 : K (sx K i).1.1 = 23
            · rw [if_pos q23]
              unfold stU
              rw [if_pos rfl]
              unfold lNt at h
              rw [q23, if_neg (by decide), if_neg (by decide), if_neg (by decide), if_neg (by decide), if_neg (by decide), nW_e (k := 23) (lo := 1) (hi := 9) (by decide +kernel) (by decide +kernel)] at h
              have := (nNu_0 h).2
              rw [e1, e9] at this
              omega
            · rw [if_neg q23]
              exact h0
    · have em : sm K V (i + 1) = sm K V i := if_neg q
      rw [em] at h ⊢
      exact ih h
def BQf (f : Nat → Int32) (d : Ds) : Prop := dI d 117 0 = f 0 ∧ dI d 117 1 = f 1 ∧ dI d 117 2 = f 2 ∧ dI d 117 4 = f 4 ∧ (f 0 = 0 ∧ f 1 = 0 ∨ (1 ≤ (f 0).toInt ∧ (f 0).toInt ≤ 4) ∧ (1 ≤ (f 1).toInt ∧ (f 1).toInt ≤ 6) ∧ 1 ≤ (f 4).toInt ∧ (f 4).toInt ≤ 9) ∧ ∃ m : Nat, m ≤ 4 ∧ (dI d 117 16).toInt = (m : Int) ∧ (f 11).toInt = (m : Int) ∧ ∀ i, i < m → dI d 123 i = f (316 + 9 * i) ∧ (f (316 + 9 * i)).toInt ≤ 8 ∧ ∀ j : Nat, (j : Int) < (f (316 + 9 * i)).toInt → dI d 124 (8 * i + j) = f (316 + 9 * i + 1 + j)
theorem BQf.cg {f f' : Nat → Int32} {d d' : Ds} (h : BQf f d) (hf : ∀ j, j < 352 → f' j = f j) (hd : ∀ j, j = 0 ∨ j = 1 ∨ j = 2 ∨ j = 4 ∨ j = 16 → dI d' 117 j = dI d 117 j) (h23 : ∀ j, dI d' 123 j = dI d 123 j) (h24 : ∀ j, dI d' 124 j = dI d 124 j) : BQf f' d' := by
  obtain ⟨a0, a1, a2, a4, ab, m, m1, m2, m3, m4⟩ := h
  have f0 := hf 0 (by decide)
  have f1 := hf 1 (by decide)
  have f2 := hf 2 (by decide)
  have f4 := hf 4 (by decide)
  have f11 := hf 11 (by decide)
  refine ⟨by rw [hd 0 (by omega), f0]; exact a0, by rw [hd 1 (by omega), f1]; exact a1, by rw [hd 2 (by omega), f2]; exact a2, by rw [hd 4 (by omega), f4]; exact a4, by rw [f0, f1, f4]; exact ab, m, m1, by rw [hd 16 (by omega)]; exact m2, by rw [f11]; exact m3, fun i hi => ?_⟩
  obtain ⟨b1, b2, b3⟩ := m4 i hi
  have fi := hf (316 + 9 * i) (by omega)
  refine ⟨by rw [h23, fi]; exact b1, by rw [fi]; exact b2, fun j hj => ?_⟩
  rw [fi] at hj
  rw [h24, hf _ (by omega)]
  exact b3 j hj
/-- places alike -/
def PLQ (d : Ds) : Prop := dI d 0 2 = dI d 328 16
/-- the same slots hold something -/
def SLQ (d : Ds) : Prop := ∃ v : Nat, v < 8 ∧ dI d 0 9 = Int32.ofNat v ∧ ∀ s, s < 3 → (v.testBit s = true ↔ ¬ dI d 346 s = 0)
/-- what the board tells -/
def BQ (d : Ds) : Prop := BQf (fun j => dI d 336 j) d
/-- what is held is of this board -/
def HQ (d : Ds) : Prop := ∀ s, s < 3 → ¬ dI d 346 s = 0 → ∀ j, j < 352 → dI d 344 (9178 * s + j) = dI d 336 j
/-- closed switches, here and in what is held -/
def CLQ (d : Ds) : Prop := dI d 228 0 = dI d 336 352 ∧ ∀ s, s < 3 → ¬ dI d 346 s = 0 → dI d (269 + 20 * s) 0 = dI d 344 (9178 * s + 352)
def RR (d : Ds) : Prop := TB d ∧ KL d ∧ PLQ d ∧ SLQ d ∧ BQ d ∧ HQ d ∧ CLQ d
/-- class cells that matter but the tapes -/
def CS (d d' : Ds) : Prop := dI d' 0 2 = dI d 0 2 ∧ dI d' 0 9 = dI d 0 9 ∧ (∀ j, j = 0 ∨ j = 1 ∨ j = 2 ∨ j = 4 ∨ j = 16 → dI d' 117 j = dI d 117 j) ∧ (∀ j, dI d' 123 j = dI d 123 j) ∧ (∀ j, dI d' 124 j = dI d 124 j) ∧ dI d' 228 0 = dI d 228 0 ∧ ∀ s, s < 3 → dI d' (269 + 20 * s) 0 = dI d (269 + 20 * s) 0
/-- model cells likewise -/
def MS (d d' : Ds) : Prop := dI d' 328 16 = dI d 328 16 ∧ (∀ j, j < 353 → dI d' 336 j = dI d 336 j) ∧ (∀ j, dI d' 344 j = dI d 344 j) ∧ ∀ j, dI d' 346 j = dI d 346 j
theorem CS.rf {d : Ds} : CS d d := ⟨rfl, rfl, fun _ _ => rfl, fun _ => rfl, fun _ => rfl, rfl, fun _ _ => rfl⟩
theorem MS.rf {d : Ds} : MS d d := ⟨rfl, fun _ _ => rfl, fun _ => rfl, fun _ => rfl⟩
theorem CS.tr {d dd d' : Ds} (h : CS d dd) (k : CS dd d') : CS d d' := ⟨k.1.trans h.1, k.2.1.trans h.2.1, fun j q => (k.2.2.1 j q).trans (h.2.2.1 j q), fun j => (k.2.2.2.1 j).trans (h.2.2.2.1 j), fun j => (k.2.2.2.2.1 j).trans (h.2.2.2.2.1 j), k.2.2.2.2.2.1.trans h.2.2.2.2.2.1, fun s q => (k.2.2.2.2.2.2 s q).trans (h.2.2.2.2.2.2 s q)⟩
theorem MS.tr {d dd d' : Ds} (h : MS d dd) (k : MS dd d') : MS d d' := ⟨k.1.trans h.1, fun j q => (k.2.1 j q).trans (h.2.1 j q), fun j => (k.2.2.1 j).trans (h.2.2.1 j), fun j => (k.2.2.2 j).trans (h.2.2.2 j)⟩
theorem CS.all {d d' : Ds} (h : ∀ r j, r = 0 ∧ (j = 2 ∨ j = 9) ∨ 117 ≤ r ∧ r < 328 → dI d' r j = dI d r j) : CS d d' := ⟨h 0 2 (by omega), h 0 9 (by omega), fun j _ => h 117 j (by omega), fun j => h 123 j (by omega), fun j => h 124 j (by omega), h 228 0 (by omega), fun s hs => h _ 0 (by omega)⟩
theorem MS.all {d d' : Ds} (h : ∀ r j, r = 328 ∧ j = 16 ∨ 336 ≤ r → dI d' r j = dI d r j) : MS d d' := ⟨h 328 16 (by omega), fun j _ => h 336 j (by omega), fun j => h 344 j (by omega), fun j => h 346 j (by omega)⟩
theorem rr_same {d d' : Ds} (h : RR d) (t : TB d') (k : KL d') (c : CS d d') (m : MS d d') : RR d' := by
  obtain ⟨_, _, h1, h2, h3, h4, h5⟩ := h
  obtain ⟨c1, c2, c3, c4, c5, c6, c7⟩ := c
  obtain ⟨m1, m2, m3, m4⟩ := m
  refine ⟨t, k, ?_, ?_, h3.cg (fun j hj => m2 j (by omega)) c3 c4 c5, fun s hs q j hj => ?_, ?_, fun s hs q => ?_⟩
  · show dI d' 0 2 = dI d' 328 16
    rw [c1, m1]
    exact h1
  · obtain ⟨v, v1, v2, v3⟩ := h2
    exact ⟨v, v1, c2.trans v2, fun s hs => by rw [m4]; exact v3 s hs⟩
  · rw [m4] at q
    rw [m3, m2 j (by omega)]
    exact h4 s hs q j hj
  · rw [c6, m2 352 (by decide)]
    exact h5.1
  · rw [m4] at q
    rw [c7 s hs, m3]
    exact h5.2 s hs q
/-- what a call's mask says of them -/
def csb (M : Nat) : Bool := [642, 649, 832, 833, 834, 836, 848, 1856, 1920, 384].all (fun i => !Nat.testBit M i)
def msb (M : Nat) : Bool := [720, 3520, 3521, 4032, 4160].all (fun i => !Nat.testBit M i)
theorem csb_i {M i : Nat} (h : csb M = true) (hi : i ∈ [642, 649, 832, 833, 834, 836, 848, 1856, 1920, 384]) : Nat.testBit M i = false := by
  have := List.all_eq_true.mp h i hi
  simpa using this
theorem msb_i {M i : Nat} (h : msb M = true) (hi : i ∈ [720, 3520, 3521, 4032, 4160]) : Nat.testBit M i = false := by
  have := List.all_eq_true.mp h i hi
  simpa using this
theorem CS.fr {M : Nat} {b : Nat → Int} {d0 d : Ds} (h : Inv M b d0 d) (hm : csb M = true) : CS d0 d := by
  have k13 : cls 117 = 13 := by decide +kernel
  have k29 : cls 123 = 29 := by decide +kernel
  have k30 : cls 124 = 30 := by decide +kernel
  have k6 : cls 228 = 6 := by decide +kernel
  have ks : ∀ s, s < 3 → cls (269 + 20 * s) = 6 := by decide +kernel
  refine ⟨rdqc h km_10 (csb_i hm (i := 642) (by decide)), rdqc h km_10 (csb_i hm (i := 649) (by decide)), fun j hj => ?_, fun j => ?_, fun j => ?_, rdqc h k6 (csb_i hm (i := 384) (by decide)), fun s hs => rdqc h (ks s hs) (csb_i hm (i := 384) (by decide))⟩
  · rcases hj with z | z | z | z | z <;> subst z
    · exact rdqc h k13 (csb_i hm (i := 832) (by decide))
    · exact rdqc h k13 (csb_i hm (i := 833) (by decide))
    · exact rdqc h k13 (csb_i hm (i := 834) (by decide))
    · exact rdqc h k13 (csb_i hm (i := 836) (by decide))
    · exact rdqc h k13 (csb_i hm (i := 848) (by decide))
  · exact h.2.1 123 j (by rw [k29, cdn, if_neg (by decide), if_neg (by decide)]; exact csb_i hm (i := 1856) (by decide))
  · exact h.2.1 124 j (by rw [k30, cdn, if_neg (by decide), if_neg (by decide)]; exact csb_i hm (i := 1920) (by decide))
theorem reg_0 {j : Nat} (h : j < 352) : reg j = 0 := by
  have s : ∀ k, 352 ≤ k → stp k j = 0 := fun k hk => if_neg (by omega)
  unfold reg
  rw [s 352 (by decide), s 353 (by decide), s 354 (by decide), s 355 (by decide), s 379 (by decide), s 455 (by decide), s 459 (by decide), s 555 (by decide), s 556 (by decide), s 557 (by decide), s 558 (by decide), s 1678 (by decide)]
theorem MS.fr {M : Nat} {b : Nat → Int} {d0 d : Ds} (h : Inv M b d0 d) (hm : msb M = true) : MS d0 d := by
  have k55 : cls 336 = 55 := by decide +kernel
  have k65 : cls 346 = 65 := by decide +kernel
  refine ⟨rdqc h mo_11 (msb_i hm (i := 720) (by decide)), fun j hj => ?_, fun j => ?_, fun j => ?_⟩
  · refine h.2.1 336 j ?_
    rw [k55, cdn, if_neg (by decide), if_pos rfl]
    by_cases z : j = 352
    · subst z
      exact msb_i hm (i := 3521) (by decide)
    · rw [reg_0 (by omega)]
      exact msb_i hm (i := 3520) (by decide)
  · exact h.2.1 344 j (by rw [hl_63, cdn, if_neg (by decide), if_neg (by decide)]; exact msb_i hm (i := 4032) (by decide))
  · exact h.2.1 346 j (by rw [k65, cdn, if_neg (by decide), if_neg (by decide)]; exact msb_i hm (i := 4160) (by decide))
