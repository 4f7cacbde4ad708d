/-! the class's draft: what a text told -/
theorem chk_ne {g : Gs} (hS : Shp g) {r k e : Nat} (h : chk g r k) (he : e < 347) (hk : tkd e ≠ k) : r ≠ e := fun z => hk (by rw [← (hS.2.1 e he).1, ← z]; exact h.2)
/-- more of it: diodes, bounce, macros; ck has all that is told behind fixed numbers -/
def DX (d : Ds) (m : Nat) (ck : Nat → Int32) : Prop := dI d 9 2 = ck 100 ∧ dI d 9 4 = ck 101 ∧ ∀ i, i < m → dI d 15 i = ck (200 + 9 * i) ∧ (ck (200 + 9 * i)).toInt ≤ 8 ∧ ∀ j : Nat, (j : Int) < (ck (200 + 9 * i)).toInt → dI d 16 (8 * i + j) = ck (200 + 9 * i + 1 + j)
def DR (V : Nat → Int32) (d : Ds) (n m : Nat) (ck : Nat → Int32) : Prop := dI d 9 0 = V 1 ∧ dI d 9 1 = V 2 ∧ (dI d 9 12).toInt = (n : Int) ∧ (dI d 9 16).toInt = (m : Int) ∧ (∀ j, j < n → dI d 12 j = ck (2 * j) ∧ dI d 13 j = ck (2 * j + 1)) ∧ DX d m ck
def DRF (d d' : Ds) : Prop := (∀ j, j = 0 ∨ j = 1 ∨ j = 2 ∨ j = 4 ∨ j = 12 ∨ j = 16 → dI d' 9 j = dI d 9 j) ∧ ∀ j, dI d' 12 j = dI d 12 j ∧ dI d' 13 j = dI d 13 j ∧ dI d' 15 j = dI d 15 j ∧ dI d' 16 j = dI d 16 j
theorem DR.f {V : Nat → Int32} {d d' : Ds} {n m : Nat} {ck : Nat → Int32} (h : DR V d n m ck) (f : DRF d d') : DR V d' n m ck := by
  obtain ⟨a, b, c, e, h, x1, x2, x3⟩ := h
  refine ⟨by rw [f.1 0 (by omega)]; exact a, by rw [f.1 1 (by omega)]; exact b, by rw [f.1 12 (by omega)]; exact c, by rw [f.1 16 (by omega)]; exact e, fun j hj => ?_, by rw [f.1 2 (by omega)]; exact x1, by rw [f.1 4 (by omega)]; exact x2, fun i hi => ?_⟩
  · rw [(f.2 j).1, (f.2 j).2.1]
    exact h j hj
  · obtain ⟨y1, y2, y3⟩ := x3 i hi
    refine ⟨by rw [(f.2 i).2.2.1]; exact y1, y2, fun j hj => ?_⟩
    rw [(f.2 _).2.2.2]
    exact y3 j hj
theorem SF.drf {d d' : Ds} (h : SF d d') : DRF d d' := ⟨fun j _ => h.1 9 j (by omega), fun j => ⟨h.1 12 j (by omega), h.1 13 j (by omega), h.1 15 j (by omega), h.1 16 j (by omega)⟩⟩
/-- the reader's own cells and the tokens stay -/
def QF (d d' : Ds) : Prop := (∀ j, dI d' 2 j = dI d 2 j) ∧ TF d d'
theorem QF.rf {d : Ds} : QF d d := ⟨fun _ => rfl, fun _ _ _ => rfl, fun _ => rfl⟩
theorem QF.i {d df de : Ds} {r j : Nat} {v : Int32} (h : QF d df) (e : de = sI df r j v) (hr : ¬ (r = 2 ∨ r = 3 ∨ r = 4 ∨ r = 5 ∨ r = 6)) : QF d de := by
  subst e
  refine ⟨fun i => ?_, fun r' i q => ?_, h.2.2⟩
  · rw [sI_rd, if_neg (fun z => hr (Or.inl z.1.symm))]
    exact h.1 i
  · rw [sI_rd, if_neg (fun z => hr (by rw [← z.1]; omega))]
    exact h.2.1 r' i q
theorem TF.rf {d : Ds} : TF d d := ⟨fun _ _ _ => rfl, fun _ => rfl⟩
theorem TF.tr {d dd d' : Ds} (h : TF d dd) (h2 : TF dd d') : TF d d' := ⟨fun r j q => (h2.1 r j q).trans (h.1 r j q), fun j => (h2.2 j).trans (h.2 j)⟩
theorem XC.q {d d' : Ds} {x : Nat × Int32} (h : XC d x) (f : QF d d') : XC d' x := ⟨by rw [f.1]; exact h.1, by rw [f.1]; exact h.2.1, h.2.2.1, fun z => by rw [f.1]; exact h.2.2.2 z⟩
theorem NT.q {d d' : Ds} {w : Int32 × Nat} (h : NT d w) (f : QF d d') : NT d' w := ⟨by rw [f.1]; exact h.1, fun z => by rw [f.1]; exact h.2 z⟩
theorem DRF.i {d df de : Ds} {r j : Nat} {v : Int32} (h : DRF d df) (e : de = sI df r j v) (hr : ¬ (r = 12 ∨ r = 13 ∨ r = 15 ∨ r = 16 ∨ r = 9 ∧ (j = 0 ∨ j = 1 ∨ j = 2 ∨ j = 4 ∨ j = 12 ∨ j = 16))) : DRF d de := by
  subst e
  refine ⟨fun i q => ?_, fun i => ⟨?_, ?_, ?_, ?_⟩⟩
  · rw [sI_rd, if_neg (fun z => hr (by omega))]
    exact h.1 i q
  · rw [sI_rd, if_neg (fun z => hr (by omega))]
    exact (h.2 i).1
  · rw [sI_rd, if_neg (fun z => hr (by omega))]
    exact (h.2 i).2.1
  · rw [sI_rd, if_neg (fun z => hr (by omega))]
    exact (h.2 i).2.2.1
  · rw [sI_rd, if_neg (fun z => hr (by omega))]
    exact (h.2 i).2.2.2
theorem DRF.rf {d : Ds} : DRF d d := ⟨fun _ _ => rfl, fun _ => ⟨rfl, rfl, rfl, rfl⟩⟩
theorem DRF.tr {d dd d' : Ds} (h : DRF d dd) (k : DRF dd d') : DRF d d' := ⟨fun j q => (k.1 j q).trans (h.1 j q), fun j => ⟨(k.2 j).1.trans (h.2 j).1, (k.2 j).2.1.trans (h.2 j).2.1, (k.2 j).2.2.1.trans (h.2 j).2.2.1, (k.2 j).2.2.2.trans (h.2 j).2.2.2⟩⟩
/-- as above, with what holds of the draft -/
def CQ (d0 : Ds) (G : Ds → Prop) (d' : Ds) (u : Int32) (y : Nat × Int32) (w : Int32 × Nat) : Prop := XC d' y ∧ TF d0 d' ∧ (u = 1 ∧ y.2 = 0 ∧ NT d' w ∧ G d' ∨ u = 0 ∧ ¬ y.2 = 0)
theorem CP.cq {d0 d1 d' : Ds} {G : Ds → Prop} {u : Int32} {y : Nat × Int32} {w : Int32 × Nat} (h : CP d1 d' u y w) (hT : TF d0 d1) (hG : SF d1 d' → G d') : CQ d0 G d' u y w := ⟨h.1, hT.tr h.2.1.tf, h.2.2.elim (fun z => Or.inl ⟨z.1, z.2.1, z.2.2, hG h.2.1⟩) Or.inr⟩
section SEQQ
variable {K : Nat → Int32} {k : Int32} {T : Nat} {d0 d1 : Ds} {w w' : Int32 × Nat} {z : Nat × Int32} {G : Ds → Prop}
theorem pc_seqQ {X : Option (Int32 × Ds)} {rest : Ds → Option (Int32 × Ds)} {R : Ds → Prop} (hT : TF d0 d1) (hX : pc X (fun u d' => CP d1 d' u (mS K k (T, 0)) w ∧ R d')) (hz : ¬ (mS K k (T, 0)).2 = 0 → z = mS K k (T, 0)) (hr : ∀ d', mS K k (T, 0) = (T + 1, 0) → K T = k → XC d' (T + 1, 0) → SF d1 d' → NT d' w → R d' → pc (rest d') (fun u d' => CQ d0 G d' u z w')) : pc (cb X fun u d' => if u = 0 then some (0, d') else rest d') (fun u d' => CQ d0 G d' u z w') := by
  refine pc_cb hX (fun u d' r => ?_)
  obtain ⟨⟨a, b, c⟩, rR⟩ := r
  rcases c with ⟨c, c0, cw⟩ | ⟨c, c0⟩
  · rw [c]
    refine pc_if (fun q => absurd q (by decide)) (fun _ => ?_)
    obtain ⟨m1, m2, _⟩ := mS_ok c0
    rw [m1] at a
    exact hr d' m1 m2 a b cw rR
  · rw [c]
    refine pc_if (fun _ => pc_some ?_) (fun q => absurd rfl q)
    rw [hz c0]
    exact ⟨a, hT.tr b.tf, Or.inr ⟨rfl, c0⟩⟩
end SEQQ
/-! lines -/
def kyN (V : Nat → Int32) : Int32 := V 1 * V 2 - 1
def tld (ck : Nat → Int32) (v : Int32) : Nat → Bool
  | 0 => false
  | j + 1 => tld ck v j || ck j == v
def cNt (V : Nat → Int32) (n : Nat) (ck : Nat → Int32) (u : Int32) (T : Nat) (w : Int32 × Nat) : Int32 × Nat := nNu V 0 (kyN V) T (if V T = u ∨ tld ck (V T) (2 * n) = true then nT 3 T w else w)
def mNt (K V : Nat → Int32) : Nat → Nat → Int32 × Nat → Int32 × Nat
  | 0, _, w => w
  | k + 1, T, w => if K T = 2 then mNt K V k (T + 1) (nW V 30 T w) else w
def cDt (K V : Nat → Int32) (T : Nat) (w : Int32 × Nat) : Int32 × Nat := dNt K V T (if K T = 31 ∨ K T = 32 ∨ K T = 39 then w else nT 5 T w)
def lNt (K V : Nat → Int32) (n : Nat) (ck : Nat → Int32) (T : Nat) (w : Int32 × Nat) : Int32 × Nat := if (K T).toInt < 23 then w else if K T = 28 then dNt K V (T + 3) (nNu V 0 (kyN V) (T + 2) (nW V (K T) (T + 1) w)) else if K T = 29 then cDt K V (T + 3) (cNt V n ck (V (T + 1)) (T + 2) (cNt V n ck (-1) (T + 1) w)) else if K T = 30 then mNt K V 7 (T + 2) (nW V (K T) (T + 1) w) else if K T = 27 then nNu V 1 20 (T + 2) (nW V (K T) (T + 1) w) else nW V (K T) (T + 1) w
def ckU (ck : Nat → Int32) (n : Nat) (a b : Int32) : Nat → Int32 := fun j => if j = 2 * n then a else if j = 2 * n + 1 then b else ck j
/-- a flag, a setting -/
def stU (ck : Nat → Int32) (n : Nat) (a : Int32) : Nat → Int32 := fun j => if j = n then a else ck j
/-- code l of macro m -/
def mcU (ck : Nat → Int32) (m l : Nat) (a : Int32) : Nat → Int32 := fun j => if j = 200 + 9 * m then Int32.ofNat (l + 1) else if j = 200 + 9 * m + 1 + l then a else ck j
def mcF (K V : Nat → Int32) (m : Nat) : Nat → Nat → Nat → (Nat → Int32) → Nat → Int32
  | 0, _, _, ck => ck
  | k + 1, T, l, ck => if K T = 2 then mcF K V m k (T + 1) (l + 1) (mcU ck m l (V T)) else ck
def ck0 : Nat → Int32 := fun j => if j = 101 then 2 else 0
theorem DX.st {d d' : Ds} {m n j : Nat} {ck : Nat → Int32} {a : Int32} (h : DX d m ck) (hj : n = 100 ∧ j = 2 ∨ n = 101 ∧ j = 4) (e : d' = sI d 9 j a) : DX d' m (stU ck n a) := by
  obtain ⟨x1, x2, x3⟩ := h
  have o : ∀ r i, ¬ r = 9 → dI d' r i = dI d r i := fun r i q => rdq e (Or.inl q)
  refine ⟨?_, ?_, fun i hi => ?_⟩
  · unfold stU
    by_cases z : j = 2
    · rw [if_pos (by omega), e, sI_rd, if_pos ⟨rfl, z.symm⟩]
    · rw [if_neg (by omega), rdq e (Or.inr (by omega))]
      exact x1
  · unfold stU
    by_cases z : j = 4
    · rw [if_pos (by omega), e, sI_rd, if_pos ⟨rfl, z.symm⟩]
    · rw [if_neg (by omega), rdq e (Or.inr (by omega))]
      exact x2
  · obtain ⟨y1, y2, y3⟩ := x3 i hi
    have s0 : stU ck n a (200 + 9 * i) = ck (200 + 9 * i) := if_neg (by omega)
    rw [s0]
    refine ⟨by rw [o 15 i (by decide)]; exact y1, y2, fun k hk => ?_⟩
    rw [o 16 _ (by decide), show stU ck n a (200 + 9 * i + 1 + k) = ck (200 + 9 * i + 1 + k) from if_neg (by omega)]
    exact y3 k hk
theorem DR.st {V : Nat → Int32} {d d' : Ds} {n m k j : Nat} {ck : Nat → Int32} {a : Int32} (h : DR V d n m ck) (hn : n ≤ 4) (hj : k = 100 ∧ j = 2 ∨ k = 101 ∧ j = 4) (e : d' = sI d 9 j a) : DR V d' n m (stU ck k a) := by
  obtain ⟨h0, h1, h12, h16, hk, hx⟩ := h
  have o : ∀ r i, ¬ r = 9 → dI d' r i = dI d r i := fun r i q => rdq e (Or.inl q)
  refine ⟨by rw [rdq e (Or.inr (by omega))]; exact h0, by rw [rdq e (Or.inr (by omega))]; exact h1, by rw [rdq e (Or.inr (by omega))]; exact h12, by rw [rdq e (Or.inr (by omega))]; exact h16, fun i hi => ?_, hx.st hj e⟩
  rw [o 12 i (by decide), o 13 i (by decide), show stU ck k a (2 * i) = ck (2 * i) from if_neg (by omega), show stU ck k a (2 * i + 1) = ck (2 * i + 1) from if_neg (by omega)]
  exact hk i hi
section LINE
variable {t : Nat → Int32} {n : Nat} {d0 d : Ds} {T c m : Nat} {w : Int32 × Nat} {ck : Nat → Int32}
theorem takeSetting_e {g : Gs} {N : Nat} (hS : Shp g) (hc4 : c ≤ 4) {k : Int32} (hk : 23 ≤ k.toInt) (hk2 : k.toInt ≤ 27) (hC : CT t n d) (hx : XC d (T, 0)) (hw : NT d w) (hD : DR (VS t n) d c m ck) : pc (fX7_takeSetting N g 2 (WD k) d) (fun u d' => CQ d (fun d' => DR (VS t n) d' c m (if k = 23 then stU ck 101 (VS t n T) else ck)) d' u (if k = 27 then mS (KS t n) 2 (mS (KS t n) 2 (T, 0)) else mS (KS t n) 2 (T, 0)) (if k = 27 then nNu (VS t n) 1 20 (T + 1) (nW (VS t n) k T w) else nW (VS t n) k T w)) := by
  have e27 : (27 : Int32).toInt = 27 := by decide
  unfold fX7_takeSetting
  rw [wd_some (by omega)]
  refine pc_ob (fun r e => ?_)
  have er : r = 100000 + kk k := (Option.some.inj e).symm
  subst er
  rw [show 100000 + kk k - 100000 = kk k by omega, ← wd_some (by omega)]
  refine pc_gd (fun _ => pc_gd (fun _ => pc_seqQ (K := KS t n) TF.rf (takeNumber_e hS hC SF.rf hx hw) (fun q => ?_) (fun d4 m1 m2 a b c4 n4 => ?_)))
  · split
    · exact mS_n q
    · rfl
  · have w4 : NT d4 (nW (VS t n) k T w) := c4
    have hD4 := hD.f b.drf
    have out : ∀ {dd : Ds}, k ≠ 27 → QF d4 dd → DR (VS t n) dd c m (if k = 23 then stU ck 101 (VS t n T) else ck) → pc (fX7_takeSetting_J142 N g 2 (WD k) dd) (fun u d' => CQ d (fun d' => DR (VS t n) d' c m (if k = 23 then stU ck 101 (VS t n T) else ck)) d' u (if k = 27 then mS (KS t n) 2 (mS (KS t n) 2 (T, 0)) else mS (KS t n) 2 (T, 0)) (if k = 27 then nNu (VS t n) 1 20 (T + 1) (nW (VS t n) k T w) else nW (VS t n) k T w)) := by
      intro dd q1 q2 q3
      unfold fX7_takeSetting_J142
      rw [if_neg q1, if_neg q1, m1]
      exact pc_some ⟨a.q q2, b.tf.tr q2.2, Or.inl ⟨rfl, rfl, w4.q q2, q3⟩⟩
    have one : ∀ {M : Nat} {z : Int32} {j : Nat}, z.toInt = 20 + ((M - 100000 : Nat) : Int) → 100000 ≤ M → z ≠ 27 → (z = 23 ∧ j = 4 ∨ z ≠ 23 ∧ (j = 5 ∨ j = 6 ∨ j = 7)) → WD k = some M → pc (ob (gR g 2 2) fun r36 => (gd (chk g r36 0) <| bd (sI d4 r36 j (dI d4 2 4)) fun d38 => (fX7_takeSetting_J142 N g 2 (WD k) d38))) (fun u d' => CQ d (fun d' => DR (VS t n) d' c m (if k = 23 then stU ck 101 (VS t n T) else ck)) d' u (if k = 27 then mS (KS t n) 2 (mS (KS t n) 2 (T, 0)) else mS (KS t n) 2 (T, 0)) (if k = 27 then nNu (VS t n) 1 20 (T + 1) (nW (VS t n) k T w) else nW (VS t n) k T w)) := by
      intro M z j h1 h2 h3 h4 h5
      have kz : k = z := (wd_i h1 h2).mp h5
      refine pc_ob (fun r e => ?_)
      have := gq hS (e := 9) (by decide +kernel) e
      subst this
      refine pc_gd (fun _ => pc_bd (fun d38 e38 => out (by rw [kz]; exact h3) (QF.rf.i e38 (by decide)) ?_))
      rw [kz]
      rcases h4 with ⟨h4, h6⟩ | ⟨h4, h6⟩
      · rw [if_pos h4, ← n4]
        exact hD4.st hc4 (Or.inr ⟨rfl, h6⟩) e38
      · rw [if_neg h4]
        exact hD4.f (DRF.rf.i e38 (by omega))
    refine pc_gd (fun _ => pc_gd (fun _ => pc_if (fun q => one (z := 23) (j := 4) (by decide) (by decide) (by decide) (by decide) q) (fun q3 => pc_gd (fun _ => pc_if (fun q => one (z := 24) (j := 5) (by decide) (by decide) (by decide) (by decide) q) (fun q4 => pc_gd (fun _ => pc_if (fun q => one (z := 25) (j := 6) (by decide) (by decide) (by decide) (by decide) q) (fun q5 => pc_gd (fun _ => pc_if (fun q => one (z := 26) (j := 7) (by decide) (by decide) (by decide) (by decide) q) (fun q6 => pc_gd (fun _ => pc_if (fun q => ?_) (fun q7 => ?_)))))))))))
    · have k27 : k = 27 := (wd_i (by decide) (by decide)).mp q
      rw [if_pos k27, if_pos k27, if_neg (show ¬ k = 23 by rw [k27]; decide), m1]
      refine pc_ob (fun r e => ?_)
      have := gq hS (e := 9) (by decide +kernel) e
      subst this
      refine pc_gd (fun _ => pc_bd (fun d21 e21 => ?_))
      have q21 := QF.rf.i e21 (by decide)
      have f21 := DRF.rf.i e21 (by decide)
      refine pc_seqQ (K := KS t n) (b.tf.tr q21.2) (takeNumber_e hS ((hC.tf b.tf).tf q21.2) SF.rf (a.q q21) (w4.q q21)) (fun _ => rfl) (fun d22 m1' m2' a' b' c' n' => ?_)
      refine pc_bd (fun d26 e26 => ?_)
      have q26 := QF.rf.i e26 (by decide)
      have f26 := DRF.rf.i e26 (by decide)
      unfold fX7_takeSetting_J142
      rw [m1']
      exact pc_some ⟨a'.q q26, ((b.tf.tr q21.2).tr b'.tf).tr q26.2, Or.inl ⟨rfl, rfl, c'.q q26, ((hD4.f f21).f b'.drf).f f26⟩⟩
    · refine out (fun z => q7 ((wd_i (by decide) (by decide)).mpr z)) QF.rf ?_
      rw [if_neg (fun z => q3 ((wd_i (by decide) (by decide)).mpr z))]
      exact hD4
theorem copy_e {g : Gs} (hS : Shp g) {N : Nat} {r b : Nat} (h : chk g r 2) : pc (fX2_copyFrom N g r b d) (fun _ d' => QF d d' ∧ DRF d d') := by
  have nx : ∀ {e : Nat}, e < 347 → tkd e ≠ 2 → r ≠ e := fun he hk => chk_ne hS h he hk
  have n2 : r ≠ 2 := nx (by decide) (by decide +kernel)
  have n3 : r ≠ 3 := nx (by decide) (by decide +kernel)
  have n4 : r ≠ 4 := nx (by decide) (by decide +kernel)
  have n5 : r ≠ 5 := nx (by decide) (by decide +kernel)
  have n6 : r ≠ 6 := nx (by decide) (by decide +kernel)
  have n9 : r ≠ 9 := nx (by decide) (by decide +kernel)
  have n12 : r ≠ 12 := nx (by decide) (by decide +kernel)
  have n13 : r ≠ 13 := nx (by decide) (by decide +kernel)
  have n15 : r ≠ 15 := nx (by decide) (by decide +kernel)
  have n16 : r ≠ 16 := nx (by decide) (by decide +kernel)
  unfold fX2_copyFrom fX2_tell
  refine pc_gd (fun _ => pc_gd (fun _ => pc_cv (P := fun _ d' => QF d d' ∧ DRF d d') (pc_gd (fun _ => pc_bd (fun d2 e2 => pc_bd (fun d3 e3 => pc_bd (fun d4 e4 => pc_some ⟨((QF.rf.i e2 (by omega)).i e3 (by omega)).i e4 (by omega), ((DRF.rf.i e2 (by omega)).i e3 (by omega)).i e4 (by omega)⟩))))) (fun d3 r => pc_some r)))
theorem takeKey_e {g : Gs} {N : Nat} (hS : Shp g) (hC : CT t n d) (hx : XC d (T, 0)) (hw : NT d w) (hD : DR (VS t n) d c m ck) : pc (fX7_takeKey N g 2 d) (fun u d' => CQ d (fun d' => DR (VS t n) d' c m ck) d' u (dS (KS t n) (mS (KS t n) 2 (mS (KS t n) 2 (T, 0)))) (dNt (KS t n) (VS t n) (T + 2) (nNu (VS t n) 0 (kyN (VS t n)) (T + 1) (nW (VS t n) 28 T w)))) := by
  unfold fX7_takeKey
  refine pc_gd (fun _ => pc_gd (fun _ => pc_seqQ (K := KS t n) TF.rf (takeNumber_e hS hC SF.rf hx hw) (fun q => by rw [mS_n q, dS_n q]) (fun d3 m1 m2 a b c3 n3 => ?_)))
  have w3 : NT d3 (nW (VS t n) 28 T w) := c3
  rw [m1]
  refine pc_bd (fun u7 e7 => pc_ob (fun r e => ?_))
  have := gq hS (e := 9) (by decide +kernel) e
  subst this
  refine pc_gd (fun _ => pc_cb (P := fun u d' => d' = d3 ∧ u = VS t n 1 * VS t n 2) (by
    unfold fX0_keys
    have h3 := hD.f b.drf
    exact pc_gd (fun _ => pc_some ⟨rfl, by rw [h3.1, h3.2.1]⟩)) (fun u12 d10 r => ?_))
  obtain ⟨e, hu⟩ := r
  subst e
  rw [hu]
  refine pc_seqQ (K := KS t n) b.tf (takeNumber_e hS (hC.tf b.tf) SF.rf a w3) (fun q => dS_n q) (fun d13 m1' m2' a' b' c' n' => ?_)
  rw [m1']
  have w13 : NT d13 (nNu (VS t n) 0 (kyN (VS t n)) (T + 1) (nW (VS t n) 28 T w)) := c'
  have hD13 := (hD.f b.drf).f b'.drf
  refine pc_cb (P := fun _ d' => d' = d13) (by
    unfold fX0_toldDeed fX0_toldDeed_J19
    exact pc_if (fun _ => pc_some rfl) (fun _ => pc_if (fun _ => pc_some rfl) (fun _ => pc_if (fun _ => pc_some rfl) (fun _ => pc_if (fun _ => pc_gd (fun _ => pc_ob (fun _ _ => pc_gd (fun _ => pc_gd (fun _ => pc_ob (fun _ _ => pc_some rfl)))))) (fun _ => pc_some rfl))))) (fun u19 d17 e => ?_)
  subst e
  refine pc_cb (takeDeed_e hS ((hC.tf b.tf).tf b'.tf) SF.rf a' w13) (fun u22 d20 r => ?_)
  obtain ⟨x20, s20, hu⟩ := r
  have t20 := (b.tf.tr b'.tf).tr s20.tf
  rcases hu with ⟨hu, y0, w20⟩ | ⟨hu, y0⟩ <;> rw [hu]
  · refine pc_if (fun q => absurd q (by decide)) (fun _ => ?_)
    have fin : ∀ {dd : Ds}, QF d20 dd → DRF d20 dd → pc (fX7_takeKey_J79 N g 2 dd) (fun u d' => CQ d (fun d' => DR (VS t n) d' c m ck) d' u (dS (KS t n) (T + 1 + 1, 0)) (dNt (KS t n) (VS t n) (T + 2) (nNu (VS t n) 0 (kyN (VS t n)) (T + 1) (nW (VS t n) 28 T w)))) := by
      intro dd q1 q2
      unfold fX7_takeKey_J79
      exact pc_some ⟨x20.q q1, t20.tr q1.2, Or.inl ⟨rfl, y0, w20.q q1, (hD13.f s20.drf).f q2⟩⟩
    refine pc_if (fun _ => fin QF.rf DRF.rf) (fun _ => pc_ob (fun r25 _ => pc_ob (fun r26 _ => pc_gd (fun hc => pc_cv (copy_e hS hc) (fun d28 r => fin r.1 r.2)))))
  · exact pc_if (fun _ => pc_some ⟨x20, t20, Or.inr ⟨rfl, y0⟩⟩) (fun q => absurd rfl q)
end LINE
