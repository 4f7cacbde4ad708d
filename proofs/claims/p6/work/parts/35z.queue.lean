/-! the queue of the model: what its small functions do -/
def qQ (d : Ds) : Int := (dI d 336 557).toInt
theorem now_55 : cls 336 = 55 := by decide +kernel
theorem mo_now {g : Gs} (hS : Shp g) {x0 : Nat} (hx0 : cls x0 = 11) : gR g x0 17 = some 336 := by
  obtain ⟨r, e, k, -⟩ := sh_11_17 hS hx0
  have := un_55 k
  subst this
  exact e
theorem rd_q {b : Nat → Int} {d : Ds} (h : Bnd b d) {j : Nat} (hj : j < 9178) : okN (b (own 336)) j (dI d 336 j) := rd_55 h now_55 hj
theorem qQ_iv {b : Nat → Int} {d : Ds} (h : Bnd b d) : iv (dI d 336 557) 0 2500 := (rd_q h (by decide)).2.2.2.2.2.2.2.2.2.2.1 rfl
theorem okN_sh {B : Int} {j : Nat} {v : Int32} (h1 : 1678 ≤ j) (h : okN B (j + 3) v) : okN B j v := by
  unfold okN at h ⊢
  obtain ⟨a1, a2, a3, a4, a5, a6, a7, a8, a9, a10, a11, a12, a13, a14, a15⟩ := h
  refine ⟨?_, ?_, ?_, ?_, ?_, ?_, ?_, ?_, ?_, ?_, ?_, ?_, ?_, ?_, ?_⟩ <;> intro q <;> first | (exfalso; omega) | exact a13 (by omega) | exact a14 (by omega) | exact a15 (by omega)
theorem qx_ix {x : Int32} (hx : iv x 0 2499) : ((1678 : Int32) + ((3 : Int32) * x)).toInt = 1678 + 3 * x.toInt ∧ ((1678 : Int32) + ((3 : Int32) * x)).toNatClampNeg = 1678 + 3 * x.toInt.toNat ∧ (((1678 : Int32) + ((3 : Int32) * x)) + 1).toNatClampNeg = 1678 + 3 * x.toInt.toNat + 1 ∧ (((1678 : Int32) + ((3 : Int32) * x)) + 2).toNatClampNeg = 1678 + 3 * x.toInt.toNat + 2 := by
  have h1 := hx.1
  have h2 := hx.2
  have k1 := z_mul (x := (3 : Int32)) (y := x) (show (3 : Int32).toInt = 3 by decide) rfl (by omega) (by omega)
  have k2 := z_add (x := (1678 : Int32)) (y := (3 : Int32) * x) (show (1678 : Int32).toInt = 1678 by decide) k1 (by omega) (by omega)
  have k3 := z_add (x := (1678 : Int32) + (3 : Int32) * x) (y := 1) k2 (show (1 : Int32).toInt = 1 by decide) (by omega) (by omega)
  have k4 := z_add (x := (1678 : Int32) + (3 : Int32) * x) (y := 2) k2 (show (2 : Int32).toInt = 2 by decide) (by omega) (by omega)
  refine ⟨k2, ?_, ?_, ?_⟩
  · show ((1678 : Int32) + ((3 : Int32) * x)).toInt.toNat = _
    rw [k2]; omega
  · show (((1678 : Int32) + ((3 : Int32) * x)) + 1).toInt.toNat = _
    rw [k3]; omega
  · show (((1678 : Int32) + ((3 : Int32) * x)) + 2).toInt.toNat = _
    rw [k4]; omega
theorem qx_iv {x : Int32} (hx : iv x 0 2499) : iv ((1678 : Int32) + ((3 : Int32) * x)) 1678 9175 := iv_add (l := 1678) (h := 9175) (by decide : iv (1678 : Int32) 1678 1678) (iv_mul (l := 0) (h := 7497) (by decide : iv (3 : Int32) 3 3) hx (by decide)) (by decide)
theorem sX12_keyAt_c {g : Gs} (hS : Shp g) {x0 : Nat} (hx0 : cls x0 = 11) {x1 : Int32} (hx1 : iv x1 0 2499) {d : Ds} : ok (fX12_keyAt 10000 g x0 x1 d) (fun u d' => d' = d ∧ u = dI d 336 (1678 + 3 * x1.toInt.toNat)) := by
  unfold fX12_keyAt
  refine ok_gd (kd_11 hS hx0) ?_
  refine ok_ob (mo_now hS hx0) ?_
  refine ok_gd (kd_55 hS now_55) ?_
  refine ok_gd (ixg (qx_iv hx1) (ln_55 hS now_55) (by decide)) ?_
  exact ok_some ⟨rfl, by rw [(qx_ix hx1).2.1]⟩
theorem sX12_isDownAt_c {g : Gs} (hS : Shp g) {x0 : Nat} (hx0 : cls x0 = 11) {x1 : Int32} (hx1 : iv x1 0 2499) {d : Ds} : ok (fX12_isDownAt 10000 g x0 x1 d) (fun u d' => d' = d ∧ (u = 1 ∧ dI d 336 (1678 + 3 * x1.toInt.toNat + 1) = 1 ∨ u = 0 ∧ ¬ dI d 336 (1678 + 3 * x1.toInt.toNat + 1) = 1)) := by
  unfold fX12_isDownAt
  refine ok_gd (kd_11 hS hx0) ?_
  refine ok_ob (mo_now hS hx0) ?_
  refine ok_gd (kd_55 hS now_55) ?_
  refine ok_gd (ixg (iv_add (l := 1679) (h := 9176) (qx_iv hx1) (by decide : iv (1 : Int32) 1 1) (by decide)) (ln_55 hS now_55) (by decide)) ?_
  have e := (qx_ix hx1).2.2.1
  refine ok_if (fun c => ?_) (fun c => ?_)
  · unfold fX12_isDownAt_J23
    rw [e] at c
    exact ok_gd (by decide) (ok_some ⟨rfl, Or.inl ⟨rfl, c⟩⟩)
  · unfold fX12_isDownAt_J23
    rw [e] at c
    exact ok_gd (by decide) (ok_some ⟨rfl, Or.inr ⟨rfl, c⟩⟩)
theorem sX12_timeAt_c {g : Gs} (hS : Shp g) {x0 : Nat} (hx0 : cls x0 = 11) {x1 : Int32} (hx1 : iv x1 0 2499) {d : Ds} : ok (fX12_timeAt 10000 g x0 x1 d) (fun u d' => d' = d ∧ u = dI d 336 (1678 + 3 * x1.toInt.toNat + 2)) := by
  unfold fX12_timeAt
  refine ok_gd (kd_11 hS hx0) ?_
  refine ok_ob (mo_now hS hx0) ?_
  refine ok_gd (kd_55 hS now_55) ?_
  refine ok_gd (ixg (iv_add (l := 1680) (h := 9177) (qx_iv hx1) (by decide : iv (2 : Int32) 2 2) (by decide)) (ln_55 hS now_55) (by decide)) ?_
  exact ok_some ⟨rfl, by rw [(qx_ix hx1).2.2.2]⟩
theorem sX12_keyAt_h {g : Gs} (hS : Shp g) {b : Nat → Int} {x0 : Nat} (hx0 : cls x0 = 11) {x1 : Int32} {d : Ds} (hx1 : iv x1 0 2499) (hB : Bnd b d) : ok (fX12_keyAt 10000 g x0 x1 d) (fun u d' => d' = d ∧ iv u 0 23) := by
  refine ok_mono (sX12_keyAt_c hS hx0 hx1) (fun u d' r => ⟨r.1, ?_⟩)
  rw [r.2]
  have := hx1.2
  have := hx1.1
  exact (rd_q hB (j := 1678 + 3 * x1.toInt.toNat) (by omega)).2.2.2.2.2.2.2.2.2.2.2.2.1 (by omega)
theorem sX12_isDownAt_h {g : Gs} (hS : Shp g) {b : Nat → Int} {x0 : Nat} (hx0 : cls x0 = 11) {x1 : Int32} {d : Ds} (hx1 : iv x1 0 2499) (hB : Bnd b d) : ok (fX12_isDownAt 10000 g x0 x1 d) (fun u d' => d' = d ∧ iv u 0 1) := by
  refine ok_mono (sX12_isDownAt_c hS hx0 hx1) (fun u d' r => ⟨r.1, ?_⟩)
  rcases r.2 with ⟨h, -⟩ | ⟨h, -⟩ <;> rw [h] <;> decide
theorem sX12_timeAt_h {g : Gs} (hS : Shp g) {b : Nat → Int} {x0 : Nat} (hx0 : cls x0 = 11) {x1 : Int32} {d : Ds} (hx1 : iv x1 0 2499) (hB : Bnd b d) : ok (fX12_timeAt 10000 g x0 x1 d) (fun u d' => d' = d ∧ iv u 0 2147483647) := by
  refine ok_mono (sX12_timeAt_c hS hx0 hx1) (fun u d' r => ⟨r.1, ?_⟩)
  rw [r.2]
  have := hx1.2
  have := hx1.1
  exact iv_lo ((rd_q hB (j := 1678 + 3 * x1.toInt.toNat + 2) (by omega)).2.2.2.2.2.2.2.2.2.2.2.2.2.2 (by omega))
/-! a whole row, as it stands between calls -/
def fK (f : Nat → Int32) (i : Nat) : Int32 := f (1678 + 3 * i)
def fD (f : Nat → Int32) (i : Nat) : Int32 := f (1678 + 3 * i + 1)
def fT (f : Nat → Int32) (i : Nat) : Int := (f (1678 + 3 * i + 2)).toInt
def fQ (f : Nat → Int32) : Int := (f 557).toInt
def fTm (f : Nat → Int32) : Int := (f 354).toInt
def hasB (m k : Int32) : Prop := ((m >>> (k &&& 31)) &&& 1) = (1 : Int32)
def QRl (f : Nat → Int32) (y : Int) : Prop := ∀ i : Nat, (i : Int) < fQ f → fT f i ≤ fTm f ∧ fQ f - i ≤ 24 * (fTm f - fT f i) + y
def QA (f : Nat → Int32) : Prop := (∀ i j : Nat, i < j → (j : Int) < fQ f → fD f i = 1 → fD f j = 1 → fK f i = fK f j → ∃ l, i < l ∧ l < j ∧ fK f l = fK f i ∧ ¬ fD f l = 1) ∧ (∀ i : Nat, (i : Int) < fQ f → fD f i = 1 → (∃ l : Nat, i < l ∧ (l : Int) < fQ f ∧ fK f l = fK f i ∧ ¬ fD f l = 1) ∨ hasB (f 353) (fK f i))
def rw_ (d : Ds) : Nat → Int32 := fun j => dI d 336 j
/-- between ticks -/
def RQ (f : Nat → Int32) : Prop := QA f ∧ QRl f 24 ∧ (fQ f = 0 ∨ fTm f < fT f 0 + 99)
/-- deeds and chords: what is played is a macro -/
def PLf (f : Nat → Int32) : Prop := (∀ i : Nat, i < 96 → f (12 + 3 * i) = 9 → 0 ≤ (f (12 + 3 * i + 1)).toInt) ∧ (∀ c : Nat, c < 4 → f (300 + 4 * c + 2) = 9 → 0 ≤ (f (300 + 4 * c + 3)).toInt)
/-- a whole row, as it stands between calls -/
def RWf (f : Nat → Int32) : Prop := RQ f ∧ PLf f ∧ ((f 0).toInt * (f 1).toInt = 0 ∨ 1 ≤ (f 9).toInt)
