theorem nG_o {B : Bs} {cy : Nat → ClassId} {g : Gs} {d : Ds} {k ln sl x : Nat} (h : x ≠ gN g) : cel B cy g d x = cel B cy (nG g k ln sl) (nD g d) x := by
  have e : x ≠ g.1 := h
  have h1 : dI (nD g d) x = dI d x := by simp [dI, nD, va_up, e]
  have h2 : dF (nD g d) x = dF d x := by simp [dF, nD, va_up, e]
  have h3 : dL (nD g d) x = dL d x := by simp [dL, nD, va_up, e]
  have h4 : dW (nD g d) x = dW d x := by simp [dW, nD, va_up, e]
  have h5 : gR (nG g k ln sl) x = gR g x := by simp [gR, nG, va_up, e]
  have h6 : gL (nG g k ln sl) x = gL g x := by simp [gL, nG, va_up, e]
  have h7 : gK (nG g k ln sl) x = gK g x := by simp [gK, nG, va_up, e]
  have h8 : ∀ t, ar B (nG g k ln sl) (nD g d) x t = ar B g d x t := by
    intro t
    unfold ar
    rw [h1, h2, h3, h4, h5, h6]
  have h9 : ∀ c, fls B (nG g k ln sl) (nD g d) x c = fls B g d x c := by
    intro c
    unfold fls fv
    rw [h1, h5]
  unfold cel
  rw [h7, h8, h9]
theorem nG_K {g : Gs} {k ln sl : Nat} : gK (nG g k ln sl) (gN g) = k := by simp [gK, gN, nG, va_up]
theorem nG_L {g : Gs} {k ln sl : Nat} : gL (nG g k ln sl) (gN g) = ln := by simp [gL, gN, nG, va_up]
theorem nG_R {g : Gs} {k ln sl j : Nat} : gR (nG g k ln sl) (gN g) j = none := by simp [gR, gN, nG, va_up]
theorem nD_I {g : Gs} {d : Ds} {j : Nat} : dI (nD g d) (gN g) j = 0 := by simp [dI, gN, nD, va_up]
theorem nD_F {g : Gs} {d : Ds} {j : Nat} : dF (nD g d) (gN g) j = 0 := by simp [dF, gN, nD, va_up]
theorem nD_L {g : Gs} {d : Ds} {j : Nat} : dL (nD g d) (gN g) j = 0 := by simp [dL, gN, nD, va_up]
theorem nD_W {g : Gs} {d : Ds} {j : Nat} : dW (nD g d) (gN g) j = none := by simp [dW, gN, nD, va_up]
theorem wls_nG {B : Bs} {cy : Nat → ClassId} {g : Gs} {d : Ds} {k ln sl : Nat} : wls B cy (nG g k ln sl) (nD g d) = wls B cy g d ++ [(ad B (gN g), cel B cy (nG g k ln sl) (nD g d) (gN g))] := by
  unfold wls
  rw [show gN (nG g k ln sl) = gN g + 1 from rfl, List.range_succ, List.map_append, List.map_singleton]
  congr 1
  apply List.map_congr_left
  intro r hr
  have h1 : r < gN g := List.mem_range.mp hr
  rw [nG_o (k := k) (ln := ln) (sl := sl) (Nat.ne_of_lt h1)]
theorem fls_new {B : Bs} {g : Gs} {d : Ds} {k ln sl c : Nat} {j : Nat} (hj : j < fN c) : (fls B (nG g k ln sl) (nD g d) (gN g) c)[j]? = some (if fR c j then .null else .int 0) := by
  rw [fls_at hj]
  unfold fv
  by_cases h : fR c j = true
  · rw [if_pos h, if_pos h, nG_R]
    rfl
  · rw [if_neg h, if_neg h, nD_I]
/-- what a new object rests on -/
def FNW (own : String) (index cl N : Nat) : Prop := ∃ (CN : String) (T : u_T) (ty : Nat → FieldType), vwCl[cl]? = some (CN, T, N) ∧ cl < 100 ∧ (∀ w ∈ u_ws CN T N, w ∈ wl) ∧ (∀ k, k < N → parseFieldDescriptor (T k).2.2.1 = some (ty k)) ∧ Cond.classLink own index CN ∈ wl ∧ Cond.instantiable CN N ∈ wl ∧ Cond.initialized CN ∈ wl ∧ ∀ j, j < N → defaultValue (ty j) = if fR cl j then .null else .int 0
section BA
variable {p : Program} {l : Launch} {e : Env} {R : Room} {s : State} {m : MethodId} {args : Array Value} {below : List Frame} {meth : Method} {c : Code} {cells slots : Nat} {Q : State → Prop} {nL : Nat} {D : va_G} {cy : Nat → ClassId} {B : Bs} {g : Gs} {d : Ds} {lv : List (Nat × Value)} {pc : Nat} {cc : ByteArray} {own : String} {rest : List Value} {n0 s0 : Nat}
/-- the new cell's place -/
theorem new_at {T : State} {H1 : Heap} {locs : List Loc} {q : Nat} {x : va_E} {cl1 sl1 : Nat} (hT : T.heap = H1) (X : Stand p l e R s m args below meth c T locs (gN g - n0 + cl1) (slots + sl1)) (h1 : cl1 = 1) (hz : s.heap.size = B.1 + n0) (hn : n0 ≤ gN g) (hlim : gN g < 100000) (hP1 : va_P D vwCl (wls B cy g d ++ [(q, x)]) H1) (hD1 : va_D (wA B) (wls B cy g d ++ [(q, x)])) : q = ad B (gN g) := by
  have hlen : (wls B cy g d).length = gN g := by simp [wls]
  have hlast : (wls B cy g d ++ [(q, x)])[gN g]? = some (q, x) := by
    rw [List.getElem?_append_right (by omega), hlen, Nat.sub_self]
    rfl
  have hlt : q < H1.size := (hP1 _ _ hlast).lt
  have hge : B.1 ≤ q := hD1.2 _ _ hlast
  have hsz : T.heap.size ≤ s.heap.size + (gN g - n0 + cl1) := X.same.2.2.1
  rw [hT] at hsz
  rw [ad_lt hlim]
  rcases Nat.lt_or_ge q (B.1 + gN g) with h2 | h2
  · exfalso
    have hr : q - B.1 < gN g := by omega
    have h3 : (wls B cy g d ++ [(q, x)])[q - B.1]? = some (ad B (q - B.1), cel B cy g d (q - B.1)) := by
      rw [List.getElem?_append_left (by omega)]
      exact wls_at hr
    have h4 := hD1.1 _ _ _ _ h3 hlast (by
      show ad B (q - B.1) = q
      rw [ad_lt (by omega)]
      omega)
    omega
  · omega
theorem new_W {H1 : Heap} {q : Nat} {k ln sl : Nat} (hlim : gN g < 100000) (hq : q = ad B (gN g)) (hP1 : va_P D vwCl (wls B cy g d ++ [(q, cel B cy (nG g k ln sl) (nD g d) (gN g))]) H1) : WP D cy B (nG g k ln sl) (nD g d) H1 := by
  subst hq
  exact ⟨hlim, by rw [wls_nG]; exact hP1⟩
theorem b_new (C : Cx p s m args c cc nL own D cy B) {index cl N : Nat} {g1 : Gs} {d1 : Ds} (hdg : decode cc pc = .ok (.new index, 3)) (hf : FNW own index cl N) (hz : s.heap.size = B.1 + n0) (hn : n0 ≤ gN g) (hs : s0 ≤ gS g) (hlim : gN g < 100000) (hc : gN g + 1 - n0 ≤ R.cells ∧ gS g + N - s0 ≤ R.slots) (hg1 : g1 = nG g cl 0 N) (hd1 : d1 = nD g d) (k : n0 ≤ gN g1 → s0 ≤ gS g1 → WB p l e R s m args below meth c nL D cy B (gN g1 - n0) (gS g1 - s0) Q g1 d1 lv (pc + 3) (.ref (ad B (gN g)) :: rest)) : WB p l e R s m args below meth c nL D cy B (gN g - n0) (gS g - s0) Q g d lv pc rest := by
  intro H locs ls hl hP hS
  obtain ⟨CN, T, ty, f1, f2, f3, f4, f5, f6, f7, f8⟩ := hf
  obtain ⟨hx, hb, hml, hown, hts, hK, hSx, hN⟩ := C
  subst hg1; subst hd1
  have k2 := k (Nat.le_trans hn (Nat.le_succ _)) (Nat.le_trans hs (Nat.le_add_right _ _))
  have e1 : gN (nG g cl 0 N) - n0 = gN g - n0 + 1 := by show gN g + 1 - n0 = _; omega
  have e2 : gS (nG g cl 0 N) - s0 = gS g - s0 + N := by show gS g + N - s0 = _; omega
  rw [e1, e2] at k2
  have hfn : fN cl = N := fN_of f1
  have hcel : cel B cy (nG g cl 0 N) (nD g d) (gN g) = .inr (cl, fls B (nG g cl 0 N) (nD g d) (gN g) cl) := cel_o nG_K f2
  refine va_new (D := D) (ci := cl) (fs := fls B (nG g cl 0 N) (nD g d) (gN g) cl) hx hb hts f3 ty f4 hown (hts _ f5) (hts _ f6) (hts _ f7) hK hP.2 (wls_D hP.1) hS (fun q hq => by show B.1 ≤ q; omega) f1 (fun j hj => ?_) (by omega) (by omega) hdg (fun q H1 hP1 hD1 hS1 => ?_)
  · rw [f8 j hj, vp_V, List.getD_eq_getElem?_getD, fls_new (by rw [hfn]; exact hj)]
    rfl
  · intro T0 hT X
    have hq := new_at (cl1 := 1) hT X rfl hz hn hlim hP1 hD1
    rw [← hcel] at hP1
    have hw := new_W hlim hq hP1
    subst hq
    exact k2 H1 locs ls hl hw hS1 T0 hT X
theorem by8 {n k : Nat} (h : n ≤ 60000000) (hk : k ≤ 8) : n * k ≤ 536870912 := Nat.le_trans (Nat.mul_le_mul h hk) (Nat.le_of_ble_eq_true rfl)
theorem arr_eq {t : Nat} {cA : ClassId} (ht : t < 8) (hK : va_K D vwCl (tys8 cy) s) (h : va_RA s cA (tyk t)) : cA = cy t := by
  have h2 := (hK.2 t (cy t, tyk t) (tys8_at ht)).2
  have key : ∀ ty : FieldType, va_RA s cA ty → va_RA s (cy t) ty → cA = cy t := by
    intro ty a b
    cases ty with
    | object C =>
      obtain ⟨_, _, _, _, _, a4⟩ := a
      obtain ⟨_, _, _, _, _, b4⟩ := b
      exact Option.some.inj (a4.symm.trans b4)
    | _ => exact Option.some.inj (Eq.trans (Eq.symm a) b)
  exact key _ h h2
theorem b_newaB (C : Cx p s m args c cc nL own D cy B) {n : Int32} {g1 : Gs} {d1 : Ds} (hdg : decode cc pc = .ok (.newarray .byte, 2)) (ha : Cond.arrayClass (newarray.typeOf .byte) ∈ wl) (hz : s.heap.size = B.1 + n0) (hn : n0 ≤ gN g) (hs : s0 ≤ gS g) (hlim : gN g < 100000) (h0 : ¬ n < 0) (hb8 : n.toNatClampNeg ≤ 60000000) (hc : gN g + 1 - n0 ≤ R.cells ∧ gS g + n.toNatClampNeg - s0 ≤ R.slots) (hg1 : g1 = nG g 100 n.toNatClampNeg n.toNatClampNeg) (hd1 : d1 = nD g d) (k : n0 ≤ gN g1 → s0 ≤ gS g1 → WB p l e R s m args below meth c nL D cy B (gN g1 - n0) (gS g1 - s0) Q g1 d1 lv (pc + 2) (.ref (ad B (gN g)) :: rest)) : WB p l e R s m args below meth c nL D cy B (gN g - n0) (gS g - s0) Q g d lv pc (.int n :: rest) := by
  intro H locs ls hl hP hS
  obtain ⟨hx, hb, hml, hown, hts, hK, hSx, hN⟩ := C
  subst hg1; subst hd1
  have k2 := k (Nat.le_trans hn (Nat.le_succ _)) (Nat.le_trans hs (Nat.le_add_right _ _))
  have e1 : gN (nG g 100 n.toNatClampNeg n.toNatClampNeg) - n0 = gN g - n0 + 1 := by show gN g + 1 - n0 = _; omega
  have e2 : gS (nG g 100 n.toNatClampNeg n.toNatClampNeg) - s0 = gS g - s0 + n.toNatClampNeg := by show gS g + n.toNatClampNeg - s0 = _; omega
  rw [e1, e2] at k2
  refine va_newa (D := D) (atype := .byte) (ty := tyk 0) (a0 := ar B (nG g 100 n.toNatClampNeg n.toNatClampNeg) (nD g d) (gN g) 0) hx hb (hts _ ha) rfl hK hP.2 (wls_D hP.1) hS (fun q hq => by show B.1 ≤ q; omega) (fun cA => ?_) h0 rfl (by8 hb8 (by decide +kernel)) (by omega) (by omega) hdg (fun q cA H1 hK1 hP1 hD1 hS1 => ?_)
  · have e : ar B (nG g 100 n.toNatClampNeg n.toNatClampNeg) (nD g d) (gN g) 0 = (gL (nG g 100 n.toNatClampNeg n.toNatClampNeg) (gN g), .inl (dI (nD g d) (gN g))) := rfl
    rw [e, nG_L, vp_cell_i]
    congr 1
    funext j
    rw [nD_I]
    rfl
  · intro T0 hT X
    have hcA : cA = cy 0 := arr_eq (by decide) hK (hK1.2 8 (cA, tyk 0) rfl).2
    subst hcA
    have hq := new_at (cl1 := 1) hT X rfl hz hn hlim hP1 hD1
    have hcel : cel B cy (nG g 100 n.toNatClampNeg n.toNatClampNeg) (nD g d) (gN g) = .inl (cy 0, ar B (nG g 100 n.toNatClampNeg n.toNatClampNeg) (nD g d) (gN g) 0) := cel_a nG_K
    rw [← hcel] at hP1
    have hw := new_W hlim hq hP1
    subst hq
    exact k2 H1 locs ls hl hw hS1 T0 hT X
theorem b_newaF (C : Cx p s m args c cc nL own D cy B) {n : Int32} {g1 : Gs} {d1 : Ds} (hdg : decode cc pc = .ok (.newarray .float, 2)) (ha : Cond.arrayClass (newarray.typeOf .float) ∈ wl) (hz : s.heap.size = B.1 + n0) (hn : n0 ≤ gN g) (hs : s0 ≤ gS g) (hlim : gN g < 100000) (h0 : ¬ n < 0) (hb8 : n.toNatClampNeg ≤ 60000000) (hc : gN g + 1 - n0 ≤ R.cells ∧ gS g + n.toNatClampNeg - s0 ≤ R.slots) (hg1 : g1 = nG g 101 n.toNatClampNeg n.toNatClampNeg) (hd1 : d1 = nD g d) (k : n0 ≤ gN g1 → s0 ≤ gS g1 → WB p l e R s m args below meth c nL D cy B (gN g1 - n0) (gS g1 - s0) Q g1 d1 lv (pc + 2) (.ref (ad B (gN g)) :: rest)) : WB p l e R s m args below meth c nL D cy B (gN g - n0) (gS g - s0) Q g d lv pc (.int n :: rest) := by
  intro H locs ls hl hP hS
  obtain ⟨hx, hb, hml, hown, hts, hK, hSx, hN⟩ := C
  subst hg1; subst hd1
  have k2 := k (Nat.le_trans hn (Nat.le_succ _)) (Nat.le_trans hs (Nat.le_add_right _ _))
  have e1 : gN (nG g 101 n.toNatClampNeg n.toNatClampNeg) - n0 = gN g - n0 + 1 := by show gN g + 1 - n0 = _; omega
  have e2 : gS (nG g 101 n.toNatClampNeg n.toNatClampNeg) - s0 = gS g - s0 + n.toNatClampNeg := by show gS g + n.toNatClampNeg - s0 = _; omega
  rw [e1, e2] at k2
  refine va_newa (D := D) (atype := .float) (ty := tyk 1) (a0 := ar B (nG g 101 n.toNatClampNeg n.toNatClampNeg) (nD g d) (gN g) 1) hx hb (hts _ ha) rfl hK hP.2 (wls_D hP.1) hS (fun q hq => by show B.1 ≤ q; omega) (fun cA => ?_) h0 rfl (by8 hb8 (by decide +kernel)) (by omega) (by omega) hdg (fun q cA H1 hK1 hP1 hD1 hS1 => ?_)
  · have e : ar B (nG g 101 n.toNatClampNeg n.toNatClampNeg) (nD g d) (gN g) 1 = (gL (nG g 101 n.toNatClampNeg n.toNatClampNeg) (gN g), .inr (.inr (.inl (dF (nD g d) (gN g))))) := rfl
    rw [e, nG_L, vp_cell_f]
    congr 1
    funext j
    rw [nD_F]
    rfl
  · intro T0 hT X
    have hcA : cA = cy 1 := arr_eq (by decide) hK (hK1.2 8 (cA, tyk 1) rfl).2
    subst hcA
    have hq := new_at (cl1 := 1) hT X rfl hz hn hlim hP1 hD1
    have hcel : cel B cy (nG g 101 n.toNatClampNeg n.toNatClampNeg) (nD g d) (gN g) = .inl (cy 1, ar B (nG g 101 n.toNatClampNeg n.toNatClampNeg) (nD g d) (gN g) 1) := cel_a nG_K
    rw [← hcel] at hP1
    have hw := new_W hlim hq hP1
    subst hq
    exact k2 H1 locs ls hl hw hS1 T0 hT X
theorem b_newaI (C : Cx p s m args c cc nL own D cy B) {n : Int32} {g1 : Gs} {d1 : Ds} (hdg : decode cc pc = .ok (.newarray .int, 2)) (ha : Cond.arrayClass (newarray.typeOf .int) ∈ wl) (hz : s.heap.size = B.1 + n0) (hn : n0 ≤ gN g) (hs : s0 ≤ gS g) (hlim : gN g < 100000) (h0 : ¬ n < 0) (hb8 : n.toNatClampNeg ≤ 60000000) (hc : gN g + 1 - n0 ≤ R.cells ∧ gS g + n.toNatClampNeg - s0 ≤ R.slots) (hg1 : g1 = nG g 102 n.toNatClampNeg n.toNatClampNeg) (hd1 : d1 = nD g d) (k : n0 ≤ gN g1 → s0 ≤ gS g1 → WB p l e R s m args below meth c nL D cy B (gN g1 - n0) (gS g1 - s0) Q g1 d1 lv (pc + 2) (.ref (ad B (gN g)) :: rest)) : WB p l e R s m args below meth c nL D cy B (gN g - n0) (gS g - s0) Q g d lv pc (.int n :: rest) := by
  intro H locs ls hl hP hS
  obtain ⟨hx, hb, hml, hown, hts, hK, hSx, hN⟩ := C
  subst hg1; subst hd1
  have k2 := k (Nat.le_trans hn (Nat.le_succ _)) (Nat.le_trans hs (Nat.le_add_right _ _))
  have e1 : gN (nG g 102 n.toNatClampNeg n.toNatClampNeg) - n0 = gN g - n0 + 1 := by show gN g + 1 - n0 = _; omega
  have e2 : gS (nG g 102 n.toNatClampNeg n.toNatClampNeg) - s0 = gS g - s0 + n.toNatClampNeg := by show gS g + n.toNatClampNeg - s0 = _; omega
  rw [e1, e2] at k2
  refine va_newa (D := D) (atype := .int) (ty := tyk 2) (a0 := ar B (nG g 102 n.toNatClampNeg n.toNatClampNeg) (nD g d) (gN g) 2) hx hb (hts _ ha) rfl hK hP.2 (wls_D hP.1) hS (fun q hq => by show B.1 ≤ q; omega) (fun cA => ?_) h0 rfl (by8 hb8 (by decide +kernel)) (by omega) (by omega) hdg (fun q cA H1 hK1 hP1 hD1 hS1 => ?_)
  · have e : ar B (nG g 102 n.toNatClampNeg n.toNatClampNeg) (nD g d) (gN g) 2 = (gL (nG g 102 n.toNatClampNeg n.toNatClampNeg) (gN g), .inl (dI (nD g d) (gN g))) := rfl
    rw [e, nG_L, vp_cell_i]
    congr 1
    funext j
    rw [nD_I]
    rfl
  · intro T0 hT X
    have hcA : cA = cy 2 := arr_eq (by decide) hK (hK1.2 8 (cA, tyk 2) rfl).2
    subst hcA
    have hq := new_at (cl1 := 1) hT X rfl hz hn hlim hP1 hD1
    have hcel : cel B cy (nG g 102 n.toNatClampNeg n.toNatClampNeg) (nD g d) (gN g) = .inl (cy 2, ar B (nG g 102 n.toNatClampNeg n.toNatClampNeg) (nD g d) (gN g) 2) := cel_a nG_K
    rw [← hcel] at hP1
    have hw := new_W hlim hq hP1
    subst hq
    exact k2 H1 locs ls hl hw hS1 T0 hT X
theorem b_newaJ (C : Cx p s m args c cc nL own D cy B) {n : Int32} {g1 : Gs} {d1 : Ds} (hdg : decode cc pc = .ok (.newarray .long, 2)) (ha : Cond.arrayClass (newarray.typeOf .long) ∈ wl) (hz : s.heap.size = B.1 + n0) (hn : n0 ≤ gN g) (hs : s0 ≤ gS g) (hlim : gN g < 100000) (h0 : ¬ n < 0) (hb8 : n.toNatClampNeg ≤ 60000000) (hc : gN g + 1 - n0 ≤ R.cells ∧ gS g + n.toNatClampNeg - s0 ≤ R.slots) (hg1 : g1 = nG g 103 n.toNatClampNeg n.toNatClampNeg) (hd1 : d1 = nD g d) (k : n0 ≤ gN g1 → s0 ≤ gS g1 → WB p l e R s m args below meth c nL D cy B (gN g1 - n0) (gS g1 - s0) Q g1 d1 lv (pc + 2) (.ref (ad B (gN g)) :: rest)) : WB p l e R s m args below meth c nL D cy B (gN g - n0) (gS g - s0) Q g d lv pc (.int n :: rest) := by
  intro H locs ls hl hP hS
  obtain ⟨hx, hb, hml, hown, hts, hK, hSx, hN⟩ := C
  subst hg1; subst hd1
  have k2 := k (Nat.le_trans hn (Nat.le_succ _)) (Nat.le_trans hs (Nat.le_add_right _ _))
  have e1 : gN (nG g 103 n.toNatClampNeg n.toNatClampNeg) - n0 = gN g - n0 + 1 := by show gN g + 1 - n0 = _; omega
  have e2 : gS (nG g 103 n.toNatClampNeg n.toNatClampNeg) - s0 = gS g - s0 + n.toNatClampNeg := by show gS g + n.toNatClampNeg - s0 = _; omega
  rw [e1, e2] at k2
  refine va_newa (D := D) (atype := .long) (ty := tyk 3) (a0 := ar B (nG g 103 n.toNatClampNeg n.toNatClampNeg) (nD g d) (gN g) 3) hx hb (hts _ ha) rfl hK hP.2 (wls_D hP.1) hS (fun q hq => by show B.1 ≤ q; omega) (fun cA => ?_) h0 rfl (by8 hb8 (by decide +kernel)) (by omega) (by omega) hdg (fun q cA H1 hK1 hP1 hD1 hS1 => ?_)
  · have e : ar B (nG g 103 n.toNatClampNeg n.toNatClampNeg) (nD g d) (gN g) 3 = (gL (nG g 103 n.toNatClampNeg n.toNatClampNeg) (gN g), .inr (.inl (dL (nD g d) (gN g)))) := rfl
    rw [e, nG_L, vp_cell_l]
    congr 1
    funext j
    rw [nD_L]
    rfl
  · intro T0 hT X
    have hcA : cA = cy 3 := arr_eq (by decide) hK (hK1.2 8 (cA, tyk 3) rfl).2
    subst hcA
    have hq := new_at (cl1 := 1) hT X rfl hz hn hlim hP1 hD1
    have hcel : cel B cy (nG g 103 n.toNatClampNeg n.toNatClampNeg) (nD g d) (gN g) = .inl (cy 3, ar B (nG g 103 n.toNatClampNeg n.toNatClampNeg) (nD g d) (gN g) 3) := cel_a nG_K
    rw [← hcel] at hP1
    have hw := new_W hlim hq hP1
    subst hq
    exact k2 H1 locs ls hl hw hS1 T0 hT X
theorem b_newaZ (C : Cx p s m args c cc nL own D cy B) {n : Int32} {g1 : Gs} {d1 : Ds} (hdg : decode cc pc = .ok (.newarray .boolean, 2)) (ha : Cond.arrayClass (newarray.typeOf .boolean) ∈ wl) (hz : s.heap.size = B.1 + n0) (hn : n0 ≤ gN g) (hs : s0 ≤ gS g) (hlim : gN g < 100000) (h0 : ¬ n < 0) (hb8 : n.toNatClampNeg ≤ 60000000) (hc : gN g + 1 - n0 ≤ R.cells ∧ gS g + n.toNatClampNeg - s0 ≤ R.slots) (hg1 : g1 = nG g 104 n.toNatClampNeg n.toNatClampNeg) (hd1 : d1 = nD g d) (k : n0 ≤ gN g1 → s0 ≤ gS g1 → WB p l e R s m args below meth c nL D cy B (gN g1 - n0) (gS g1 - s0) Q g1 d1 lv (pc + 2) (.ref (ad B (gN g)) :: rest)) : WB p l e R s m args below meth c nL D cy B (gN g - n0) (gS g - s0) Q g d lv pc (.int n :: rest) := by
  intro H locs ls hl hP hS
  obtain ⟨hx, hb, hml, hown, hts, hK, hSx, hN⟩ := C
  subst hg1; subst hd1
  have k2 := k (Nat.le_trans hn (Nat.le_succ _)) (Nat.le_trans hs (Nat.le_add_right _ _))
  have e1 : gN (nG g 104 n.toNatClampNeg n.toNatClampNeg) - n0 = gN g - n0 + 1 := by show gN g + 1 - n0 = _; omega
  have e2 : gS (nG g 104 n.toNatClampNeg n.toNatClampNeg) - s0 = gS g - s0 + n.toNatClampNeg := by show gS g + n.toNatClampNeg - s0 = _; omega
  rw [e1, e2] at k2
  refine va_newa (D := D) (atype := .boolean) (ty := tyk 4) (a0 := ar B (nG g 104 n.toNatClampNeg n.toNatClampNeg) (nD g d) (gN g) 4) hx hb (hts _ ha) rfl hK hP.2 (wls_D hP.1) hS (fun q hq => by show B.1 ≤ q; omega) (fun cA => ?_) h0 rfl (by8 hb8 (by decide +kernel)) (by omega) (by omega) hdg (fun q cA H1 hK1 hP1 hD1 hS1 => ?_)
  · have e : ar B (nG g 104 n.toNatClampNeg n.toNatClampNeg) (nD g d) (gN g) 4 = (gL (nG g 104 n.toNatClampNeg n.toNatClampNeg) (gN g), .inl (dI (nD g d) (gN g))) := rfl
    rw [e, nG_L, vp_cell_i]
    congr 1
    funext j
    rw [nD_I]
    rfl
  · intro T0 hT X
    have hcA : cA = cy 4 := arr_eq (by decide) hK (hK1.2 8 (cA, tyk 4) rfl).2
    subst hcA
    have hq := new_at (cl1 := 1) hT X rfl hz hn hlim hP1 hD1
    have hcel : cel B cy (nG g 104 n.toNatClampNeg n.toNatClampNeg) (nD g d) (gN g) = .inl (cy 4, ar B (nG g 104 n.toNatClampNeg n.toNatClampNeg) (nD g d) (gN g) 4) := cel_a nG_K
    rw [← hcel] at hP1
    have hw := new_W hlim hq hP1
    subst hq
    exact k2 H1 locs ls hl hw hS1 T0 hT X
theorem b_newqD (C : Cx p s m args c cc nL own D cy B) {index : Nat} {n : Int32} {g1 : Gs} {d1 : Ds} (hdg : decode cc pc = .ok (.anewarray index, 3)) (ha : Cond.classLink own index "KeyMatrix$Deed" ∈ wl) (hz : s.heap.size = B.1 + n0) (hn : n0 ≤ gN g) (hs : s0 ≤ gS g) (hlim : gN g < 100000) (h0 : ¬ n < 0) (hb8 : n.toNatClampNeg ≤ 60000000) (hc : gN g + 1 - n0 ≤ R.cells ∧ gS g + n.toNatClampNeg - s0 ≤ R.slots) (hg1 : g1 = nG g 105 n.toNatClampNeg n.toNatClampNeg) (hd1 : d1 = nD g d) (k : n0 ≤ gN g1 → s0 ≤ gS g1 → WB p l e R s m args below meth c nL D cy B (gN g1 - n0) (gS g1 - s0) Q g1 d1 lv (pc + 3) (.ref (ad B (gN g)) :: rest)) : WB p l e R s m args below meth c nL D cy B (gN g - n0) (gS g - s0) Q g d lv pc (.int n :: rest) := by
  intro H locs ls hl hP hS
  obtain ⟨hx, hb, hml, hown, hts, hK, hSx, hN⟩ := C
  subst hg1; subst hd1
  have k2 := k (Nat.le_trans hn (Nat.le_succ _)) (Nat.le_trans hs (Nat.le_add_right _ _))
  have e1 : gN (nG g 105 n.toNatClampNeg n.toNatClampNeg) - n0 = gN g - n0 + 1 := by show gN g + 1 - n0 = _; omega
  have e2 : gS (nG g 105 n.toNatClampNeg n.toNatClampNeg) - s0 = gS g - s0 + n.toNatClampNeg := by show gS g + n.toNatClampNeg - s0 = _; omega
  rw [e1, e2] at k2
  refine va_newq (D := D) (C := "KeyMatrix$Deed") hx hb hown (hts _ ha) hSx.2.2.1 hK hP.2 (wls_D hP.1) hS (fun q hq => by show B.1 ≤ q; omega) h0 rfl (by omega) (by omega) (by omega) hdg (fun q cA H1 hK1 hP1 hD1 hS1 => ?_)
  intro T0 hT X
  have hcA : cA = cy 5 := arr_eq (t := 5) (by decide) hK (hK1.2 8 (cA, tyk 5) rfl).2
  subst hcA
  have hq := new_at (cl1 := 1) hT X rfl hz hn hlim hP1 hD1
  have hcel : cel B cy (nG g 105 n.toNatClampNeg n.toNatClampNeg) (nD g d) (gN g) = .inl (cy 5, n.toNatClampNeg, .inr (.inr (.inr (.inr (fun _ => none))))) := by
    rw [cel_a (t := 5) nG_K]
    unfold ar
    rw [nG_L]
    simp only [nG_R, nD_W, Option.map_none]
  rw [← hcel] at hP1
  have hw := new_W hlim hq hP1
  subst hq
  exact k2 H1 locs ls hl hw hS1 T0 hT X
theorem b_newqC (C : Cx p s m args c cc nL own D cy B) {index : Nat} {n : Int32} {g1 : Gs} {d1 : Ds} (hdg : decode cc pc = .ok (.anewarray index, 3)) (ha : Cond.classLink own index "KeyMatrix$Course" ∈ wl) (hz : s.heap.size = B.1 + n0) (hn : n0 ≤ gN g) (hs : s0 ≤ gS g) (hlim : gN g < 100000) (h0 : ¬ n < 0) (hb8 : n.toNatClampNeg ≤ 60000000) (hc : gN g + 1 - n0 ≤ R.cells ∧ gS g + n.toNatClampNeg - s0 ≤ R.slots) (hg1 : g1 = nG g 106 n.toNatClampNeg n.toNatClampNeg) (hd1 : d1 = nD g d) (k : n0 ≤ gN g1 → s0 ≤ gS g1 → WB p l e R s m args below meth c nL D cy B (gN g1 - n0) (gS g1 - s0) Q g1 d1 lv (pc + 3) (.ref (ad B (gN g)) :: rest)) : WB p l e R s m args below meth c nL D cy B (gN g - n0) (gS g - s0) Q g d lv pc (.int n :: rest) := by
  intro H locs ls hl hP hS
  obtain ⟨hx, hb, hml, hown, hts, hK, hSx, hN⟩ := C
  subst hg1; subst hd1
  have k2 := k (Nat.le_trans hn (Nat.le_succ _)) (Nat.le_trans hs (Nat.le_add_right _ _))
  have e1 : gN (nG g 106 n.toNatClampNeg n.toNatClampNeg) - n0 = gN g - n0 + 1 := by show gN g + 1 - n0 = _; omega
  have e2 : gS (nG g 106 n.toNatClampNeg n.toNatClampNeg) - s0 = gS g - s0 + n.toNatClampNeg := by show gS g + n.toNatClampNeg - s0 = _; omega
  rw [e1, e2] at k2
  refine va_newq (D := D) (C := "KeyMatrix$Course") hx hb hown (hts _ ha) hSx.2.2.2.1 hK hP.2 (wls_D hP.1) hS (fun q hq => by show B.1 ≤ q; omega) h0 rfl (by omega) (by omega) (by omega) hdg (fun q cA H1 hK1 hP1 hD1 hS1 => ?_)
  intro T0 hT X
  have hcA : cA = cy 6 := arr_eq (t := 6) (by decide) hK (hK1.2 8 (cA, tyk 6) rfl).2
  subst hcA
  have hq := new_at (cl1 := 1) hT X rfl hz hn hlim hP1 hD1
  have hcel : cel B cy (nG g 106 n.toNatClampNeg n.toNatClampNeg) (nD g d) (gN g) = .inl (cy 6, n.toNatClampNeg, .inr (.inr (.inr (.inr (fun _ => none))))) := by
    rw [cel_a (t := 6) nG_K]
    unfold ar
    rw [nG_L]
    simp only [nG_R, nD_W, Option.map_none]
  rw [← hcel] at hP1
  have hw := new_W hlim hq hP1
  subst hq
  exact k2 H1 locs ls hl hw hS1 T0 hT X
theorem b_newqW (C : Cx p s m args c cc nL own D cy B) {index : Nat} {n : Int32} {g1 : Gs} {d1 : Ds} (hdg : decode cc pc = .ok (.anewarray index, 3)) (ha : Cond.classLink own index "KeyMatrix$Word" ∈ wl) (hz : s.heap.size = B.1 + n0) (hn : n0 ≤ gN g) (hs : s0 ≤ gS g) (hlim : gN g < 100000) (h0 : ¬ n < 0) (hb8 : n.toNatClampNeg ≤ 60000000) (hc : gN g + 1 - n0 ≤ R.cells ∧ gS g + n.toNatClampNeg - s0 ≤ R.slots) (hg1 : g1 = nG g 107 n.toNatClampNeg n.toNatClampNeg) (hd1 : d1 = nD g d) (k : n0 ≤ gN g1 → s0 ≤ gS g1 → WB p l e R s m args below meth c nL D cy B (gN g1 - n0) (gS g1 - s0) Q g1 d1 lv (pc + 3) (.ref (ad B (gN g)) :: rest)) : WB p l e R s m args below meth c nL D cy B (gN g - n0) (gS g - s0) Q g d lv pc (.int n :: rest) := by
  intro H locs ls hl hP hS
  obtain ⟨hx, hb, hml, hown, hts, hK, hSx, hN⟩ := C
  subst hg1; subst hd1
  have k2 := k (Nat.le_trans hn (Nat.le_succ _)) (Nat.le_trans hs (Nat.le_add_right _ _))
  have e1 : gN (nG g 107 n.toNatClampNeg n.toNatClampNeg) - n0 = gN g - n0 + 1 := by show gN g + 1 - n0 = _; omega
  have e2 : gS (nG g 107 n.toNatClampNeg n.toNatClampNeg) - s0 = gS g - s0 + n.toNatClampNeg := by show gS g + n.toNatClampNeg - s0 = _; omega
  rw [e1, e2] at k2
  refine va_newq (D := D) (C := "KeyMatrix$Word") hx hb hown (hts _ ha) hSx.2.2.2.2.1 hK hP.2 (wls_D hP.1) hS (fun q hq => by show B.1 ≤ q; omega) h0 rfl (by omega) (by omega) (by omega) hdg (fun q cA H1 hK1 hP1 hD1 hS1 => ?_)
  intro T0 hT X
  have hcA : cA = cy 7 := arr_eq (t := 7) (by decide) hK (hK1.2 8 (cA, tyk 7) rfl).2
  subst hcA
  have hq := new_at (cl1 := 1) hT X rfl hz hn hlim hP1 hD1
  have hcel : cel B cy (nG g 107 n.toNatClampNeg n.toNatClampNeg) (nD g d) (gN g) = .inl (cy 7, n.toNatClampNeg, .inr (.inr (.inr (.inr (fun _ => none))))) := by
    rw [cel_a (t := 7) nG_K]
    unfold ar
    rw [nG_L]
    simp only [nG_R, nD_W, Option.map_none]
  rw [← hcel] at hP1
  have hw := new_W hlim hq hP1
  subst hq
  exact k2 H1 locs ls hl hw hS1 T0 hT X
def FLP (own : String) (index cl j : Nat) : Prop := (∃ (CN : String) (T : u_T) (N : Nat), vwCl[cl]? = some (CN, T, N) ∧ j < N ∧ (∀ w ∈ u_ws CN T N, w ∈ wl) ∧ Cond.fieldLink own index (T j).1 (T j).2.1 (T j).2.2.1 ∈ wl) ∧ cl < 100 ∧ fR cl j = true
def FPR (cl j : Nat) (own : String) : Prop := FT cl ∧ ∃ q : vw_C, vwCl[cl]? = some q ∧ (q.2.1 j).2.2.2 = true ∧ (q.2.1 j).1 = own ∧ ∀ ty, parseFieldDescriptor (q.2.1 j).2.2.1 = some ty → ∀ a : Nat, narrow ty (.ref a) = .ref a ∧ fits ty (.ref a) = true
theorem sR_at {r j k v : Nat} : gR (sR g r j v) r k = if k = j then some v else gR g r k := by
  by_cases h : k = j <;> simp [gR, sR, va_up, h]
theorem sR_row {r j v : Nat} : gR (sR g r j v) r = va_up (gR g r) j (some v) := by simp [gR, sR, va_up]
theorem b_pR (C : Cx p s m args c cc nL own D cy B) {index cl j r v : Nat} {g1 : Gs} (hdg : decode cc pc = .ok (.putfield index, 3)) (hf : FLP own index cl j) (ht : FPR cl j own) (hin : meth.name = "<init>") (hq : chk g r cl) (hg1 : g1 = sR g r j v) (k : WB p l e R s m args below meth c nL D cy B cells slots Q g1 d lv (pc + 3) rest) : WB p l e R s m args below meth c nL D cy B cells slots Q g d lv pc (.ref (ad B v) :: .ref (ad B r) :: rest) := by
  intro H locs ls hl hP hS
  obtain ⟨⟨CN, T, N, h1, h2, h3, h4⟩, hc, hr⟩ := hf
  obtain ⟨⟨CN', T', N', ty, t1, t2, t3⟩, q, u1, u2, u3, u4⟩ := ht
  rw [h1] at t1
  cases t1
  rw [h1] at u1
  cases u1
  obtain ⟨hx, hb, hml, hown, hts, hK, hSx, hN⟩ := C
  have hj : j < fN cl := by rw [fN_of h1]; exact h2
  subst hg1
  have hn := u4 _ (t2 j h2) (ad B v)
  · refine va_putF (D := D) hx hb hts h3 ty t2 t3 hown hK hP.2 (wls_D hP.1) hS r ((wls_at hq.1).trans (by rw [cel_o hq.2 hc])) h1 j h2 (hts _ h4) (fun _ h9 => h9) u2 hin u3 (t2 j h2) hn.1 hn.2 (by simpa [fls] using hj) hdg (fun H1 locs1 hP1 hD1 hS1 => k H1 locs1 ls hl (hP.set hq.1 rfl (fun x _ hx => sR_o hx) ?_ hP1) hS1)
    have e : gK (sR g r j v) r = cl := hq.2
    rw [cel_o e hc]
    congr 2
    refine (fls_set hj (fun x hx => ?_) ?_).symm
    · unfold fv
      rw [sR_at, if_neg hx]
    · unfold fv
      rw [hr, sR_at, if_pos rfl, if_pos rfl]
      rfl
theorem b_aastD (C : Cx p s m args c cc nL own D cy B) {r v : Nat} {i : Int32} {g1 : Gs} (hdg : decode cc pc = .ok (.aastore, 1)) (hq : chk g r 105) (hv : chk g v 2) (hi : ¬ (i < 0 ∨ gL g r ≤ i.toNatClampNeg)) (hg1 : g1 = sR g r i.toNatClampNeg v) (k : WB p l e R s m args below meth c nL D cy B cells slots Q g1 d lv (pc + 1) rest) : WB p l e R s m args below meth c nL D cy B cells slots Q g d lv pc (.ref (ad B v) :: .int i :: .ref (ad B r) :: rest) := by
  intro H locs ls hl hP hS
  obtain ⟨hx, hb, hml, hown, hts, hK, hSx, hN⟩ := C
  subst hg1
  refine va_astq (D := D) hx hb hK hP.2 (wls_D hP.1) hS r 5 v 2 ((wls_at hq.1).trans (by rw [cel_a (t := 5) hq.2]; rfl)) rfl ((wls_at hv.1).trans (by rw [cel_o hv.2 (by decide)])) rfl hi hdg (fun H1 locs1 hP1 hD1 hS1 => k H1 locs1 ls hl (hP.set hq.1 rfl (fun x _ hx => sR_o hx) ?_ hP1) hS1)
  have e : gK (sR g r i.toNatClampNeg v) r = 100 + 5 := hq.2
  rw [cel_a (t := 5) e]
  unfold ar
  rw [sR_row]
  show Sum.inl (_, _, Sum.inr (Sum.inr (Sum.inr (Sum.inr _)))) = Sum.inl (_, _, Sum.inr (Sum.inr (Sum.inr (Sum.inr _))))
  have e2 : (fun j => (va_up (gR g r) i.toNatClampNeg (some v) j).map (ad B)) = va_up (fun j => (gR g r j).map (ad B)) i.toNatClampNeg (some (ad B v)) := by
    funext j
    by_cases h : j = i.toNatClampNeg <;> simp [va_up, h]
  rw [e2]
  rfl
theorem b_aastC (C : Cx p s m args c cc nL own D cy B) {r v : Nat} {i : Int32} {g1 : Gs} (hdg : decode cc pc = .ok (.aastore, 1)) (hq : chk g r 106) (hv : chk g v 1) (hi : ¬ (i < 0 ∨ gL g r ≤ i.toNatClampNeg)) (hg1 : g1 = sR g r i.toNatClampNeg v) (k : WB p l e R s m args below meth c nL D cy B cells slots Q g1 d lv (pc + 1) rest) : WB p l e R s m args below meth c nL D cy B cells slots Q g d lv pc (.ref (ad B v) :: .int i :: .ref (ad B r) :: rest) := by
  intro H locs ls hl hP hS
  obtain ⟨hx, hb, hml, hown, hts, hK, hSx, hN⟩ := C
  subst hg1
  refine va_astq (D := D) hx hb hK hP.2 (wls_D hP.1) hS r 6 v 1 ((wls_at hq.1).trans (by rw [cel_a (t := 6) hq.2]; rfl)) rfl ((wls_at hv.1).trans (by rw [cel_o hv.2 (by decide)])) rfl hi hdg (fun H1 locs1 hP1 hD1 hS1 => k H1 locs1 ls hl (hP.set hq.1 rfl (fun x _ hx => sR_o hx) ?_ hP1) hS1)
  have e : gK (sR g r i.toNatClampNeg v) r = 100 + 6 := hq.2
  rw [cel_a (t := 6) e]
  unfold ar
  rw [sR_row]
  show Sum.inl (_, _, Sum.inr (Sum.inr (Sum.inr (Sum.inr _)))) = Sum.inl (_, _, Sum.inr (Sum.inr (Sum.inr (Sum.inr _))))
  have e2 : (fun j => (va_up (gR g r) i.toNatClampNeg (some v) j).map (ad B)) = va_up (fun j => (gR g r j).map (ad B)) i.toNatClampNeg (some (ad B v)) := by
    funext j
    by_cases h : j = i.toNatClampNeg <;> simp [va_up, h]
  rw [e2]
  rfl
def PCC (D : va_G) (cy : Nat → ClassId) (B : Bs) (av : List Value) (g : Gs) (d : Ds) : Array Value → State → Prop := va_Pc av (fun U => U.heap.size = B.1 + gN g ∧ WP D cy B g d U.heap ∧ va_K D vwCl (tys8 cy) U ∧ Sx B U ∧ NzS U)
theorem PCC.blind {av : List Value} : FrameBlind (PCC D cy B av g d) := fun a U f mk q => by
  obtain ⟨q0, qz, qP, qK, qS, qN⟩ := q
  exact ⟨q0, qz, qP, va_K.moved (u := U) (U := U.calling f mk a) (Vm.Alike.refl U.vm) qK, Sx.moved (u := U) (U := U.calling f mk a) (Vm.Alike.refl U.vm) (fun _ _ _ => rfl) qS, NzS.same (s := U) (U := U.calling f mk a) rfl qN⟩
theorem met_ofC {y : MethodName} {cd : ByteArray} {maxL : Nat} {ret : Option FieldType} {rm : Room} {av : List Value} {Qc : Array Value → State → Outcome → State → Prop} {mc ms : Nat} (hy : plainName y.cls = true) (ha : (lg_sl av).length ≤ maxL)
    (body : ∀ (p : Program) (e : Env) (s : State) (m : MethodId) (args : Array Value) (below : List Frame) (meth : Method) (c : Code), Cx p s m args c cd maxL y.cls D cy B → meth.sig.returnType = ret → meth.locks = false → meth.name = y.name → s.heap.size = B.1 + gN g → WB p l e rm s m args below meth c maxL D cy B (gN g - gN g) (gS g - gS g) (MQ below Qc args s mc ms (wA B)) g d (lv_args 0 av) 0 []) : Met l y (.code y cd maxL ret :: wl) rm (PCC D cy B av g d) Qc mc ms (wA B) := by
  refine Met.ofW (cc := cd) (maxL := maxL) (ret := ret) hy rfl ?_
  intro p e s m args below meth c s1 A hml hv
  obtain ⟨ha2, hz, hP, hK, hS, hN⟩ := hv
  have hts := atoms_spec (ws := .code y cd maxL ret :: wl) A.pre
  have hbody := body p e s m args below meth c ⟨A.exec, A.bytes, hml, findClass_of_methodNamed A.named, fun w hw => hts w (List.mem_cons_of_mem _ hw), hK, hS, hN⟩ A.returns A.notSynchronized (name_of_methodNamed A.named A.method).1 hz
  rw [Nat.sub_self, Nat.sub_self] at hbody
  subst ha2
  rw [lg_entry_eq]
  exact hbody s.heap [] _ (lv_entry av ha) hP va_S.rf
theorem b_vretC (C : Cx p s m args c cc nL own D cy B) (hr : meth.sig.returnType = none) (hlocks : meth.locks = false) {mc ms : Nat} {g1 : Gs} {d1 : Ds} (hg : gN g = n0 + mc ∧ gS g = s0 + ms) (h : some (g, d) = some (g1, d1)) (hdg : decode cc pc = .ok (.return_, 1)) : WB p l e R s m args below meth c nL D cy B (gN g - n0) (gS g - s0) (MQ below (QV D cy B g1 d1) args s mc ms (wA B)) g d lv pc [] := by
  cases h
  obtain ⟨hg1, hg2⟩ := hg
  have e1 : gN g - n0 = mc := by omega
  have e2 : gS g - s0 = ms := by omega
  rw [e1, e2]
  intro H locs ls hl hP hS
  obtain ⟨hx, hb, hml, hown, hts, hK, -⟩ := C
  exact W.vret hx hb hr (fun t ht hW => ⟨⟨(), rfl, trivial, wp_at ht hP⟩, hS.F ht⟩) hS.2.2 hdg hlocks
theorem b_callC (C : Cx p s m args c cc nL own D cy B) {index maxL n mc ms r0 : Nat} {y : MethodName} {bytes : ByteArray} {rm : Room} {As : List Value} {g1 : Gs} {d1 : Ds} (rest : List Value) (hdg : decode cc pc = .ok (.invokespecial index, 3)) (hM : Met l y (.code y bytes maxL none :: wl) rm (PCC D cy B (.ref (ad B r0) :: As) g d) (QV D cy B g1 d1) mc ms (wA B)) (hV : LCo own index y bytes maxL n) (hrm : rmOk R rm maxL mc ms) (hn2 : As.length = n) (hrest : (rest.map fun v => v.category).sum ≤ 8) (hz : s.heap.size = B.1 + n0) (hn : n0 ≤ gN g) (hs : s0 ≤ gS g) (hpos : 0 < gN g) (hg1 : gN g1 = gN g + mc ∧ gS g1 = gS g + ms) (hcs : gN g1 - n0 ≤ R.cells ∧ gS g1 - s0 ≤ R.slots) {st : List Value} (hst : st = As.reverse ++ .ref (ad B r0) :: rest) (k : n0 ≤ gN g1 → s0 ≤ gS g1 → WB p l e R s m args below meth c nL D cy B (gN g1 - n0) (gS g1 - s0) Q g1 d1 lv (pc + 3) rest) : WB p l e R s m args below meth c nL D cy B (gN g - n0) (gS g - s0) Q g d lv pc st := by
  intro H locs ls hl hP hS T hT X
  obtain ⟨e1, e2⟩ := hg1
  have k2 := k (by omega) (by omega)
  have e3 : gN g1 - n0 = gN g - n0 + mc := by omega
  have e4 : gS g1 - s0 = gS g - s0 + ms := by omega
  rw [e3, e4] at k2 hcs
  have hszU : T.heap.size ≤ s.heap.size + (gN g - n0) := X.same.2.2.1
  rw [hT] at hszU
  have hlast := (hP.2 _ _ (wls_at (B := B) (cy := cy) (g := g) (d := d) (r := gN g - 1) (by omega))).lt
  have hlast2 : ad B (gN g - 1) < H.size := hlast
  rw [ad_lt (by have := hP.1; omega)] at hlast2
  have hsz : H.size = B.1 + gN g := by omega
  obtain ⟨hx, hb, hml, hown, hts, hK, hSx, hN⟩ := C
  obtain ⟨v2, v3, v4, v5, v7, v8⟩ := hV
  have hp : PreS s H (PCC D cy B (.ref (ad B r0) :: As) g d) (.ref (ad B r0) :: As) := ⟨PCC.blind, fun U hU hW => ⟨rfl, by rw [hU]; exact hsz, by rw [hU]; exact hP, va_K.moved hW.alike hK, Sx.moved hW.alike (fun a h1 h2 => by rw [hU]; exact hS.2.1 a h1 h2) hSx, NzS.warm hW hN⟩⟩
  have run : va_Run p l e R s m args below meth c H locs (gN g - n0) (gS g - s0) mc ms (F0 m pc ls st) rest (QV D cy B g1 d1 (Value.ref (ad B r0) :: As).toArray) (wA B) := by
    rcases v4 with v4 | v4
    · exact va_runI (As := As) (rest := rest) (b := ad B r0) ⟨hx, hb, hml, hown, hts⟩ hM ⟨callB_of n hts (law_in v8) rfl hrm.1 hrm.2.1 (hts _ v7) (hts _ v4) v3 hrm.2.2, v2, hts _ v5⟩ hp rfl hn2 hl.1 hst (lv_room hrest) hdg hcs
    · exact va_runIN (As := As) (rest := rest) (b := ad B r0) ⟨hx, hb, hml, hown, hts⟩ hM ⟨va_cnB n hts (law_in v8) rfl hrm.1 hrm.2.1 (hN _ v4 rfl) (hts _ v7) v3 hrm.2.2, v2, hts _ v5⟩ hp rfl hn2 hl.1 hst (lv_room hrest) hdg hcs
  exact va_callv run hS (fun q _ h => h) (fun q h => h) (fun u t H1 locs1 ht hvm hw hB hz1 hk1 hS1 => k2 H1 locs1 ls hl (by rw [← ht]; exact hB) hS1) T hT X
theorem b_pRC (C : Cx p s m args c cc nL own D cy B) {index cl j r v : Nat} {g1 : Gs} (hdg : decode cc pc = .ok (.putfield index, 3)) (hf : FLP own index cl j) (ht : FPR cl j own) (hin : meth.name = "<init>") (hq : chk g r cl) (hg1 : g1 = sR g r j v) (k : WB p l e R s m args below meth c nL D cy B (gN g1 - n0) (gS g1 - s0) Q g1 d lv (pc + 3) rest) : WB p l e R s m args below meth c nL D cy B (gN g - n0) (gS g - s0) Q g d lv pc (.ref (ad B v) :: .ref (ad B r) :: rest) := by
  subst hg1
  exact b_pR C hdg hf ht hin hq rfl k
theorem b_aastDC (C : Cx p s m args c cc nL own D cy B) {r v : Nat} {i : Int32} {g1 : Gs} (hdg : decode cc pc = .ok (.aastore, 1)) (hq : chk g r 105) (hv : chk g v 2) (hi : ¬ (i < 0 ∨ gL g r ≤ i.toNatClampNeg)) (hg1 : g1 = sR g r i.toNatClampNeg v) (k : WB p l e R s m args below meth c nL D cy B (gN g1 - n0) (gS g1 - s0) Q g1 d lv (pc + 1) rest) : WB p l e R s m args below meth c nL D cy B (gN g - n0) (gS g - s0) Q g d lv pc (.ref (ad B v) :: .int i :: .ref (ad B r) :: rest) := by
  subst hg1
  exact b_aastD C hdg hq hv hi rfl k
theorem b_aastCC (C : Cx p s m args c cc nL own D cy B) {r v : Nat} {i : Int32} {g1 : Gs} (hdg : decode cc pc = .ok (.aastore, 1)) (hq : chk g r 106) (hv : chk g v 1) (hi : ¬ (i < 0 ∨ gL g r ≤ i.toNatClampNeg)) (hg1 : g1 = sR g r i.toNatClampNeg v) (k : WB p l e R s m args below meth c nL D cy B (gN g1 - n0) (gS g1 - s0) Q g1 d lv (pc + 1) rest) : WB p l e R s m args below meth c nL D cy B (gN g - n0) (gS g - s0) Q g d lv pc (.ref (ad B v) :: .int i :: .ref (ad B r) :: rest) := by
  subst hg1
  exact b_aastC C hdg hq hv hi rfl k
theorem b_topR {r x : Nat} (h : r = x) (k : WB p l e R s m args below meth c nL D cy B cells slots Q g d lv pc (.ref (ad B r) :: rest)) : WB p l e R s m args below meth c nL D cy B cells slots Q g d lv pc (.ref (ad B x) :: rest) := h ▸ k
theorem b_slen (C : Cx p s m args c cc nL own D cy B) {b L : Nat} {xs : Nat → Int32} (hX : va_X b L xs s s.heap) (hbl : b < s.heap.size) (hbA : ¬ wA B b) (hdg : decode cc pc = .ok (.arraylength, 1)) (k : WB p l e R s m args below meth c nL D cy B cells slots Q g d lv (pc + 1) (.int (Int32.ofNat L) :: rest)) : WB p l e R s m args below meth c nL D cy B cells slots Q g d lv pc (.ref b :: rest) := fun H locs ls hl hP hS => va_slen C.1 C.2.1 hX hbl hbA hS hdg (k H locs ls hl hP hS)
theorem b_sld (C : Cx p s m args c cc nL own D cy B) {b L : Nat} {xs : Nat → Int32} {i : Int32} (hX : va_X b L xs s s.heap) (hbl : b < s.heap.size) (hbA : ¬ wA B b) (hi : ¬ (i < 0 ∨ L ≤ i.toNatClampNeg)) (hdg : decode cc pc = .ok (.iaload, 1)) (k : WB p l e R s m args below meth c nL D cy B cells slots Q g d lv (pc + 1) (.int (xs i.toNatClampNeg) :: rest)) : WB p l e R s m args below meth c nL D cy B cells slots Q g d lv pc (.int i :: .ref b :: rest) := fun H locs ls hl hP hS => va_sld C.1 C.2.1 hX hbl hbA hS hi hdg (k H locs ls hl hP hS)
end BA
