/-- the walk of the law's body, out of its pure function -/
theorem whole_of {p : Program} {e : Env} {s : State} {m : MethodId} {below : List Frame} {meth : Method} {c : Code} (l : Launch) {b L N : Nat} {xs : Nat → Int32} {dz : Ds} (hf : fL_law_E N L xs 0 0 g00 d00 = some ((), dz)) (C0 : lw_At p s m meth c b L xs) : W p l e room_1 s m #[Value.ref b] below meth c s.heap [] 0 0 (lw_Z below #[Value.ref b] s) (entryFrame m ([Value.ref b] : List Value).toArray 4) := by
  obtain ⟨hx, hb, hr, hml, hown, hts, hX, hbl, hlocks, hgv⟩ := C0
  have hs : ∀ c ∈ flatC narrow_1, c.before #[Value.ref b] s = true := fun c hc => flat_of_before _ hgv c (List.mem_append_right _ hc)
  obtain ⟨dC, dI, hKc⟩ := cl_ex hts
  obtain ⟨cy, hcy⟩ := ar_ex hts
  have hK : va_K (dC, dI) vwCl (tys8 cy) s := by
    refine ⟨hKc, fun k q hk => ?_⟩
    have hk8 : k < 8 := (List.getElem?_eq_some_iff.mp hk).1
    rw [tys8_at hk8] at hk
    cases hk
    exact hcy k hk8
  have hSx : Sx (s.heap.size, wcOf #[Value.ref b] s) s := by
    have ea : ∀ i, ad (s.heap.size, wcOf #[Value.ref b] s) (100000 + i) = wcOf #[Value.ref b] s i := by
      intro i
      unfold ad
      rw [if_neg (by omega), Nat.add_sub_cancel_left]
    refine ⟨fun i hi => ?_, fun i j hi hj h => ?_, va_AO.of (hts _ (mT1 (List.mem_of_getElem? (i := 98) (by decide +kernel)))), va_AO.of (hts _ (mT2 (List.mem_of_getElem? (i := 229) (by decide +kernel)))), va_AO.of (hts _ (mT1 (List.mem_of_getElem? (i := 43) (by decide +kernel)))), sx_text hs hts⟩
    · rw [ea]
      exact ⟨va_Zof (hts _ (wfact i hi).2.2) (hts _ (mT1 (List.mem_of_getElem? (i := 18) (by decide +kernel)))) (wc_ev hs hi) (fun a ha h => absurd h (Nat.not_le.mpr ha)), fun j hj => vk_OFof (wc_ev hs hi) (eq_ev (hs _ (wfact2 i hi j hj))) (fun a ha h => absurd h (Nat.not_le.mpr ha))⟩
    · rw [ea, ea] at h
      exact wc_inj hs hi hj h
  have hNz : NzS s := fun w h1 h2 => by
    have h3 := hts w h1
    cases w <;> first | exact va_Nw.of rfl h3 | cases h2
  have C : Cx p s m #[Value.ref b] c code 4 RL (dC, dI) cy (s.heap.size, wcOf #[Value.ref b] s) := ⟨hx, hb, hml, hown, fun w h => hts w (wl_in h), hK, hSx, hNz⟩
  have hl := lv_entry ([.ref b]) (n := 4) (Nat.le_of_ble_eq_true rfl)
  rw [lg_entry_eq]
  have hP0 : WP (dC, dI) cy (s.heap.size, wcOf #[Value.ref b] s) g00 d00 s.heap := ⟨Nat.zero_le _, fun k q h => by simp [wls, g00, gN] at h⟩
  exact tL_law_E (n0 := 0) (s0 := 0) C hX hbl (Nat.not_le.mpr hbl) hr hlocks rfl (Nat.le_refl _) (Nat.le_refl _) (Nat.le_refl _) hf s.heap [] _ hl hP0 va_S.rf
