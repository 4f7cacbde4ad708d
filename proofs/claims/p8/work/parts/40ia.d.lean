def scfPc (d : Ds) : Bool := (List.range 24).all (fun k => dF d 338 k == FP.fconst0)
def sciPc (a n : Nat) (d : Ds) : Bool := (List.range n).all (fun i => dI d 336 (352 + (a + i)) == frv (352 + (a + i)))
theorem scm_4pc {d : Ds} (hf : scfPc d = true) (h1 : sciPc 0 68 d = true) (h2 : sciPc 68 68 d = true) (h3 : sciPc 136 67 d = true) : scm d = true := by
  unfold scfPc at hf
  unfold sciPc at h1 h2 h3
  unfold scm
  simp only [Bool.and_eq_true, List.all_eq_true, List.mem_range, beq_iff_eq] at hf h1 h2 h3 ⊢
  refine ⟨hf, fun i hi => ?_⟩
  by_cases c1 : i < 68
  · have q := h1 i c1
    rw [Nat.zero_add] at q
    exact q
  · by_cases c2 : i < 136
    · have q := h2 (i - 68) (by omega)
      rw [show 68 + (i - 68) = i by omega] at q
      exact q
    · have q := h3 (i - 136) (by omega)
      rw [show 136 + (i - 136) = i by omega] at q
      exact q
