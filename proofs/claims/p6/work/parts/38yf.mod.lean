theorem nar_by {c : Int32} (h : byr c) : vp_nar .byte c = c := by
  have all : ∀ k : Nat, k < 256 → vp_nar .byte (Int32.ofInt ((k : Int) - 128)) = Int32.ofInt ((k : Int) - 128) := by decide +kernel
  have h1 := h.1
  have h2 := h.2
  have e : c = Int32.ofInt (((c.toInt + 128).toNat : Int) - 128) := by
    rw [show (((c.toInt + 128).toNat : Nat) : Int) - 128 = c.toInt by omega, Int32.ofInt_toInt]
  have := all (c.toInt + 128).toNat (by omega)
  rw [← e] at this
  exact this
theorem pc_true {α : Type} {x : Option (α × Ds)} : pc x (fun _ _ => True) := fun _ _ _ => trivial
section RDX
variable {t : Nat → Int32} {n s : Nat} {d : Ds}
/-- both verdicts -/
theorem verdict_un {u v : Int32} (h : ∃ i, stp2 (KS t n) (sx (KS t n) i) ∧ u = (vd (KS t n) (VS t n) i).1) (k : ∃ i, stp2 (KS t n) (sx (KS t n) i) ∧ v = (vd (KS t n) (VS t n) i).1) : u = v := by
  obtain ⟨i, hi, hu⟩ := h
  obtain ⟨j, hj, hv⟩ := k
  rw [hu, hv, vd_un hi hj]
end RDX
