/-! the world that the two constructors leave -/
def qa : Option (Gs × Ds) := fX11_init 10000 0 (nG g00 10 0 10) (nD g00 d00)
def q0 : Option (Gs × Ds) := cb qa fun g d => cb (fX12_init 10000 328 (nG g 11 0 33) (nD g d)) fun g1 d1 => some (g1, d1)
def onq (x : Option (Gs × Ds)) (b : Gs × Ds → Bool) : Bool := match x with
  | some q => b q
  | none => false
theorem onq_s {x : Option (Gs × Ds)} {b : Gs × Ds → Bool} (h : onq x b = true) {g : Gs} {d : Ds} (hq : x = some (g, d)) : b (g, d) = true := by
  unfold onq at h
  rw [hq] at h
  exact h
theorem onq_e {x : Option (Gs × Ds)} {b : Gs × Ds → Bool} (h : onq x b = true) : ∃ (g : Gs) (d : Ds), x = some (g, d) := by
  unfold onq at h
  cases e : x with
  | none =>
    rw [e] at h
    cases h
  | some q => exact ⟨q.1, q.2, rfl⟩
/-- places that are bounded -/
def cnb (c j : Nat) : Bool := (c == 1 && j == 5) || (c == 3 && (j == 4 || j == 8)) || (c == 4 && j == 1) || (c == 5 && j == 4) || (c == 7 && j == 3) || (c == 8 && (j == 4 || j == 5)) || (c == 10 && j == 1) || (c == 11 && (j == 2 || j == 4 || j == 10 || j == 11 || j == 22 || j == 26)) || (c == 12 && (j == 2 || j == 3 || j == 12 || j == 16)) || (c == 13 && (j == 0 || j == 1 || j == 2 || j == 3 || j == 12 || j == 16)) || c == 29 || c == 40 || c == 41 || c == 45 || c == 65 || c == 37 || c == 55 || c == 61 || c == 63
def okvb (c j : Nat) (v : Int32) : Bool := !cnb c j || v == 0 || (c == 40 && v == -1)
theorem okv_free {b : Int} {c j : Nat} {v : Int32} (h : cnb c j = false) : okv b c j v := by
  unfold okv
  split
  all_goals first
    | trivial
    | (exfalso; simp [cnb] at h; done)
    | (unfold okv1; split; exfalso; simp [cnb] at h; trivial)
    | (unfold okv3; split; exfalso; simp [cnb] at h; exfalso; simp [cnb] at h; trivial)
    | (unfold okv4; split; exfalso; simp [cnb] at h; trivial)
    | (unfold okv5; split; exfalso; simp [cnb] at h; trivial)
    | (unfold okv7; split; exfalso; simp [cnb] at h; trivial)
    | (unfold okv8; split; exfalso; simp [cnb] at h; exfalso; simp [cnb] at h; trivial)
    | (unfold okv10; split; exfalso; simp [cnb] at h; trivial)
    | (unfold okv11; split; all_goals first | trivial | (exfalso; simp [cnb] at h; done))
    | (unfold okv12; split; all_goals first | trivial | (exfalso; simp [cnb] at h; done))
    | (unfold okv13; split; all_goals first | trivial | (exfalso; simp [cnb] at h; done))
theorem okv_zero {b : Int} (hb : 0 ≤ b) {c j : Nat} : okv b c j 0 := by
  have e0 : (0 : Int32).toInt = 0 := by decide
  unfold okv
  split
  all_goals first
    | trivial
    | decide
    | (unfold okv1; split; exact ⟨by decide, by rw [e0]; omega⟩; trivial)
    | (unfold okv3; split; decide; decide; trivial)
    | (unfold okv4; split; decide; trivial)
    | (unfold okv5; split; exact ⟨by decide, by rw [e0]; exact hb⟩; trivial)
    | (unfold okv7; split; decide; trivial)
    | (unfold okv8; split; decide; decide; trivial)
    | (unfold okv10; split; decide; trivial)
    | (unfold okv11; split; decide; decide; decide; decide; decide; decide; trivial)
    | (unfold okv12; split; decide; decide; decide; decide; trivial)
    | (unfold okv13; split; decide; decide; decide; decide; decide; decide; trivial)
    | exact okN_z (x := 0) ⟨by decide, by rw [e0]; exact hb⟩
    | (unfold okE; decide)
theorem okvb_s {b : Int} (hb : 0 ≤ b) {c j : Nat} {v : Int32} (h : okvb c j v = true) : okv b c j v := by
  unfold okvb at h
  rcases Bool.or_eq_true _ _ |>.mp h with h | h
  · rcases Bool.or_eq_true _ _ |>.mp h with h | h
    · exact okv_free (by simpa using h)
    · rw [show v = 0 by simpa using h]
      exact okv_zero hb
  · rw [Bool.and_eq_true] at h
    have h1 : c = 40 := by simpa using h.1
    have h2 : v = -1 := by simpa using h.2
    rw [h1, h2]
    show iv (-1 : Int32) (-1) 23
    decide
