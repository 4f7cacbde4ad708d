theorem q_ex : ∃ (g : Gs) (d : Ds), q0 = some (g, d) := by
  have h := q_n
  unfold onq at h
  cases e : q0 with
  | none => rw [e] at h; cases h
  | some q => exact ⟨q.1, q.2, rfl⟩
theorem Fn {g : Gs} {d : Ds} (h : q0 = some (g, d)) : gN g = 347 := by
  have := onq_s q_n h
  simp only [b_n, Bool.and_eq_true, beq_iff_eq] at this
  exact this.1
theorem Fs {g : Gs} {d : Ds} (h : q0 = some (g, d)) : gS g = 75635 := by
  have := onq_s q_n h
  simp only [b_n, Bool.and_eq_true, beq_iff_eq] at this
  exact this.2
theorem Fk {g : Gs} {d : Ds} (h : q0 = some (g, d)) (r : Nat) (hr : r < 347) : gK g r = zKL.getD r 0 := by
  have := onq_s q_k h
  simp only [b_k, Bool.and_eq_true, List.all_eq_true, List.mem_range, beq_iff_eq] at this
  exact (this r hr).1
theorem Fl {g : Gs} {d : Ds} (h : q0 = some (g, d)) (r : Nat) (hr : r < 347) : gL g r = zLL.getD r 0 := by
  have := onq_s q_k h
  simp only [b_k, Bool.and_eq_true, List.all_eq_true, List.mem_range, beq_iff_eq] at this
  exact (this r hr).2
theorem Fr {g : Gs} {d : Ds} (h : q0 = some (g, d)) (t : Nat × Nat × Nat) (ht : t ∈ zRL) : gR g t.1 t.2.1 = some t.2.2 := by
  have := onq_s q_r h
  simp only [b_r, List.all_eq_true, beq_iff_eq] at this
  exact this t ht
theorem Fi {g : Gs} {d : Ds} (h : q0 = some (g, d)) (t : Nat × Nat × Int32) (ht : t ∈ zIL) : dI d t.1 t.2.1 = t.2.2 := by
  have := onq_s q_i h
  simp only [b_i, List.all_eq_true, beq_iff_eq] at this
  exact this t ht
theorem Fw {g : Gs} {d : Ds} (h : q0 = some (g, d)) (t : Nat × Int32) (ht : t ∈ zNL) : dI d 336 t.1 = t.2 := by
  have := onq_s q_w h
  simp only [b_w, List.all_eq_true, beq_iff_eq] at this
  exact this t ht
