section BM
variable {p : Program} {l : Launch} {e : Env} {R : Room} {s : State} {m : MethodId} {args : Array Value} {below : List Frame} {meth : Method} {c : Code} {cells slots : Nat} {Q : State → Prop} {nL : Nat} {D : va_G} {cy : Nat → ClassId} {B : Bs} {g : Gs} {d : Ds} {lv : List (Nat × Value)} {pc : Nat} {cc : ByteArray} {own : String} {rest : List Value}

theorem b_ldcfw (C : Cx p s m args c cc nL own D cy B) {index : Nat} {v : UInt32} (hc : Cond.constantFloat own index v ∈ wl) (hdg : decode cc pc = .ok (.ldc_w index, 3)) (k : WB p l e R s m args below meth c nL D cy B cells slots Q g d lv (pc + 3) (.float v :: rest)) : WB p l e R s m args below meth c nL D cy B cells slots Q g d lv pc rest := fun H locs ls hl hP hS => by
  obtain ⟨hx, hb, -, hown, hts, -⟩ := C
  intro T hT X
  obtain ⟨t, a1, b1⟩ := k H locs ls hl hP hS T hT X
  refine ⟨t, ?_, b1⟩
  obtain ⟨kf, cf, hk, hcf, hcp⟩ := Cond.constantFloat_spec hown (hts _ hc)
  obtain ⟨k', hk', he⟩ := X.warmed.alike.2.2 _ _ hk
  jvm_step X.here [hx, hb, hdg, ldc_w.wp_float (s := T) (f := F0 m pc ls rest) X.here.top hk' (by rw [he]; exact hcf) hcp]
  exact a1

end BM
