def b_i (q : Gs × Ds) : Bool := zIL.all (fun t => dI q.2 t.1 t.2.1 == t.2.2)
set_option maxRecDepth 1000000 in
theorem q_i : onq b_i = true := by decide +kernel
