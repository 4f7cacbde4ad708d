def b_r (q : Gs × Ds) : Bool := zRL.all (fun t => gR q.1 t.1 t.2.1 == some t.2.2)
set_option maxRecDepth 1000000 in
theorem q_r : onq b_r = true := by decide +kernel
