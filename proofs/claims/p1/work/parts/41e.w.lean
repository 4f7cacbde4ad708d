def b_w (q : Gs × Ds) : Bool := zNL.all (fun t => dI q.2 336 t.1 == t.2)
set_option maxRecDepth 1000000 in
theorem q_w : onq b_w = true := by decide +kernel
