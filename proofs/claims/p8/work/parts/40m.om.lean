set_option maxRecDepth 1000000 in
theorem q_scm3x : onq q0 (fun q => sciPc 136 67 q.2) = true := by decide +kernel
