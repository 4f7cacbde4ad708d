set_option maxRecDepth 1000000 in
theorem q_scm2x : onq q0 (fun q => sciPc 68 68 q.2) = true := by decide +kernel
