set_option maxRecDepth 1000000 in
theorem q_scm1x : onq q0 (fun q => sciPc 0 68 q.2) = true := by decide +kernel
