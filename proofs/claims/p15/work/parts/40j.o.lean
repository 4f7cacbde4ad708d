set_option maxRecDepth 1000000 in
theorem q_scmx : onq q0 (fun q => scm q.2) = true := by decide +kernel
