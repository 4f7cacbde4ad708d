set_option maxRecDepth 1000000 in
theorem q_sccx : onq q0 (fun q => scc q.2) = true := by decide +kernel
