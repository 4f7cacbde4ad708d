set_option maxRecDepth 1000000 in
theorem q_scmfx : onq q0 (fun q => scfPc q.2) = true := by decide +kernel
