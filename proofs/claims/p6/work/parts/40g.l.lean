set_option maxRecDepth 1000000 in
theorem q_l : onq q0 (fun q => (List.range 20).all (fun k => dL q.2 335 k == kyc k)) = true := by decide +kernel
