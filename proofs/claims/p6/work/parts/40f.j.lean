set_option maxRecDepth 1000000 in
theorem q_j : onq qa (fun q => dI q.2 9 0 == 0 && dI q.2 9 1 == 0 && dI q.2 9 12 == 0 && dI q.2 117 12 == 0 && dI q.2 0 1 == 0) = true := by decide +kernel
