set_option maxRecDepth 1000000 in
theorem q_m : onq q0 (fun q => rrc.all (fun t => dI q.2 t.1 t.2.1 == t.2.2)) = true := by decide +kernel
