set_option maxRecDepth 1000000 in
theorem q_n : onq q0 (fun q => gN q.1 == 347 && gS q.1 == 75635) = true := by decide +kernel
