set_option maxRecDepth 1000000 in
theorem q_a : onq qa (fun q => gN q.1 == 328 && gS q.1 == 23567) = true := by decide +kernel
