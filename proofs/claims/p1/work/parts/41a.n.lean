def b_n (q : Gs × Ds) : Bool := gN q.1 == 347 && gS q.1 == 75635
set_option maxRecDepth 1000000 in
theorem q_n : onq b_n = true := by decide +kernel
