def b_follow (q : Gs × Ds) : Bool := (fX9_follow 10000 q.1 225 117 0 q.2).isSome
set_option maxRecDepth 1000000 in
theorem q_follow : onq b_follow = true := by decide +kernel
