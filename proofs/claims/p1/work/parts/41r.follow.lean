def b_follow (q : Gs × Ds) : Bool := (match fX9_follow 10000 q.1 225 117 0 q.2 with | some z => dI z.2 336 0 == 0 && dI z.2 336 1 == 0 | none => false)
set_option maxRecDepth 1000000 in
theorem q_follow : onq b_follow = true := by decide +kernel
