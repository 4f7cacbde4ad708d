def b_place (q : Gs × Ds) : Bool := ck (fX11_place 10000 q.1 0 q.2) (fX12_place 10000 q.1 328)
set_option maxRecDepth 1000000 in
theorem q_place : onq b_place = true := by decide +kernel
