def b_read (q : Gs × Ds) : Bool := ck (fX11_read 10000 q.1 0 q.2) (fX12_read 10000 q.1 328)
set_option maxRecDepth 1000000 in
theorem q_read : onq b_read = true := by decide +kernel
