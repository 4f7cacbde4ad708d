def b_counta (q : Gs × Ds) : Bool := (List.range 8).all (fun w => ck (fX11_count 10000 q.1 0 (Int32.ofNat (0 + w)) q.2) (fX12_count 10000 q.1 328 (Int32.ofNat (0 + w))))
set_option maxRecDepth 1000000 in
theorem q_counta : onq b_counta = true := by decide +kernel
