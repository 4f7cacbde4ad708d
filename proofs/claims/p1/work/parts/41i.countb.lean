def b_countb (q : Gs × Ds) : Bool := (List.range 8).all (fun w => ck (fX11_count 10000 q.1 0 (Int32.ofNat (8 + w)) q.2) (fX12_count 10000 q.1 328 (Int32.ofNat (8 + w))))
set_option maxRecDepth 1000000 in
theorem q_countb : onq b_countb = true := by decide +kernel
