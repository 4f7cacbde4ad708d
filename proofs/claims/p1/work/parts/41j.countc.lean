def b_countc (q : Gs × Ds) : Bool := (List.range 6).all (fun w => ck (fX11_count 10000 q.1 0 (Int32.ofNat (16 + w)) q.2) (fX12_count 10000 q.1 328 (Int32.ofNat (16 + w))))
set_option maxRecDepth 1000000 in
theorem q_countc : onq b_countc = true := by decide +kernel
