def b_hold1 (q : Gs × Ds) : Bool := (List.range 1).all (fun w => ck (fX11_hold 10000 q.1 0 (Int32.ofNat (1 + w)) q.2) (fX12_hold 10000 q.1 328 (Int32.ofNat (1 + w))))
set_option maxRecDepth 1000000 in
theorem q_hold1 : onq b_hold1 = true := by decide +kernel
