def b_hold2 (q : Gs × Ds) : Bool := (List.range 1).all (fun w => ck (fX11_hold 10000 q.1 0 (Int32.ofNat (2 + w)) q.2) (fX12_hold 10000 q.1 328 (Int32.ofNat (2 + w))))
set_option maxRecDepth 1000000 in
theorem q_hold2 : onq b_hold2 = true := by decide +kernel
