def b_sent (q : Gs × Ds) : Bool := (List.range 2).all (fun w => ck (fX11_sent 10000 q.1 0 (Int32.ofNat (0 + w)) q.2) (fX12_sent 10000 q.1 328 (Int32.ofNat (0 + w))))
set_option maxRecDepth 1000000 in
theorem q_sent : onq b_sent = true := by decide +kernel
