def b_host (q : Gs × Ds) : Bool := (List.range 4).all (fun w => ck (fX11_host 10000 q.1 0 (Int32.ofNat (0 + w)) q.2) (fX12_host 10000 q.1 328 (Int32.ofNat (0 + w))))
set_option maxRecDepth 1000000 in
theorem q_host : onq b_host = true := by decide +kernel
