def b_ghosts (q : Gs × Ds) : Bool := (List.range 3).all (fun w => ck (fX11_ghosts 10000 q.1 0 0 (Int32.ofNat w) q.2) (fX12_ghosts 10000 q.1 328 0 (Int32.ofNat w)))
set_option maxRecDepth 1000000 in
theorem q_ghosts : onq b_ghosts = true := by decide +kernel
