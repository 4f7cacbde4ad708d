def b_restore (q : Gs × Ds) : Bool := (List.range 3).all (fun w => ck (fX11_restore 10000 q.1 0 (Int32.ofNat (0 + w)) q.2) (fX12_restore 10000 q.1 328 (Int32.ofNat (0 + w))))
set_option maxRecDepth 1000000 in
theorem q_restore : onq b_restore = true := by decide +kernel
