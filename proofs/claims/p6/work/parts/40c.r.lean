set_option maxRecDepth 1000000 in
theorem q_r : onq q0 (fun q => (List.range 347).all (fun r => (List.range (tct r)).all (fun j => rfr r j == 0 || gR q.1 r j == some (rfr r j - 1)))) = true := by decide +kernel
