set_option maxRecDepth 1000000 in
theorem q_k : onq q0 (fun q => (List.range 347).all (fun r => gK q.1 r == tkd r && gL q.1 r == tln r)) = true := by decide +kernel
