def b_k (q : Gs × Ds) : Bool := (List.range 347).all (fun r => gK q.1 r == zKL.getD r 0 && gL q.1 r == zLL.getD r 0)
set_option maxRecDepth 1000000 in
theorem q_k : onq b_k = true := by decide +kernel
