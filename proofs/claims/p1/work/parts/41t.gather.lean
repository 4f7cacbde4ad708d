def b_gather (q : Gs × Ds) : Bool := (match fX3_gather 10000 q.1 236 (-1) q.2 with | some z => dI z.2 236 8 == 0 && (match fX12_laysSent 10000 q.1 328 z.2 with | some w => dI w.2 328 26 == 0 | none => false) | none => false)
set_option maxRecDepth 1000000 in
theorem q_gather : onq b_gather = true := by decide +kernel
