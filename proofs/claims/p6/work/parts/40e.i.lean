set_option maxRecDepth 1000000 in
theorem q_i : onq qa (fun q => (List.range 328).all (fun r => (List.range 24).all (fun j => okvb (cls r) j (dI q.2 r j)))) = true := by decide +kernel
