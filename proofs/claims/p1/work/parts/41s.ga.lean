set_option maxRecDepth 1000000 in
theorem q_ga : (match fX11_init 10000 0 (nG g00 10 0 10) (nD g00 d00) with | some z => gN z.1 == 328 && gS z.1 == 23567 | none => false) = true := by decide +kernel
