set_option maxRecDepth 100000 in
theorem tst1 : (match fX6_init 100 0 (nG g00 6 0 9) (nD g00 d00) with | some q => (gN q.1 == 6) && (gK q.1 3 == 102) | none => false) = true := by decide +kernel
set_option maxRecDepth 100000 in
theorem tst2 : (match fX3_init 100 0 (nG g00 3 0 9) (nD g00 d00) with | some q => (match fX3_clear 100 q.1 0 q.2 with | some z => dI z.2 1 23 == -1 | none => false) | none => false) = true := by decide +kernel
