/-! what is asked of a steady: no more than one -/
def SteOk (x : UInt32) : Prop := x.toNat ≤ 1065353216
theorem PS_st {b : Bool} {x : UInt32} (h : SteOk x) : SteOk (stS b x) := stS_1 h
theorem PS_0 : SteOk FP.fconst0 := by
  show (FP.fconst0 : UInt32).toNat ≤ 1065353216
  decide
