/-! what is asked of a steady: nothing -/
def SteOk (_ : UInt32) : Prop := True
theorem PS_st {b : Bool} {x : UInt32} (_ : SteOk x) : SteOk (stS b x) := trivial
theorem PS_0 : SteOk FP.fconst0 := trivial
