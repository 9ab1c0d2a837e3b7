/-! CONTRACTS BY HAND -/
theorem vc_21 (l : Launch) : scm l vT vR vE 153 6051 vC_21 := vh_readJoin l
