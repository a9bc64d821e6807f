theorem pe_digest : (F_X3_digest M0).map (·.1) = (F_X4_digest MR).map (·.1) := by decide +kernel
theorem pt_digest : ((F_X4_digest MR).bind fun y => F_X4_thrown y.2) = some 0 := by decide +kernel
