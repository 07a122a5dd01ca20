theorem dL_law_832 : decode cL_law 832 = .ok (.ireturn, 1) := by decide +kernel
