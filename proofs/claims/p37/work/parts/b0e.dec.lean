/-! THE LAW'S DECODE ROWS, 14 -/
theorem dL_law_2304 : decode cL_law 2304 = .ok (.goto (-2212), 3) := by decide +kernel
theorem dL_law_2307 : decode cL_law 2307 = .ok (.iload 7, 2) := by decide +kernel
theorem dL_law_2309 : decode cL_law 2309 = .ok (.ireturn, 1) := by decide +kernel
