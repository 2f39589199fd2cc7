theorem dL_law_1054 : decode cL_law 1054 = .ok (.iinc 3 6, 3) := by decide +kernel
theorem dL_law_1057 : decode cL_law 1057 = .ok (.goto (-1039), 3) := by decide +kernel
theorem dL_law_1060 : decode cL_law 1060 = .ok (.iconst 1, 1) := by decide +kernel
theorem dL_law_1061 : decode cL_law 1061 = .ok (.ireturn, 1) := by decide +kernel
abbrev vwCl : List vw_C := [(RX0, TX0, 2), (RX1, TX1, 2), (RX2, TX2, 8), (RX3, TX3, 18)]
