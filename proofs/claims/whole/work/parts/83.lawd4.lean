theorem d_law_772 : decode code 772 = .ok (.iinc 3 5, 3) := by decide +kernel
theorem d_law_775 : decode code 775 = .ok (.goto (-747), 3) := by decide +kernel
theorem d_law_778 : decode code 778 = .ok (.iconst 1, 1) := by decide +kernel
theorem d_law_779 : decode code 779 = .ok (.ireturn, 1) := by decide +kernel