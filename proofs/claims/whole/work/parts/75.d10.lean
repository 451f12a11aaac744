/-! the law, read -/
theorem dL_962 : decode code 962 = .ok (.iconst 0, 1) := by decide +kernel
theorem dL_963 : decode code 963 = .ok (.ireturn, 1) := by decide +kernel
theorem dL_964 : decode code 964 = .ok (.iinc 3 6, 3) := by decide +kernel
theorem dL_967 : decode code 967 = .ok (.goto (-949), 3) := by decide +kernel
theorem dL_970 : decode code 970 = .ok (.iconst 1, 1) := by decide +kernel
theorem dL_971 : decode code 971 = .ok (.ireturn, 1) := by decide +kernel
