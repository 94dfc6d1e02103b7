theorem dX10_octet_19 : decode cX10_octet 19 = .ok (.baload, 1) := by decide +kernel
theorem dX10_octet_20 : decode cX10_octet 20 = .ok (.goto 4, 3) := by decide +kernel
theorem dX10_octet_23 : decode cX10_octet 23 = .ok (.iconst (-1), 1) := by decide +kernel
theorem dX10_octet_24 : decode cX10_octet 24 = .ok (.ireturn, 1) := by decide +kernel
