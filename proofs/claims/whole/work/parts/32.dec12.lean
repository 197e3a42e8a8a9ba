theorem dX10_init_2250 : decode cX10_init 2250 = .ok (.iload_n 2, 1) := by decide +kernel
theorem dX10_init_2251 : decode cX10_init 2251 = .ok (.iaload, 1) := by decide +kernel
theorem dX10_init_2252 : decode cX10_init 2252 = .ok (.iload_n 2, 1) := by decide +kernel
theorem dX10_init_2253 : decode cX10_init 2253 = .ok (.iastore, 1) := by decide +kernel
theorem dX10_init_2254 : decode cX10_init 2254 = .ok (.iinc 2 1, 3) := by decide +kernel
theorem dX10_init_2257 : decode cX10_init 2257 = .ok (.goto (-22), 3) := by decide +kernel
theorem dX10_init_2260 : decode cX10_init 2260 = .ok (.return_, 1) := by decide +kernel
