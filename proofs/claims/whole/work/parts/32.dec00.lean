theorem dX10_init_0 : decode cX10_init 0 = .ok (.aload_n 0, 1) := by decide +kernel
theorem dX10_init_1 : decode cX10_init 1 = .ok (.invokespecial 1, 3) := by decide +kernel
theorem dX10_init_4 : decode cX10_init 4 = .ok (.aload_n 0, 1) := by decide +kernel
theorem dX10_init_5 : decode cX10_init 5 = .ok (.sipush 256, 3) := by decide +kernel
theorem dX10_init_8 : decode cX10_init 8 = .ok (.newarray .int, 2) := by decide +kernel
theorem dX10_init_10 : decode cX10_init 10 = .ok (.dup, 1) := by decide +kernel
theorem dX10_init_11 : decode cX10_init 11 = .ok (.iconst 0, 1) := by decide +kernel
theorem dX10_init_12 : decode cX10_init 12 = .ok (.sipush 4640, 3) := by decide +kernel
theorem dX10_init_15 : decode cX10_init 15 = .ok (.iastore, 1) := by decide +kernel
theorem dX10_init_16 : decode cX10_init 16 = .ok (.dup, 1) := by decide +kernel
theorem dX10_init_17 : decode cX10_init 17 = .ok (.iconst 1, 1) := by decide +kernel
theorem dX10_init_18 : decode cX10_init 18 = .ok (.sipush 8448, 3) := by decide +kernel
theorem dX10_init_21 : decode cX10_init 21 = .ok (.iastore, 1) := by decide +kernel
theorem dX10_init_22 : decode cX10_init 22 = .ok (.dup, 1) := by decide +kernel
theorem dX10_init_23 : decode cX10_init 23 = .ok (.iconst 2, 1) := by decide +kernel
theorem dX10_init_24 : decode cX10_init 24 = .ok (.sipush 9248, 3) := by decide +kernel
theorem dX10_init_27 : decode cX10_init 27 = .ok (.iastore, 1) := by decide +kernel
theorem dX10_init_28 : decode cX10_init 28 = .ok (.dup, 1) := by decide +kernel
theorem dX10_init_29 : decode cX10_init 29 = .ok (.iconst 3, 1) := by decide +kernel
theorem dX10_init_30 : decode cX10_init 30 = .ok (.sipush 8736, 3) := by decide +kernel
theorem dX10_init_33 : decode cX10_init 33 = .ok (.iastore, 1) := by decide +kernel
theorem dX10_init_34 : decode cX10_init 34 = .ok (.dup, 1) := by decide +kernel
theorem dX10_init_35 : decode cX10_init 35 = .ok (.iconst 4, 1) := by decide +kernel
theorem dX10_init_36 : decode cX10_init 36 = .ok (.sipush 4352, 3) := by decide +kernel
theorem dX10_init_39 : decode cX10_init 39 = .ok (.iastore, 1) := by decide +kernel
theorem dX10_init_40 : decode cX10_init 40 = .ok (.dup, 1) := by decide +kernel
theorem dX10_init_41 : decode cX10_init 41 = .ok (.iconst 5, 1) := by decide +kernel
theorem dX10_init_42 : decode cX10_init 42 = .ok (.sipush 272, 3) := by decide +kernel
theorem dX10_init_45 : decode cX10_init 45 = .ok (.iastore, 1) := by decide +kernel
theorem dX10_init_46 : decode cX10_init 46 = .ok (.dup, 1) := by decide +kernel
theorem dX10_init_47 : decode cX10_init 47 = .ok (.bipush 6, 2) := by decide +kernel
theorem dX10_init_49 : decode cX10_init 49 = .ok (.sipush 1056, 3) := by decide +kernel
theorem dX10_init_52 : decode cX10_init 52 = .ok (.iastore, 1) := by decide +kernel
theorem dX10_init_53 : decode cX10_init 53 = .ok (.dup, 1) := by decide +kernel
theorem dX10_init_54 : decode cX10_init 54 = .ok (.bipush 7, 2) := by decide +kernel
theorem dX10_init_56 : decode cX10_init 56 = .ok (.sipush 2304, 3) := by decide +kernel
theorem dX10_init_59 : decode cX10_init 59 = .ok (.iastore, 1) := by decide +kernel
theorem dX10_init_60 : decode cX10_init 60 = .ok (.dup, 1) := by decide +kernel
theorem dX10_init_61 : decode cX10_init 61 = .ok (.bipush 8, 2) := by decide +kernel
theorem dX10_init_63 : decode cX10_init 63 = .ok (.sipush 4672, 3) := by decide +kernel
theorem dX10_init_66 : decode cX10_init 66 = .ok (.iastore, 1) := by decide +kernel
theorem dX10_init_67 : decode cX10_init 67 = .ok (.dup, 1) := by decide +kernel
theorem dX10_init_68 : decode cX10_init 68 = .ok (.bipush 9, 2) := by decide +kernel
theorem dX10_init_70 : decode cX10_init 70 = .ok (.sipush 8256, 3) := by decide +kernel
theorem dX10_init_73 : decode cX10_init 73 = .ok (.iastore, 1) := by decide +kernel
theorem dX10_init_74 : decode cX10_init 74 = .ok (.dup, 1) := by decide +kernel
theorem dX10_init_75 : decode cX10_init 75 = .ok (.bipush 10, 2) := by decide +kernel
theorem dX10_init_77 : decode cX10_init 77 = .ok (.sipush 9280, 3) := by decide +kernel
theorem dX10_init_80 : decode cX10_init 80 = .ok (.iastore, 1) := by decide +kernel
theorem dX10_init_81 : decode cX10_init 81 = .ok (.dup, 1) := by decide +kernel
theorem dX10_init_82 : decode cX10_init 82 = .ok (.bipush 11, 2) := by decide +kernel
theorem dX10_init_84 : decode cX10_init 84 = .ok (.sipush 8768, 3) := by decide +kernel
theorem dX10_init_87 : decode cX10_init 87 = .ok (.iastore, 1) := by decide +kernel
theorem dX10_init_88 : decode cX10_init 88 = .ok (.dup, 1) := by decide +kernel
theorem dX10_init_89 : decode cX10_init 89 = .ok (.bipush 12, 2) := by decide +kernel
theorem dX10_init_91 : decode cX10_init 91 = .ok (.sipush 4160, 3) := by decide +kernel
theorem dX10_init_94 : decode cX10_init 94 = .ok (.iastore, 1) := by decide +kernel
theorem dX10_init_95 : decode cX10_init 95 = .ok (.dup, 1) := by decide +kernel
theorem dX10_init_96 : decode cX10_init 96 = .ok (.bipush 13, 2) := by decide +kernel
theorem dX10_init_98 : decode cX10_init 98 = .ok (.bipush 64, 2) := by decide +kernel
theorem dX10_init_100 : decode cX10_init 100 = .ok (.iastore, 1) := by decide +kernel
theorem dX10_init_101 : decode cX10_init 101 = .ok (.dup, 1) := by decide +kernel
theorem dX10_init_102 : decode cX10_init 102 = .ok (.bipush 14, 2) := by decide +kernel
theorem dX10_init_104 : decode cX10_init 104 = .ok (.sipush 1088, 3) := by decide +kernel
theorem dX10_init_107 : decode cX10_init 107 = .ok (.iastore, 1) := by decide +kernel
theorem dX10_init_108 : decode cX10_init 108 = .ok (.dup, 1) := by decide +kernel
theorem dX10_init_109 : decode cX10_init 109 = .ok (.bipush 15, 2) := by decide +kernel
theorem dX10_init_111 : decode cX10_init 111 = .ok (.sipush 2112, 3) := by decide +kernel
theorem dX10_init_114 : decode cX10_init 114 = .ok (.iastore, 1) := by decide +kernel
theorem dX10_init_115 : decode cX10_init 115 = .ok (.dup, 1) := by decide +kernel
theorem dX10_init_116 : decode cX10_init 116 = .ok (.bipush 16, 2) := by decide +kernel
theorem dX10_init_118 : decode cX10_init 118 = .ok (.sipush 8224, 3) := by decide +kernel
theorem dX10_init_121 : decode cX10_init 121 = .ok (.iastore, 1) := by decide +kernel
theorem dX10_init_122 : decode cX10_init 122 = .ok (.dup, 1) := by decide +kernel
theorem dX10_init_123 : decode cX10_init 123 = .ok (.bipush 17, 2) := by decide +kernel
theorem dX10_init_125 : decode cX10_init 125 = .ok (.sipush 8320, 3) := by decide +kernel
theorem dX10_init_128 : decode cX10_init 128 = .ok (.iastore, 1) := by decide +kernel
theorem dX10_init_129 : decode cX10_init 129 = .ok (.dup, 1) := by decide +kernel
theorem dX10_init_130 : decode cX10_init 130 = .ok (.bipush 18, 2) := by decide +kernel
theorem dX10_init_132 : decode cX10_init 132 = .ok (.sipush 9344, 3) := by decide +kernel
theorem dX10_init_135 : decode cX10_init 135 = .ok (.iastore, 1) := by decide +kernel
theorem dX10_init_136 : decode cX10_init 136 = .ok (.dup, 1) := by decide +kernel
theorem dX10_init_137 : decode cX10_init 137 = .ok (.bipush 19, 2) := by decide +kernel
theorem dX10_init_139 : decode cX10_init 139 = .ok (.sipush 2080, 3) := by decide +kernel
theorem dX10_init_142 : decode cX10_init 142 = .ok (.iastore, 1) := by decide +kernel
theorem dX10_init_143 : decode cX10_init 143 = .ok (.dup, 1) := by decide +kernel
theorem dX10_init_144 : decode cX10_init 144 = .ok (.bipush 20, 2) := by decide +kernel
theorem dX10_init_146 : decode cX10_init 146 = .ok (.sipush 4224, 3) := by decide +kernel
theorem dX10_init_149 : decode cX10_init 149 = .ok (.iastore, 1) := by decide +kernel
theorem dX10_init_150 : decode cX10_init 150 = .ok (.dup, 1) := by decide +kernel
theorem dX10_init_151 : decode cX10_init 151 = .ok (.bipush 21, 2) := by decide +kernel
theorem dX10_init_153 : decode cX10_init 153 = .ok (.sipush 128, 3) := by decide +kernel
theorem dX10_init_156 : decode cX10_init 156 = .ok (.iastore, 1) := by decide +kernel
theorem dX10_init_157 : decode cX10_init 157 = .ok (.dup, 1) := by decide +kernel
theorem dX10_init_158 : decode cX10_init 158 = .ok (.bipush 22, 2) := by decide +kernel
theorem dX10_init_160 : decode cX10_init 160 = .ok (.sipush 1152, 3) := by decide +kernel
theorem dX10_init_163 : decode cX10_init 163 = .ok (.iastore, 1) := by decide +kernel
theorem dX10_init_164 : decode cX10_init 164 = .ok (.dup, 1) := by decide +kernel
theorem dX10_init_165 : decode cX10_init 165 = .ok (.bipush 23, 2) := by decide +kernel
theorem dX10_init_167 : decode cX10_init 167 = .ok (.sipush 2176, 3) := by decide +kernel
