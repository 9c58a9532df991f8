theorem dX15_differs_134 : decode cX15_differs 134 = .ok (.iconst 1, 1) := by decide +kernel
theorem dX15_differs_135 : decode cX15_differs 135 = .ok (.if_icmp .ne 8, 3) := by decide +kernel
theorem dX15_differs_138 : decode cX15_differs 138 = .ok (.iload 4, 2) := by decide +kernel
theorem dX15_differs_140 : decode cX15_differs 140 = .ok (.goto 23, 3) := by decide +kernel
theorem dX15_differs_143 : decode cX15_differs 143 = .ok (.iload_n 1, 1) := by decide +kernel
theorem dX15_differs_144 : decode cX15_differs 144 = .ok (.iconst 2, 1) := by decide +kernel
theorem dX15_differs_145 : decode cX15_differs 145 = .ok (.if_icmp .ne 8, 3) := by decide +kernel
theorem dX15_differs_148 : decode cX15_differs 148 = .ok (.iload 5, 2) := by decide +kernel
theorem dX15_differs_150 : decode cX15_differs 150 = .ok (.goto 13, 3) := by decide +kernel
theorem dX15_differs_153 : decode cX15_differs 153 = .ok (.iload 6, 2) := by decide +kernel
theorem dX15_differs_155 : decode cX15_differs 155 = .ok (.ifCond .eq 7, 3) := by decide +kernel
theorem dX15_differs_158 : decode cX15_differs 158 = .ok (.iconst 1, 1) := by decide +kernel
theorem dX15_differs_159 : decode cX15_differs 159 = .ok (.goto 4, 3) := by decide +kernel
theorem dX15_differs_162 : decode cX15_differs 162 = .ok (.iconst 0, 1) := by decide +kernel
theorem dX15_differs_163 : decode cX15_differs 163 = .ok (.invokevirtual 371, 3) := by decide +kernel
theorem dX15_differs_166 : decode cX15_differs 166 = .ok (.ireturn, 1) := by decide +kernel
theorem dX15_differs_167 : decode cX15_differs 167 = .ok (.iinc 5 1, 3) := by decide +kernel
theorem dX15_differs_170 : decode cX15_differs 170 = .ok (.goto (-88), 3) := by decide +kernel
theorem dX15_differs_173 : decode cX15_differs 173 = .ok (.iinc 4 1, 3) := by decide +kernel
theorem dX15_differs_176 : decode cX15_differs 176 = .ok (.goto (-109), 3) := by decide +kernel
theorem dX15_differs_179 : decode cX15_differs 179 = .ok (.iinc 3 1, 3) := by decide +kernel
theorem dX15_differs_182 : decode cX15_differs 182 = .ok (.goto (-126), 3) := by decide +kernel
theorem dX15_differs_185 : decode cX15_differs 185 = .ok (.aload_n 0, 1) := by decide +kernel
theorem dX15_differs_186 : decode cX15_differs 186 = .ok (.bipush (-2), 2) := by decide +kernel
theorem dX15_differs_188 : decode cX15_differs 188 = .ok (.invokevirtual 371, 3) := by decide +kernel
theorem dX15_differs_191 : decode cX15_differs 191 = .ok (.ireturn, 1) := by decide +kernel
theorem dX15_isStanding_0 : decode cX15_isStanding 0 = .ok (.aload_n 0, 1) := by decide +kernel
theorem dX15_isStanding_1 : decode cX15_isStanding 1 = .ok (.getfield 69, 3) := by decide +kernel
theorem dX15_isStanding_4 : decode cX15_isStanding 4 = .ok (.iconst 4, 1) := by decide +kernel
theorem dX15_isStanding_5 : decode cX15_isStanding 5 = .ok (.iload_n 2, 1) := by decide +kernel
theorem dX15_isStanding_6 : decode cX15_isStanding 6 = .ok (.imul, 1) := by decide +kernel
theorem dX15_isStanding_7 : decode cX15_isStanding 7 = .ok (.iload_n 3, 1) := by decide +kernel
theorem dX15_isStanding_8 : decode cX15_isStanding 8 = .ok (.iadd, 1) := by decide +kernel
theorem dX15_isStanding_9 : decode cX15_isStanding 9 = .ok (.iaload, 1) := by decide +kernel
theorem dX15_isStanding_10 : decode cX15_isStanding 10 = .ok (.aload_n 0, 1) := by decide +kernel
theorem dX15_isStanding_11 : decode cX15_isStanding 11 = .ok (.getfield 343, 3) := by decide +kernel
theorem dX15_isStanding_14 : decode cX15_isStanding 14 = .ok (.getfield 270, 3) := by decide +kernel
theorem dX15_isStanding_17 : decode cX15_isStanding 17 = .ok (.iload_n 1, 1) := by decide +kernel
theorem dX15_isStanding_18 : decode cX15_isStanding 18 = .ok (.iaload, 1) := by decide +kernel
theorem dX15_isStanding_19 : decode cX15_isStanding 19 = .ok (.iand, 1) := by decide +kernel
theorem dX15_isStanding_20 : decode cX15_isStanding 20 = .ok (.aload_n 0, 1) := by decide +kernel
theorem dX15_isStanding_21 : decode cX15_isStanding 21 = .ok (.getfield 343, 3) := by decide +kernel
theorem dX15_isStanding_24 : decode cX15_isStanding 24 = .ok (.getfield 270, 3) := by decide +kernel
theorem dX15_isStanding_27 : decode cX15_isStanding 27 = .ok (.iload_n 1, 1) := by decide +kernel
theorem dX15_isStanding_28 : decode cX15_isStanding 28 = .ok (.iaload, 1) := by decide +kernel
theorem dX15_isStanding_29 : decode cX15_isStanding 29 = .ok (.if_icmp .ne 7, 3) := by decide +kernel
theorem dX15_isStanding_32 : decode cX15_isStanding 32 = .ok (.iconst 1, 1) := by decide +kernel
theorem dX15_isStanding_33 : decode cX15_isStanding 33 = .ok (.goto 4, 3) := by decide +kernel
theorem dX15_isStanding_36 : decode cX15_isStanding 36 = .ok (.iconst 0, 1) := by decide +kernel
theorem dX15_isStanding_37 : decode cX15_isStanding 37 = .ok (.ireturn, 1) := by decide +kernel
theorem dX15_isWordStanding_0 : decode cX15_isWordStanding 0 = .ok (.bipush 7, 2) := by decide +kernel
theorem dX15_isWordStanding_2 : decode cX15_isWordStanding 2 = .ok (.iload_n 2, 1) := by decide +kernel
theorem dX15_isWordStanding_3 : decode cX15_isWordStanding 3 = .ok (.imul, 1) := by decide +kernel
theorem dX15_isWordStanding_4 : decode cX15_isWordStanding 4 = .ok (.iload_n 3, 1) := by decide +kernel
theorem dX15_isWordStanding_5 : decode cX15_isWordStanding 5 = .ok (.iadd, 1) := by decide +kernel
theorem dX15_isWordStanding_6 : decode cX15_isWordStanding 6 = .ok (.istore 4, 2) := by decide +kernel
theorem dX15_isWordStanding_8 : decode cX15_isWordStanding 8 = .ok (.aload_n 0, 1) := by decide +kernel
theorem dX15_isWordStanding_9 : decode cX15_isWordStanding 9 = .ok (.getfield 343, 3) := by decide +kernel
theorem dX15_isWordStanding_12 : decode cX15_isWordStanding 12 = .ok (.getfield 303, 3) := by decide +kernel
theorem dX15_isWordStanding_15 : decode cX15_isWordStanding 15 = .ok (.iload_n 2, 1) := by decide +kernel
theorem dX15_isWordStanding_16 : decode cX15_isWordStanding 16 = .ok (.iaload, 1) := by decide +kernel
theorem dX15_isWordStanding_17 : decode cX15_isWordStanding 17 = .ok (.istore 5, 2) := by decide +kernel
theorem dX15_isWordStanding_19 : decode cX15_isWordStanding 19 = .ok (.aload_n 0, 1) := by decide +kernel
theorem dX15_isWordStanding_20 : decode cX15_isWordStanding 20 = .ok (.getfield 47, 3) := by decide +kernel
theorem dX15_isWordStanding_23 : decode cX15_isWordStanding 23 = .ok (.getfield 433, 3) := by decide +kernel
theorem dX15_isWordStanding_26 : decode cX15_isWordStanding 26 = .ok (.iload 4, 2) := by decide +kernel
theorem dX15_isWordStanding_28 : decode cX15_isWordStanding 28 = .ok (.baload, 1) := by decide +kernel
theorem dX15_isWordStanding_29 : decode cX15_isWordStanding 29 = .ok (.ifCond .ne 68, 3) := by decide +kernel
theorem dX15_isWordStanding_32 : decode cX15_isWordStanding 32 = .ok (.aload_n 0, 1) := by decide +kernel
theorem dX15_isWordStanding_33 : decode cX15_isWordStanding 33 = .ok (.getfield 47, 3) := by decide +kernel
theorem dX15_isWordStanding_36 : decode cX15_isWordStanding 36 = .ok (.getfield 430, 3) := by decide +kernel
theorem dX15_isWordStanding_39 : decode cX15_isWordStanding 39 = .ok (.iload 4, 2) := by decide +kernel
theorem dX15_isWordStanding_41 : decode cX15_isWordStanding 41 = .ok (.baload, 1) := by decide +kernel
theorem dX15_isWordStanding_42 : decode cX15_isWordStanding 42 = .ok (.ifCond .ne 55, 3) := by decide +kernel
theorem dX15_isWordStanding_45 : decode cX15_isWordStanding 45 = .ok (.aload_n 0, 1) := by decide +kernel
theorem dX15_isWordStanding_46 : decode cX15_isWordStanding 46 = .ok (.getfield 47, 3) := by decide +kernel
theorem dX15_isWordStanding_49 : decode cX15_isWordStanding 49 = .ok (.iload_n 3, 1) := by decide +kernel
theorem dX15_isWordStanding_50 : decode cX15_isWordStanding 50 = .ok (.iload 5, 2) := by decide +kernel
theorem dX15_isWordStanding_52 : decode cX15_isWordStanding 52 = .ok (.invokevirtual 472, 3) := by decide +kernel
theorem dX15_isWordStanding_55 : decode cX15_isWordStanding 55 = .ok (.ifCond .ne 42, 3) := by decide +kernel
theorem dX15_isWordStanding_58 : decode cX15_isWordStanding 58 = .ok (.aload_n 0, 1) := by decide +kernel
theorem dX15_isWordStanding_59 : decode cX15_isWordStanding 59 = .ok (.bipush 10, 2) := by decide +kernel
theorem dX15_isWordStanding_61 : decode cX15_isWordStanding 61 = .ok (.iload_n 2, 1) := by decide +kernel
theorem dX15_isWordStanding_62 : decode cX15_isWordStanding 62 = .ok (.iadd, 1) := by decide +kernel
theorem dX15_isWordStanding_63 : decode cX15_isWordStanding 63 = .ok (.aload_n 0, 1) := by decide +kernel
theorem dX15_isWordStanding_64 : decode cX15_isWordStanding 64 = .ok (.getfield 62, 3) := by decide +kernel
theorem dX15_isWordStanding_67 : decode cX15_isWordStanding 67 = .ok (.bipush 42, 2) := by decide +kernel
theorem dX15_isWordStanding_69 : decode cX15_isWordStanding 69 = .ok (.iload_n 1, 1) := by decide +kernel
theorem dX15_isWordStanding_70 : decode cX15_isWordStanding 70 = .ok (.imul, 1) := by decide +kernel
theorem dX15_isWordStanding_71 : decode cX15_isWordStanding 71 = .ok (.iload 4, 2) := by decide +kernel
theorem dX15_isWordStanding_73 : decode cX15_isWordStanding 73 = .ok (.iadd, 1) := by decide +kernel
theorem dX15_isWordStanding_74 : decode cX15_isWordStanding 74 = .ok (.baload, 1) := by decide +kernel
theorem dX15_isWordStanding_75 : decode cX15_isWordStanding 75 = .ok (.ifCond .eq 9, 3) := by decide +kernel
theorem dX15_isWordStanding_78 : decode cX15_isWordStanding 78 = .ok (.iload_n 3, 1) := by decide +kernel
theorem dX15_isWordStanding_79 : decode cX15_isWordStanding 79 = .ok (.iconst 1, 1) := by decide +kernel
theorem dX15_isWordStanding_80 : decode cX15_isWordStanding 80 = .ok (.isub, 1) := by decide +kernel
theorem dX15_isWordStanding_81 : decode cX15_isWordStanding 81 = .ok (.goto 4, 3) := by decide +kernel
theorem dX15_isWordStanding_84 : decode cX15_isWordStanding 84 = .ok (.iload_n 3, 1) := by decide +kernel
theorem dX15_isWordStanding_85 : decode cX15_isWordStanding 85 = .ok (.iload 5, 2) := by decide +kernel
theorem dX15_isWordStanding_87 : decode cX15_isWordStanding 87 = .ok (.invokevirtual 474, 3) := by decide +kernel
theorem dX15_isWordStanding_90 : decode cX15_isWordStanding 90 = .ok (.ifCond .eq 7, 3) := by decide +kernel
theorem dX15_isWordStanding_93 : decode cX15_isWordStanding 93 = .ok (.iconst 1, 1) := by decide +kernel
theorem dX15_isWordStanding_94 : decode cX15_isWordStanding 94 = .ok (.goto 4, 3) := by decide +kernel
theorem dX15_isWordStanding_97 : decode cX15_isWordStanding 97 = .ok (.iconst 0, 1) := by decide +kernel
theorem dX15_isWordStanding_98 : decode cX15_isWordStanding 98 = .ok (.ireturn, 1) := by decide +kernel
theorem dX15_puts_0 : decode cX15_puts 0 = .ok (.iconst 0, 1) := by decide +kernel
theorem dX15_puts_1 : decode cX15_puts 1 = .ok (.istore_n 2, 1) := by decide +kernel
theorem dX15_puts_2 : decode cX15_puts 2 = .ok (.iload_n 2, 1) := by decide +kernel
theorem dX15_puts_3 : decode cX15_puts 3 = .ok (.aload_n 0, 1) := by decide +kernel
theorem dX15_puts_4 : decode cX15_puts 4 = .ok (.getfield 24, 3) := by decide +kernel
theorem dX15_puts_7 : decode cX15_puts 7 = .ok (.if_icmp .gt 409, 3) := by decide +kernel
theorem dX15_puts_10 : decode cX15_puts 10 = .ok (.iconst 0, 1) := by decide +kernel
theorem dX15_puts_11 : decode cX15_puts 11 = .ok (.istore_n 3, 1) := by decide +kernel
theorem dX15_puts_12 : decode cX15_puts 12 = .ok (.iload_n 3, 1) := by decide +kernel
theorem dX15_puts_13 : decode cX15_puts 13 = .ok (.aload_n 0, 1) := by decide +kernel
theorem dX15_puts_14 : decode cX15_puts 14 = .ok (.getfield 343, 3) := by decide +kernel
theorem dX15_puts_17 : decode cX15_puts 17 = .ok (.getfield 209, 3) := by decide +kernel
theorem dX15_puts_20 : decode cX15_puts 20 = .ok (.if_icmp .ge 390, 3) := by decide +kernel
theorem dX15_puts_23 : decode cX15_puts 23 = .ok (.aload_n 0, 1) := by decide +kernel
theorem dX15_puts_24 : decode cX15_puts 24 = .ok (.iload_n 1, 1) := by decide +kernel
theorem dX15_puts_25 : decode cX15_puts 25 = .ok (.iload_n 2, 1) := by decide +kernel
theorem dX15_puts_26 : decode cX15_puts 26 = .ok (.iload_n 3, 1) := by decide +kernel
theorem dX15_puts_27 : decode cX15_puts 27 = .ok (.invokevirtual 394, 3) := by decide +kernel
theorem dX15_puts_30 : decode cX15_puts 30 = .ok (.istore 4, 2) := by decide +kernel
theorem dX15_puts_32 : decode cX15_puts 32 = .ok (.iconst 0, 1) := by decide +kernel
theorem dX15_puts_33 : decode cX15_puts 33 = .ok (.istore 5, 2) := by decide +kernel
theorem dX15_puts_35 : decode cX15_puts 35 = .ok (.aload_n 0, 1) := by decide +kernel
theorem dX15_puts_36 : decode cX15_puts 36 = .ok (.getfield 47, 3) := by decide +kernel
theorem dX15_puts_39 : decode cX15_puts 39 = .ok (.iload_n 2, 1) := by decide +kernel
theorem dX15_puts_40 : decode cX15_puts 40 = .ok (.iload_n 3, 1) := by decide +kernel
theorem dX15_puts_41 : decode cX15_puts 41 = .ok (.invokevirtual 472, 3) := by decide +kernel
theorem dX15_puts_44 : decode cX15_puts 44 = .ok (.ifCond .ne 13, 3) := by decide +kernel
theorem dX15_puts_47 : decode cX15_puts 47 = .ok (.aload_n 0, 1) := by decide +kernel
theorem dX15_puts_48 : decode cX15_puts 48 = .ok (.iload_n 1, 1) := by decide +kernel
theorem dX15_puts_49 : decode cX15_puts 49 = .ok (.iload_n 2, 1) := by decide +kernel
theorem dX15_puts_50 : decode cX15_puts 50 = .ok (.iload_n 3, 1) := by decide +kernel
theorem dX15_puts_51 : decode cX15_puts 51 = .ok (.invokevirtual 398, 3) := by decide +kernel
theorem dX15_puts_54 : decode cX15_puts 54 = .ok (.ifCond .eq 7, 3) := by decide +kernel
theorem dX15_puts_57 : decode cX15_puts 57 = .ok (.iconst 1, 1) := by decide +kernel
theorem dX15_puts_58 : decode cX15_puts 58 = .ok (.goto 4, 3) := by decide +kernel
theorem dX15_puts_61 : decode cX15_puts 61 = .ok (.iconst 0, 1) := by decide +kernel
theorem dX15_puts_62 : decode cX15_puts 62 = .ok (.istore 6, 2) := by decide +kernel
theorem dX15_puts_64 : decode cX15_puts 64 = .ok (.iconst 0, 1) := by decide +kernel
theorem dX15_puts_65 : decode cX15_puts 65 = .ok (.istore 7, 2) := by decide +kernel
theorem dX15_puts_67 : decode cX15_puts 67 = .ok (.iload 7, 2) := by decide +kernel
theorem dX15_puts_69 : decode cX15_puts 69 = .ok (.aload_n 0, 1) := by decide +kernel
theorem dX15_puts_70 : decode cX15_puts 70 = .ok (.getfield 343, 3) := by decide +kernel
theorem dX15_puts_73 : decode cX15_puts 73 = .ok (.getfield 216, 3) := by decide +kernel
theorem dX15_puts_76 : decode cX15_puts 76 = .ok (.if_icmp .ge 36, 3) := by decide +kernel
theorem dX15_puts_79 : decode cX15_puts 79 = .ok (.iload_n 2, 1) := by decide +kernel
theorem dX15_puts_80 : decode cX15_puts 80 = .ok (.ifCond .ne 32, 3) := by decide +kernel
theorem dX15_puts_83 : decode cX15_puts 83 = .ok (.iload 5, 2) := by decide +kernel
theorem dX15_puts_85 : decode cX15_puts 85 = .ok (.aload_n 0, 1) := by decide +kernel
theorem dX15_puts_86 : decode cX15_puts 86 = .ok (.iload 7, 2) := by decide +kernel
theorem dX15_puts_88 : decode cX15_puts 88 = .ok (.iload_n 3, 1) := by decide +kernel
theorem dX15_puts_89 : decode cX15_puts 89 = .ok (.invokevirtual 404, 3) := by decide +kernel
theorem dX15_puts_92 : decode cX15_puts 92 = .ok (.ifCond .eq 10, 3) := by decide +kernel
theorem dX15_puts_95 : decode cX15_puts 95 = .ok (.iconst 1, 1) := by decide +kernel
theorem dX15_puts_96 : decode cX15_puts 96 = .ok (.iload 7, 2) := by decide +kernel
theorem dX15_puts_98 : decode cX15_puts 98 = .ok (.ishl, 1) := by decide +kernel
theorem dX15_puts_99 : decode cX15_puts 99 = .ok (.goto 4, 3) := by decide +kernel
theorem dX15_puts_102 : decode cX15_puts 102 = .ok (.iconst 0, 1) := by decide +kernel
theorem dX15_puts_103 : decode cX15_puts 103 = .ok (.ior, 1) := by decide +kernel
theorem dX15_puts_104 : decode cX15_puts 104 = .ok (.istore 5, 2) := by decide +kernel
theorem dX15_puts_106 : decode cX15_puts 106 = .ok (.iinc 7 1, 3) := by decide +kernel
theorem dX15_puts_109 : decode cX15_puts 109 = .ok (.goto (-42), 3) := by decide +kernel
theorem dX15_puts_112 : decode cX15_puts 112 = .ok (.iconst 0, 1) := by decide +kernel
theorem dX15_puts_113 : decode cX15_puts 113 = .ok (.istore 7, 2) := by decide +kernel
theorem dX15_puts_115 : decode cX15_puts 115 = .ok (.iload 7, 2) := by decide +kernel
theorem dX15_puts_117 : decode cX15_puts 117 = .ok (.aload_n 0, 1) := by decide +kernel
theorem dX15_puts_118 : decode cX15_puts 118 = .ok (.getfield 343, 3) := by decide +kernel
theorem dX15_puts_121 : decode cX15_puts 121 = .ok (.getfield 292, 3) := by decide +kernel
theorem dX15_puts_124 : decode cX15_puts 124 = .ok (.if_icmp .ge 93, 3) := by decide +kernel
theorem dX15_puts_127 : decode cX15_puts 127 = .ok (.iconst 0, 1) := by decide +kernel
theorem dX15_puts_128 : decode cX15_puts 128 = .ok (.istore 8, 2) := by decide +kernel
theorem dX15_puts_130 : decode cX15_puts 130 = .ok (.iload 8, 2) := by decide +kernel
theorem dX15_puts_132 : decode cX15_puts 132 = .ok (.iload_n 2, 1) := by decide +kernel
theorem dX15_puts_133 : decode cX15_puts 133 = .ok (.if_icmp .ge 78, 3) := by decide +kernel
theorem dX15_puts_136 : decode cX15_puts 136 = .ok (.aload_n 0, 1) := by decide +kernel
theorem dX15_puts_137 : decode cX15_puts 137 = .ok (.getfield 343, 3) := by decide +kernel
theorem dX15_puts_140 : decode cX15_puts 140 = .ok (.getfield 300, 3) := by decide +kernel
theorem dX15_puts_143 : decode cX15_puts 143 = .ok (.iload 7, 2) := by decide +kernel
theorem dX15_puts_145 : decode cX15_puts 145 = .ok (.iaload, 1) := by decide +kernel
theorem dX15_puts_146 : decode cX15_puts 146 = .ok (.iload_n 3, 1) := by decide +kernel
theorem dX15_puts_147 : decode cX15_puts 147 = .ok (.if_icmp .ne 64, 3) := by decide +kernel
theorem dX15_puts_150 : decode cX15_puts 150 = .ok (.iload 5, 2) := by decide +kernel
theorem dX15_puts_152 : decode cX15_puts 152 = .ok (.aload_n 0, 1) := by decide +kernel
theorem dX15_puts_153 : decode cX15_puts 153 = .ok (.getfield 56, 3) := by decide +kernel
theorem dX15_puts_156 : decode cX15_puts 156 = .ok (.bipush 42, 2) := by decide +kernel
theorem dX15_puts_158 : decode cX15_puts 158 = .ok (.iload_n 1, 1) := by decide +kernel
theorem dX15_puts_159 : decode cX15_puts 159 = .ok (.imul, 1) := by decide +kernel
theorem dX15_puts_160 : decode cX15_puts 160 = .ok (.bipush 7, 2) := by decide +kernel
theorem dX15_puts_162 : decode cX15_puts 162 = .ok (.iload 7, 2) := by decide +kernel
theorem dX15_puts_164 : decode cX15_puts 164 = .ok (.imul, 1) := by decide +kernel
theorem dX15_puts_165 : decode cX15_puts 165 = .ok (.iadd, 1) := by decide +kernel
theorem dX15_puts_166 : decode cX15_puts 166 = .ok (.iload 8, 2) := by decide +kernel
theorem dX15_puts_168 : decode cX15_puts 168 = .ok (.iadd, 1) := by decide +kernel
theorem dX15_puts_169 : decode cX15_puts 169 = .ok (.iaload, 1) := by decide +kernel
theorem dX15_puts_170 : decode cX15_puts 170 = .ok (.iload_n 2, 1) := by decide +kernel
theorem dX15_puts_171 : decode cX15_puts 171 = .ok (.if_icmp .ne 30, 3) := by decide +kernel
theorem dX15_puts_174 : decode cX15_puts 174 = .ok (.aload_n 0, 1) := by decide +kernel
theorem dX15_puts_175 : decode cX15_puts 175 = .ok (.iload_n 1, 1) := by decide +kernel
theorem dX15_puts_176 : decode cX15_puts 176 = .ok (.iload 7, 2) := by decide +kernel
theorem dX15_puts_178 : decode cX15_puts 178 = .ok (.iload 8, 2) := by decide +kernel
theorem dX15_puts_180 : decode cX15_puts 180 = .ok (.invokevirtual 477, 3) := by decide +kernel
theorem dX15_puts_183 : decode cX15_puts 183 = .ok (.ifCond .eq 18, 3) := by decide +kernel
theorem dX15_puts_186 : decode cX15_puts 186 = .ok (.iconst 1, 1) := by decide +kernel
theorem dX15_puts_187 : decode cX15_puts 187 = .ok (.aload_n 0, 1) := by decide +kernel
theorem dX15_puts_188 : decode cX15_puts 188 = .ok (.getfield 343, 3) := by decide +kernel
theorem dX15_puts_191 : decode cX15_puts 191 = .ok (.getfield 295, 3) := by decide +kernel
theorem dX15_puts_194 : decode cX15_puts 194 = .ok (.iload 7, 2) := by decide +kernel
theorem dX15_puts_196 : decode cX15_puts 196 = .ok (.iaload, 1) := by decide +kernel
theorem dX15_puts_197 : decode cX15_puts 197 = .ok (.ishl, 1) := by decide +kernel
theorem dX15_puts_198 : decode cX15_puts 198 = .ok (.goto 4, 3) := by decide +kernel
theorem dX15_puts_201 : decode cX15_puts 201 = .ok (.iconst 0, 1) := by decide +kernel
theorem dX15_puts_202 : decode cX15_puts 202 = .ok (.ior, 1) := by decide +kernel
theorem dX15_puts_203 : decode cX15_puts 203 = .ok (.istore 5, 2) := by decide +kernel
theorem dX15_puts_205 : decode cX15_puts 205 = .ok (.iinc 8 1, 3) := by decide +kernel
theorem dX15_puts_208 : decode cX15_puts 208 = .ok (.goto (-78), 3) := by decide +kernel
theorem dX15_puts_211 : decode cX15_puts 211 = .ok (.iinc 7 1, 3) := by decide +kernel
theorem dX15_puts_214 : decode cX15_puts 214 = .ok (.goto (-99), 3) := by decide +kernel
theorem dX15_puts_217 : decode cX15_puts 217 = .ok (.aload_n 0, 1) := by decide +kernel
theorem dX15_puts_218 : decode cX15_puts 218 = .ok (.iload_n 1, 1) := by decide +kernel
theorem dX15_puts_219 : decode cX15_puts 219 = .ok (.iload_n 2, 1) := by decide +kernel
theorem dX15_puts_220 : decode cX15_puts 220 = .ok (.iload_n 3, 1) := by decide +kernel
theorem dX15_puts_221 : decode cX15_puts 221 = .ok (.invokevirtual 407, 3) := by decide +kernel
theorem dX15_puts_224 : decode cX15_puts 224 = .ok (.istore 7, 2) := by decide +kernel
theorem dX15_puts_226 : decode cX15_puts 226 = .ok (.iload 7, 2) := by decide +kernel
theorem dX15_puts_228 : decode cX15_puts 228 = .ok (.iconst (-1), 1) := by decide +kernel
theorem dX15_puts_229 : decode cX15_puts 229 = .ok (.if_icmp .eq 33, 3) := by decide +kernel
theorem dX15_puts_232 : decode cX15_puts 232 = .ok (.iload 5, 2) := by decide +kernel
theorem dX15_puts_234 : decode cX15_puts 234 = .ok (.aload_n 0, 1) := by decide +kernel
theorem dX15_puts_235 : decode cX15_puts 235 = .ok (.iload_n 1, 1) := by decide +kernel
theorem dX15_puts_236 : decode cX15_puts 236 = .ok (.iload 7, 2) := by decide +kernel
theorem dX15_puts_238 : decode cX15_puts 238 = .ok (.iload_n 3, 1) := by decide +kernel
theorem dX15_puts_239 : decode cX15_puts 239 = .ok (.invokevirtual 394, 3) := by decide +kernel
theorem dX15_puts_242 : decode cX15_puts 242 = .ok (.aload_n 0, 1) := by decide +kernel
theorem dX15_puts_243 : decode cX15_puts 243 = .ok (.getfield 364, 3) := by decide +kernel
theorem dX15_puts_246 : decode cX15_puts 246 = .ok (.iand, 1) := by decide +kernel
theorem dX15_puts_247 : decode cX15_puts 247 = .ok (.aload_n 0, 1) := by decide +kernel
theorem dX15_puts_248 : decode cX15_puts 248 = .ok (.getfield 69, 3) := by decide +kernel
theorem dX15_puts_251 : decode cX15_puts 251 = .ok (.iconst 4, 1) := by decide +kernel
theorem dX15_puts_252 : decode cX15_puts 252 = .ok (.iload 7, 2) := by decide +kernel
theorem dX15_puts_254 : decode cX15_puts 254 = .ok (.imul, 1) := by decide +kernel
theorem dX15_puts_255 : decode cX15_puts 255 = .ok (.iload_n 3, 1) := by decide +kernel
theorem dX15_puts_256 : decode cX15_puts 256 = .ok (.iadd, 1) := by decide +kernel
theorem dX15_puts_257 : decode cX15_puts 257 = .ok (.iaload, 1) := by decide +kernel
theorem dX15_puts_258 : decode cX15_puts 258 = .ok (.iand, 1) := by decide +kernel
theorem dX15_puts_259 : decode cX15_puts 259 = .ok (.ior, 1) := by decide +kernel
theorem dX15_puts_260 : decode cX15_puts 260 = .ok (.istore 5, 2) := by decide +kernel
theorem dX15_puts_262 : decode cX15_puts 262 = .ok (.iconst 0, 1) := by decide +kernel
theorem dX15_puts_263 : decode cX15_puts 263 = .ok (.istore 8, 2) := by decide +kernel
theorem dX15_puts_265 : decode cX15_puts 265 = .ok (.iload 8, 2) := by decide +kernel
theorem dX15_puts_267 : decode cX15_puts 267 = .ok (.aload_n 0, 1) := by decide +kernel
theorem dX15_puts_268 : decode cX15_puts 268 = .ok (.getfield 343, 3) := by decide +kernel
theorem dX15_puts_271 : decode cX15_puts 271 = .ok (.getfield 273, 3) := by decide +kernel
theorem dX15_puts_274 : decode cX15_puts 274 = .ok (.if_icmp .ge 98, 3) := by decide +kernel
theorem dX15_puts_277 : decode cX15_puts 277 = .ok (.iload_n 2, 1) := by decide +kernel
theorem dX15_puts_278 : decode cX15_puts 278 = .ok (.ifCond .le 94, 3) := by decide +kernel
theorem dX15_puts_281 : decode cX15_puts 281 = .ok (.iload 5, 2) := by decide +kernel
theorem dX15_puts_283 : decode cX15_puts 283 = .ok (.aload_n 0, 1) := by decide +kernel
theorem dX15_puts_284 : decode cX15_puts 284 = .ok (.getfield 343, 3) := by decide +kernel
theorem dX15_puts_287 : decode cX15_puts 287 = .ok (.getfield 279, 3) := by decide +kernel
theorem dX15_puts_290 : decode cX15_puts 290 = .ok (.iload 8, 2) := by decide +kernel
theorem dX15_puts_292 : decode cX15_puts 292 = .ok (.baload, 1) := by decide +kernel
theorem dX15_puts_293 : decode cX15_puts 293 = .ok (.ifCond .ne 69, 3) := by decide +kernel
theorem dX15_puts_296 : decode cX15_puts 296 = .ok (.aload_n 0, 1) := by decide +kernel
theorem dX15_puts_297 : decode cX15_puts 297 = .ok (.iload 8, 2) := by decide +kernel
theorem dX15_puts_299 : decode cX15_puts 299 = .ok (.iload_n 3, 1) := by decide +kernel
theorem dX15_puts_300 : decode cX15_puts 300 = .ok (.invokevirtual 410, 3) := by decide +kernel
theorem dX15_puts_303 : decode cX15_puts 303 = .ok (.ifCond .eq 59, 3) := by decide +kernel
theorem dX15_puts_306 : decode cX15_puts 306 = .ok (.aload_n 0, 1) := by decide +kernel
theorem dX15_puts_307 : decode cX15_puts 307 = .ok (.iload_n 1, 1) := by decide +kernel
theorem dX15_puts_308 : decode cX15_puts 308 = .ok (.iload 8, 2) := by decide +kernel
theorem dX15_puts_310 : decode cX15_puts 310 = .ok (.iload_n 2, 1) := by decide +kernel
theorem dX15_puts_311 : decode cX15_puts 311 = .ok (.iconst 1, 1) := by decide +kernel
theorem dX15_puts_312 : decode cX15_puts 312 = .ok (.isub, 1) := by decide +kernel
theorem dX15_puts_313 : decode cX15_puts 313 = .ok (.iload_n 3, 1) := by decide +kernel
theorem dX15_puts_314 : decode cX15_puts 314 = .ok (.invokevirtual 413, 3) := by decide +kernel
theorem dX15_puts_317 : decode cX15_puts 317 = .ok (.ifCond .eq 45, 3) := by decide +kernel
theorem dX15_puts_320 : decode cX15_puts 320 = .ok (.aload_n 0, 1) := by decide +kernel
theorem dX15_puts_321 : decode cX15_puts 321 = .ok (.getfield 47, 3) := by decide +kernel
theorem dX15_puts_324 : decode cX15_puts 324 = .ok (.iload_n 2, 1) := by decide +kernel
theorem dX15_puts_325 : decode cX15_puts 325 = .ok (.iconst 1, 1) := by decide +kernel
theorem dX15_puts_326 : decode cX15_puts 326 = .ok (.isub, 1) := by decide +kernel
theorem dX15_puts_327 : decode cX15_puts 327 = .ok (.iload_n 3, 1) := by decide +kernel
theorem dX15_puts_328 : decode cX15_puts 328 = .ok (.invokevirtual 472, 3) := by decide +kernel
theorem dX15_puts_331 : decode cX15_puts 331 = .ok (.ifCond .ne 31, 3) := by decide +kernel
theorem dX15_puts_334 : decode cX15_puts 334 = .ok (.aload_n 0, 1) := by decide +kernel
theorem dX15_puts_335 : decode cX15_puts 335 = .ok (.iload 8, 2) := by decide +kernel
theorem dX15_puts_337 : decode cX15_puts 337 = .ok (.iload_n 2, 1) := by decide +kernel
theorem dX15_puts_338 : decode cX15_puts 338 = .ok (.iconst 1, 1) := by decide +kernel
theorem dX15_puts_339 : decode cX15_puts 339 = .ok (.isub, 1) := by decide +kernel
theorem dX15_puts_340 : decode cX15_puts 340 = .ok (.iload_n 3, 1) := by decide +kernel
theorem dX15_puts_341 : decode cX15_puts 341 = .ok (.invokevirtual 474, 3) := by decide +kernel
theorem dX15_puts_344 : decode cX15_puts 344 = .ok (.ifCond .eq 18, 3) := by decide +kernel
theorem dX15_puts_347 : decode cX15_puts 347 = .ok (.iconst 1, 1) := by decide +kernel
theorem dX15_puts_348 : decode cX15_puts 348 = .ok (.aload_n 0, 1) := by decide +kernel
theorem dX15_puts_349 : decode cX15_puts 349 = .ok (.getfield 343, 3) := by decide +kernel
theorem dX15_puts_352 : decode cX15_puts 352 = .ok (.getfield 276, 3) := by decide +kernel
theorem dX15_puts_355 : decode cX15_puts 355 = .ok (.iload 8, 2) := by decide +kernel
theorem dX15_puts_357 : decode cX15_puts 357 = .ok (.iaload, 1) := by decide +kernel
theorem dX15_puts_358 : decode cX15_puts 358 = .ok (.ishl, 1) := by decide +kernel
theorem dX15_puts_359 : decode cX15_puts 359 = .ok (.goto 4, 3) := by decide +kernel
theorem dX15_puts_362 : decode cX15_puts 362 = .ok (.iconst 0, 1) := by decide +kernel
theorem dX15_puts_363 : decode cX15_puts 363 = .ok (.ior, 1) := by decide +kernel
theorem dX15_puts_364 : decode cX15_puts 364 = .ok (.istore 5, 2) := by decide +kernel
theorem dX15_puts_366 : decode cX15_puts 366 = .ok (.iinc 8 1, 3) := by decide +kernel
theorem dX15_puts_369 : decode cX15_puts 369 = .ok (.goto (-104), 3) := by decide +kernel
theorem dX15_puts_372 : decode cX15_puts 372 = .ok (.aload_n 0, 1) := by decide +kernel
theorem dX15_puts_373 : decode cX15_puts 373 = .ok (.getfield 69, 3) := by decide +kernel
theorem dX15_puts_376 : decode cX15_puts 376 = .ok (.iconst 4, 1) := by decide +kernel
theorem dX15_puts_377 : decode cX15_puts 377 = .ok (.iload_n 2, 1) := by decide +kernel
theorem dX15_puts_378 : decode cX15_puts 378 = .ok (.imul, 1) := by decide +kernel
theorem dX15_puts_379 : decode cX15_puts 379 = .ok (.iload_n 3, 1) := by decide +kernel
theorem dX15_puts_380 : decode cX15_puts 380 = .ok (.iadd, 1) := by decide +kernel
theorem dX15_puts_381 : decode cX15_puts 381 = .ok (.iload 6, 2) := by decide +kernel
theorem dX15_puts_383 : decode cX15_puts 383 = .ok (.ifCond .eq 7, 3) := by decide +kernel
theorem dX15_puts_386 : decode cX15_puts 386 = .ok (.iconst 0, 1) := by decide +kernel
theorem dX15_puts_387 : decode cX15_puts 387 = .ok (.goto 16, 3) := by decide +kernel
theorem dX15_puts_390 : decode cX15_puts 390 = .ok (.aload_n 0, 1) := by decide +kernel
theorem dX15_puts_391 : decode cX15_puts 391 = .ok (.iload 5, 2) := by decide +kernel
theorem dX15_puts_393 : decode cX15_puts 393 = .ok (.iload 4, 2) := by decide +kernel
theorem dX15_puts_395 : decode cX15_puts 395 = .ok (.iand, 1) := by decide +kernel
theorem dX15_puts_396 : decode cX15_puts 396 = .ok (.iload_n 3, 1) := by decide +kernel
theorem dX15_puts_397 : decode cX15_puts 397 = .ok (.invokevirtual 423, 3) := by decide +kernel
theorem dX15_puts_400 : decode cX15_puts 400 = .ok (.iload 4, 2) := by decide +kernel
theorem dX15_puts_402 : decode cX15_puts 402 = .ok (.iand, 1) := by decide +kernel
theorem dX15_puts_403 : decode cX15_puts 403 = .ok (.iastore, 1) := by decide +kernel
theorem dX15_puts_404 : decode cX15_puts 404 = .ok (.iinc 3 1, 3) := by decide +kernel
theorem dX15_puts_407 : decode cX15_puts 407 = .ok (.goto (-395), 3) := by decide +kernel
theorem dX15_puts_410 : decode cX15_puts 410 = .ok (.iinc 2 1, 3) := by decide +kernel
theorem dX15_puts_413 : decode cX15_puts 413 = .ok (.goto (-411), 3) := by decide +kernel
theorem dX15_puts_416 : decode cX15_puts 416 = .ok (.return_, 1) := by decide +kernel
theorem dX15_isSpoilt_0 : decode cX15_isSpoilt 0 = .ok (.aload_n 0, 1) := by decide +kernel
theorem dX15_isSpoilt_1 : decode cX15_isSpoilt 1 = .ok (.iload_n 1, 1) := by decide +kernel
theorem dX15_isSpoilt_2 : decode cX15_isSpoilt 2 = .ok (.invokevirtual 480, 3) := by decide +kernel
theorem dX15_isSpoilt_5 : decode cX15_isSpoilt 5 = .ok (.iconst 0, 1) := by decide +kernel
theorem dX15_isSpoilt_6 : decode cX15_isSpoilt 6 = .ok (.istore_n 2, 1) := by decide +kernel
theorem dX15_isSpoilt_7 : decode cX15_isSpoilt 7 = .ok (.iload_n 2, 1) := by decide +kernel
theorem dX15_isSpoilt_8 : decode cX15_isSpoilt 8 = .ok (.aload_n 0, 1) := by decide +kernel
theorem dX15_isSpoilt_9 : decode cX15_isSpoilt 9 = .ok (.getfield 343, 3) := by decide +kernel
theorem dX15_isSpoilt_12 : decode cX15_isSpoilt 12 = .ok (.getfield 327, 3) := by decide +kernel
theorem dX15_isSpoilt_15 : decode cX15_isSpoilt 15 = .ok (.if_icmp .ge 77, 3) := by decide +kernel
theorem dX15_isSpoilt_18 : decode cX15_isSpoilt 18 = .ok (.aload_n 0, 1) := by decide +kernel
theorem dX15_isSpoilt_19 : decode cX15_isSpoilt 19 = .ok (.iload_n 1, 1) := by decide +kernel
theorem dX15_isSpoilt_20 : decode cX15_isSpoilt 20 = .ok (.aload_n 0, 1) := by decide +kernel
theorem dX15_isSpoilt_21 : decode cX15_isSpoilt 21 = .ok (.getfield 343, 3) := by decide +kernel
theorem dX15_isSpoilt_24 : decode cX15_isSpoilt 24 = .ok (.getfield 321, 3) := by decide +kernel
theorem dX15_isSpoilt_27 : decode cX15_isSpoilt 27 = .ok (.iload_n 2, 1) := by decide +kernel
theorem dX15_isSpoilt_28 : decode cX15_isSpoilt 28 = .ok (.iaload, 1) := by decide +kernel
theorem dX15_isSpoilt_29 : decode cX15_isSpoilt 29 = .ok (.aload_n 0, 1) := by decide +kernel
theorem dX15_isSpoilt_30 : decode cX15_isSpoilt 30 = .ok (.getfield 343, 3) := by decide +kernel
theorem dX15_isSpoilt_33 : decode cX15_isSpoilt 33 = .ok (.getfield 324, 3) := by decide +kernel
theorem dX15_isSpoilt_36 : decode cX15_isSpoilt 36 = .ok (.iload_n 2, 1) := by decide +kernel
theorem dX15_isSpoilt_37 : decode cX15_isSpoilt 37 = .ok (.iaload, 1) := by decide +kernel
theorem dX15_isSpoilt_38 : decode cX15_isSpoilt 38 = .ok (.aload_n 0, 1) := by decide +kernel
theorem dX15_isSpoilt_39 : decode cX15_isSpoilt 39 = .ok (.getfield 24, 3) := by decide +kernel
theorem dX15_isSpoilt_42 : decode cX15_isSpoilt 42 = .ok (.invokevirtual 436, 3) := by decide +kernel
theorem dX15_isSpoilt_45 : decode cX15_isSpoilt 45 = .ok (.ifCond .eq 41, 3) := by decide +kernel
theorem dX15_isSpoilt_48 : decode cX15_isSpoilt 48 = .ok (.aload_n 0, 1) := by decide +kernel
theorem dX15_isSpoilt_49 : decode cX15_isSpoilt 49 = .ok (.getfield 69, 3) := by decide +kernel
theorem dX15_isSpoilt_52 : decode cX15_isSpoilt 52 = .ok (.iconst 4, 1) := by decide +kernel
theorem dX15_isSpoilt_53 : decode cX15_isSpoilt 53 = .ok (.aload_n 0, 1) := by decide +kernel
theorem dX15_isSpoilt_54 : decode cX15_isSpoilt 54 = .ok (.getfield 24, 3) := by decide +kernel
theorem dX15_isSpoilt_57 : decode cX15_isSpoilt 57 = .ok (.imul, 1) := by decide +kernel
theorem dX15_isSpoilt_58 : decode cX15_isSpoilt 58 = .ok (.aload_n 0, 1) := by decide +kernel
theorem dX15_isSpoilt_59 : decode cX15_isSpoilt 59 = .ok (.getfield 343, 3) := by decide +kernel
theorem dX15_isSpoilt_62 : decode cX15_isSpoilt 62 = .ok (.getfield 324, 3) := by decide +kernel
theorem dX15_isSpoilt_65 : decode cX15_isSpoilt 65 = .ok (.iload_n 2, 1) := by decide +kernel
theorem dX15_isSpoilt_66 : decode cX15_isSpoilt 66 = .ok (.iaload, 1) := by decide +kernel
theorem dX15_isSpoilt_67 : decode cX15_isSpoilt 67 = .ok (.iadd, 1) := by decide +kernel
theorem dX15_isSpoilt_68 : decode cX15_isSpoilt 68 = .ok (.iaload, 1) := by decide +kernel
theorem dX15_isSpoilt_69 : decode cX15_isSpoilt 69 = .ok (.aload_n 0, 1) := by decide +kernel
theorem dX15_isSpoilt_70 : decode cX15_isSpoilt 70 = .ok (.getfield 343, 3) := by decide +kernel
theorem dX15_isSpoilt_73 : decode cX15_isSpoilt 73 = .ok (.getfield 321, 3) := by decide +kernel
theorem dX15_isSpoilt_76 : decode cX15_isSpoilt 76 = .ok (.iload_n 2, 1) := by decide +kernel
theorem dX15_isSpoilt_77 : decode cX15_isSpoilt 77 = .ok (.iaload, 1) := by decide +kernel
theorem dX15_isSpoilt_78 : decode cX15_isSpoilt 78 = .ok (.invokestatic 390, 3) := by decide +kernel
theorem dX15_isSpoilt_81 : decode cX15_isSpoilt 81 = .ok (.ifCond .eq 5, 3) := by decide +kernel
theorem dX15_isSpoilt_84 : decode cX15_isSpoilt 84 = .ok (.iconst 0, 1) := by decide +kernel
theorem dX15_isSpoilt_85 : decode cX15_isSpoilt 85 = .ok (.ireturn, 1) := by decide +kernel
theorem dX15_isSpoilt_86 : decode cX15_isSpoilt 86 = .ok (.iinc 2 1, 3) := by decide +kernel
theorem dX15_isSpoilt_89 : decode cX15_isSpoilt 89 = .ok (.goto (-82), 3) := by decide +kernel
theorem dX15_isSpoilt_92 : decode cX15_isSpoilt 92 = .ok (.iconst 1, 1) := by decide +kernel
theorem dX15_isSpoilt_93 : decode cX15_isSpoilt 93 = .ok (.ireturn, 1) := by decide +kernel
theorem dX15_spoils_0 : decode cX15_spoils 0 = .ok (.aload_n 0, 1) := by decide +kernel
theorem dX15_spoils_1 : decode cX15_spoils 1 = .ok (.iconst 0, 1) := by decide +kernel
theorem dX15_spoils_2 : decode cX15_spoils 2 = .ok (.putfield 108, 3) := by decide +kernel
theorem dX15_spoils_5 : decode cX15_spoils 5 = .ok (.aload_n 0, 1) := by decide +kernel
theorem dX15_spoils_6 : decode cX15_spoils 6 = .ok (.getfield 343, 3) := by decide +kernel
theorem dX15_spoils_9 : decode cX15_spoils 9 = .ok (.ifnonnull 9, 3) := by decide +kernel
theorem dX15_spoils_12 : decode cX15_spoils 12 = .ok (.aload_n 0, 1) := by decide +kernel
theorem dX15_spoils_13 : decode cX15_spoils 13 = .ok (.iconst 1, 1) := by decide +kernel
theorem dX15_spoils_14 : decode cX15_spoils 14 = .ok (.invokevirtual 333, 3) := by decide +kernel
theorem dX15_spoils_17 : decode cX15_spoils 17 = .ok (.ireturn, 1) := by decide +kernel
theorem dX15_spoils_18 : decode cX15_spoils 18 = .ok (.aload_n 0, 1) := by decide +kernel
theorem dX15_spoils_19 : decode cX15_spoils 19 = .ok (.iconst 1, 1) := by decide +kernel
theorem dX15_spoils_20 : decode cX15_spoils 20 = .ok (.aload_n 0, 1) := by decide +kernel
theorem dX15_spoils_21 : decode cX15_spoils 21 = .ok (.getfield 31, 3) := by decide +kernel
theorem dX15_spoils_24 : decode cX15_spoils 24 = .ok (.iconst 0, 1) := by decide +kernel
theorem dX15_spoils_25 : decode cX15_spoils 25 = .ok (.iconst 0, 1) := by decide +kernel
theorem dX15_spoils_26 : decode cX15_spoils 26 = .ok (.invokevirtual 450, 3) := by decide +kernel
theorem dX15_spoils_29 : decode cX15_spoils 29 = .ok (.iconst 2, 1) := by decide +kernel
theorem dX15_spoils_30 : decode cX15_spoils 30 = .ok (.if_icmp .ne 9, 3) := by decide +kernel
theorem dX15_spoils_33 : decode cX15_spoils 33 = .ok (.aload_n 0, 1) := by decide +kernel
theorem dX15_spoils_34 : decode cX15_spoils 34 = .ok (.iconst 5, 1) := by decide +kernel
theorem dX15_spoils_35 : decode cX15_spoils 35 = .ok (.invokevirtual 333, 3) := by decide +kernel
theorem dX15_spoils_38 : decode cX15_spoils 38 = .ok (.ireturn, 1) := by decide +kernel
theorem dX15_spoils_39 : decode cX15_spoils 39 = .ok (.aload_n 0, 1) := by decide +kernel
theorem dX15_spoils_40 : decode cX15_spoils 40 = .ok (.getfield 47, 3) := by decide +kernel
theorem dX15_spoils_43 : decode cX15_spoils 43 = .ok (.aload_n 0, 1) := by decide +kernel
theorem dX15_spoils_44 : decode cX15_spoils 44 = .ok (.getfield 31, 3) := by decide +kernel
theorem dX15_spoils_47 : decode cX15_spoils 47 = .ok (.iconst 0, 1) := by decide +kernel
theorem dX15_spoils_48 : decode cX15_spoils 48 = .ok (.aload_n 0, 1) := by decide +kernel
theorem dX15_spoils_49 : decode cX15_spoils 49 = .ok (.getfield 349, 3) := by decide +kernel
theorem dX15_spoils_52 : decode cX15_spoils 52 = .ok (.invokevirtual 439, 3) := by decide +kernel
theorem dX15_spoils_55 : decode cX15_spoils 55 = .ok (.aload_n 0, 1) := by decide +kernel
theorem dX15_spoils_56 : decode cX15_spoils 56 = .ok (.aload_n 0, 1) := by decide +kernel
theorem dX15_spoils_57 : decode cX15_spoils 57 = .ok (.iconst 1, 1) := by decide +kernel
theorem dX15_spoils_58 : decode cX15_spoils 58 = .ok (.invokevirtual 483, 3) := by decide +kernel
theorem dX15_spoils_61 : decode cX15_spoils 61 = .ok (.ifCond .eq 7, 3) := by decide +kernel
theorem dX15_spoils_64 : decode cX15_spoils 64 = .ok (.iconst 1, 1) := by decide +kernel
theorem dX15_spoils_65 : decode cX15_spoils 65 = .ok (.goto 4, 3) := by decide +kernel
theorem dX15_spoils_68 : decode cX15_spoils 68 = .ok (.iconst 0, 1) := by decide +kernel
theorem dX15_spoils_69 : decode cX15_spoils 69 = .ok (.invokevirtual 371, 3) := by decide +kernel
theorem dX15_spoils_72 : decode cX15_spoils 72 = .ok (.ireturn, 1) := by decide +kernel
theorem dX15_stands_0 : decode cX15_stands 0 = .ok (.aload_n 0, 1) := by decide +kernel
theorem dX15_stands_1 : decode cX15_stands 1 = .ok (.iconst 0, 1) := by decide +kernel
theorem dX15_stands_2 : decode cX15_stands 2 = .ok (.putfield 108, 3) := by decide +kernel
theorem dX15_stands_5 : decode cX15_stands 5 = .ok (.aload_n 0, 1) := by decide +kernel
theorem dX15_stands_6 : decode cX15_stands 6 = .ok (.iload_n 1, 1) := by decide +kernel
theorem dX15_stands_7 : decode cX15_stands 7 = .ok (.invokevirtual 454, 3) := by decide +kernel
theorem dX15_stands_10 : decode cX15_stands 10 = .ok (.ifCond .eq 11, 3) := by decide +kernel
theorem dX15_stands_13 : decode cX15_stands 13 = .ok (.aload_n 0, 1) := by decide +kernel
theorem dX15_stands_14 : decode cX15_stands 14 = .ok (.iload_n 2, 1) := by decide +kernel
theorem dX15_stands_15 : decode cX15_stands 15 = .ok (.invokevirtual 456, 3) := by decide +kernel
theorem dX15_stands_18 : decode cX15_stands 18 = .ok (.ifCond .ne 9, 3) := by decide +kernel
theorem dX15_stands_21 : decode cX15_stands 21 = .ok (.aload_n 0, 1) := by decide +kernel
theorem dX15_stands_22 : decode cX15_stands 22 = .ok (.iconst 1, 1) := by decide +kernel
theorem dX15_stands_23 : decode cX15_stands 23 = .ok (.invokevirtual 333, 3) := by decide +kernel
theorem dX15_stands_26 : decode cX15_stands 26 = .ok (.ireturn, 1) := by decide +kernel
theorem dX15_stands_27 : decode cX15_stands 27 = .ok (.iload_n 3, 1) := by decide +kernel
theorem dX15_stands_28 : decode cX15_stands 28 = .ok (.iconst 0, 1) := by decide +kernel
theorem dX15_stands_29 : decode cX15_stands 29 = .ok (.aload_n 0, 1) := by decide +kernel
theorem dX15_stands_30 : decode cX15_stands 30 = .ok (.getfield 24, 3) := by decide +kernel
theorem dX15_stands_33 : decode cX15_stands 33 = .ok (.invokestatic 377, 3) := by decide +kernel
theorem dX15_stands_36 : decode cX15_stands 36 = .ok (.ifCond .ne 9, 3) := by decide +kernel
theorem dX15_stands_39 : decode cX15_stands 39 = .ok (.aload_n 0, 1) := by decide +kernel
theorem dX15_stands_40 : decode cX15_stands 40 = .ok (.iconst 2, 1) := by decide +kernel
theorem dX15_stands_41 : decode cX15_stands 41 = .ok (.invokevirtual 333, 3) := by decide +kernel
theorem dX15_stands_44 : decode cX15_stands 44 = .ok (.ireturn, 1) := by decide +kernel
theorem dX15_stands_45 : decode cX15_stands 45 = .ok (.aload_n 0, 1) := by decide +kernel
theorem dX15_stands_46 : decode cX15_stands 46 = .ok (.iconst 1, 1) := by decide +kernel
theorem dX15_stands_47 : decode cX15_stands 47 = .ok (.aload_n 0, 1) := by decide +kernel
theorem dX15_stands_48 : decode cX15_stands 48 = .ok (.getfield 31, 3) := by decide +kernel
theorem dX15_stands_51 : decode cX15_stands 51 = .ok (.iconst 0, 1) := by decide +kernel
theorem dX15_stands_52 : decode cX15_stands 52 = .ok (.iconst 0, 1) := by decide +kernel
theorem dX15_stands_53 : decode cX15_stands 53 = .ok (.invokevirtual 450, 3) := by decide +kernel
theorem dX15_stands_56 : decode cX15_stands 56 = .ok (.istore 4, 2) := by decide +kernel
theorem dX15_stands_58 : decode cX15_stands 58 = .ok (.aload_n 0, 1) := by decide +kernel
theorem dX15_stands_59 : decode cX15_stands 59 = .ok (.iconst 1, 1) := by decide +kernel
theorem dX15_stands_60 : decode cX15_stands 60 = .ok (.iload_n 1, 1) := by decide +kernel
theorem dX15_stands_61 : decode cX15_stands 61 = .ok (.iload_n 2, 1) := by decide +kernel
theorem dX15_stands_62 : decode cX15_stands 62 = .ok (.iload_n 3, 1) := by decide +kernel
theorem dX15_stands_63 : decode cX15_stands 63 = .ok (.invokevirtual 436, 3) := by decide +kernel
theorem dX15_stands_66 : decode cX15_stands 66 = .ok (.ifCond .ne 9, 3) := by decide +kernel
theorem dX15_stands_69 : decode cX15_stands 69 = .ok (.aload_n 0, 1) := by decide +kernel
theorem dX15_stands_70 : decode cX15_stands 70 = .ok (.iconst 5, 1) := by decide +kernel
theorem dX15_stands_71 : decode cX15_stands 71 = .ok (.invokevirtual 333, 3) := by decide +kernel
theorem dX15_stands_74 : decode cX15_stands 74 = .ok (.ireturn, 1) := by decide +kernel
theorem dX15_stands_75 : decode cX15_stands 75 = .ok (.aload_n 0, 1) := by decide +kernel
theorem dX15_stands_76 : decode cX15_stands 76 = .ok (.getfield 47, 3) := by decide +kernel
theorem dX15_stands_79 : decode cX15_stands 79 = .ok (.aload_n 0, 1) := by decide +kernel
theorem dX15_stands_80 : decode cX15_stands 80 = .ok (.getfield 31, 3) := by decide +kernel
theorem dX15_stands_83 : decode cX15_stands 83 = .ok (.iconst 0, 1) := by decide +kernel
theorem dX15_stands_84 : decode cX15_stands 84 = .ok (.aload_n 0, 1) := by decide +kernel
theorem dX15_stands_85 : decode cX15_stands 85 = .ok (.getfield 349, 3) := by decide +kernel
theorem dX15_stands_88 : decode cX15_stands 88 = .ok (.invokevirtual 439, 3) := by decide +kernel
theorem dX15_stands_91 : decode cX15_stands 91 = .ok (.aload_n 0, 1) := by decide +kernel
theorem dX15_stands_92 : decode cX15_stands 92 = .ok (.iconst 1, 1) := by decide +kernel
theorem dX15_stands_93 : decode cX15_stands 93 = .ok (.invokevirtual 480, 3) := by decide +kernel
theorem dX15_stands_96 : decode cX15_stands 96 = .ok (.aload_n 0, 1) := by decide +kernel
theorem dX15_stands_97 : decode cX15_stands 97 = .ok (.aload_n 0, 1) := by decide +kernel
theorem dX15_stands_98 : decode cX15_stands 98 = .ok (.getfield 69, 3) := by decide +kernel
theorem dX15_stands_101 : decode cX15_stands 101 = .ok (.iconst 4, 1) := by decide +kernel
theorem dX15_stands_102 : decode cX15_stands 102 = .ok (.iload_n 3, 1) := by decide +kernel
theorem dX15_stands_103 : decode cX15_stands 103 = .ok (.imul, 1) := by decide +kernel
theorem dX15_stands_104 : decode cX15_stands 104 = .ok (.iload_n 2, 1) := by decide +kernel
theorem dX15_stands_105 : decode cX15_stands 105 = .ok (.iadd, 1) := by decide +kernel
theorem dX15_stands_106 : decode cX15_stands 106 = .ok (.iaload, 1) := by decide +kernel
theorem dX15_stands_107 : decode cX15_stands 107 = .ok (.iload_n 1, 1) := by decide +kernel
theorem dX15_stands_108 : decode cX15_stands 108 = .ok (.invokestatic 390, 3) := by decide +kernel
theorem dX15_stands_111 : decode cX15_stands 111 = .ok (.ifCond .eq 7, 3) := by decide +kernel
theorem dX15_stands_114 : decode cX15_stands 114 = .ok (.iconst 1, 1) := by decide +kernel
theorem dX15_stands_115 : decode cX15_stands 115 = .ok (.goto 4, 3) := by decide +kernel
theorem dX15_stands_118 : decode cX15_stands 118 = .ok (.iconst 0, 1) := by decide +kernel
theorem dX15_stands_119 : decode cX15_stands 119 = .ok (.invokevirtual 371, 3) := by decide +kernel
theorem dX15_stands_122 : decode cX15_stands 122 = .ok (.ireturn, 1) := by decide +kernel
theorem dX15_allFalls_0 : decode cX15_allFalls 0 = .ok (.aload_n 0, 1) := by decide +kernel
theorem dX15_allFalls_1 : decode cX15_allFalls 1 = .ok (.iconst 0, 1) := by decide +kernel
theorem dX15_allFalls_2 : decode cX15_allFalls 2 = .ok (.putfield 486, 3) := by decide +kernel
theorem dX15_allFalls_5 : decode cX15_allFalls 5 = .ok (.iconst 0, 1) := by decide +kernel
theorem dX15_allFalls_6 : decode cX15_allFalls 6 = .ok (.istore_n 1, 1) := by decide +kernel
theorem dX15_allFalls_7 : decode cX15_allFalls 7 = .ok (.iload_n 1, 1) := by decide +kernel
theorem dX15_allFalls_8 : decode cX15_allFalls 8 = .ok (.iconst 4, 1) := by decide +kernel
theorem dX15_allFalls_9 : decode cX15_allFalls 9 = .ok (.if_icmp .ge 81, 3) := by decide +kernel
theorem dX15_allFalls_12 : decode cX15_allFalls 12 = .ok (.iconst 0, 1) := by decide +kernel
theorem dX15_allFalls_13 : decode cX15_allFalls 13 = .ok (.istore_n 2, 1) := by decide +kernel
theorem dX15_allFalls_14 : decode cX15_allFalls 14 = .ok (.iload_n 2, 1) := by decide +kernel
theorem dX15_allFalls_15 : decode cX15_allFalls 15 = .ok (.aload_n 0, 1) := by decide +kernel
theorem dX15_allFalls_16 : decode cX15_allFalls 16 = .ok (.iload_n 1, 1) := by decide +kernel
theorem dX15_allFalls_17 : decode cX15_allFalls 17 = .ok (.invokevirtual 387, 3) := by decide +kernel
theorem dX15_allFalls_20 : decode cX15_allFalls 20 = .ok (.if_icmp .ge 64, 3) := by decide +kernel
theorem dX15_allFalls_23 : decode cX15_allFalls 23 = .ok (.aload_n 0, 1) := by decide +kernel
theorem dX15_allFalls_24 : decode cX15_allFalls 24 = .ok (.getfield 27, 3) := by decide +kernel
theorem dX15_allFalls_27 : decode cX15_allFalls 27 = .ok (.iload_n 1, 1) := by decide +kernel
theorem dX15_allFalls_28 : decode cX15_allFalls 28 = .ok (.iaload, 1) := by decide +kernel
theorem dX15_allFalls_29 : decode cX15_allFalls 29 = .ok (.ifCond .le 55, 3) := by decide +kernel
theorem dX15_allFalls_32 : decode cX15_allFalls 32 = .ok (.iconst 0, 1) := by decide +kernel
theorem dX15_allFalls_33 : decode cX15_allFalls 33 = .ok (.istore_n 3, 1) := by decide +kernel
theorem dX15_allFalls_34 : decode cX15_allFalls 34 = .ok (.iload_n 3, 1) := by decide +kernel
theorem dX15_allFalls_35 : decode cX15_allFalls 35 = .ok (.aload_n 0, 1) := by decide +kernel
theorem dX15_allFalls_36 : decode cX15_allFalls 36 = .ok (.getfield 24, 3) := by decide +kernel
theorem dX15_allFalls_39 : decode cX15_allFalls 39 = .ok (.if_icmp .ge 39, 3) := by decide +kernel
theorem dX15_allFalls_42 : decode cX15_allFalls 42 = .ok (.aload_n 0, 1) := by decide +kernel
theorem dX15_allFalls_43 : decode cX15_allFalls 43 = .ok (.getfield 72, 3) := by decide +kernel
theorem dX15_allFalls_46 : decode cX15_allFalls 46 = .ok (.aload_n 0, 1) := by decide +kernel
theorem dX15_allFalls_47 : decode cX15_allFalls 47 = .ok (.getfield 486, 3) := by decide +kernel
theorem dX15_allFalls_50 : decode cX15_allFalls 50 = .ok (.bipush 100, 2) := by decide +kernel
theorem dX15_allFalls_52 : decode cX15_allFalls 52 = .ok (.iload_n 1, 1) := by decide +kernel
theorem dX15_allFalls_53 : decode cX15_allFalls 53 = .ok (.imul, 1) := by decide +kernel
theorem dX15_allFalls_54 : decode cX15_allFalls 54 = .ok (.bipush 10, 2) := by decide +kernel
theorem dX15_allFalls_56 : decode cX15_allFalls 56 = .ok (.iload_n 2, 1) := by decide +kernel
theorem dX15_allFalls_57 : decode cX15_allFalls 57 = .ok (.imul, 1) := by decide +kernel
theorem dX15_allFalls_58 : decode cX15_allFalls 58 = .ok (.iadd, 1) := by decide +kernel
theorem dX15_allFalls_59 : decode cX15_allFalls 59 = .ok (.iload_n 3, 1) := by decide +kernel
theorem dX15_allFalls_60 : decode cX15_allFalls 60 = .ok (.iadd, 1) := by decide +kernel
theorem dX15_allFalls_61 : decode cX15_allFalls 61 = .ok (.iastore, 1) := by decide +kernel
theorem dX15_allFalls_62 : decode cX15_allFalls 62 = .ok (.aload_n 0, 1) := by decide +kernel
theorem dX15_allFalls_63 : decode cX15_allFalls 63 = .ok (.dup, 1) := by decide +kernel
theorem dX15_allFalls_64 : decode cX15_allFalls 64 = .ok (.getfield 486, 3) := by decide +kernel
theorem dX15_allFalls_67 : decode cX15_allFalls 67 = .ok (.iconst 1, 1) := by decide +kernel
theorem dX15_allFalls_68 : decode cX15_allFalls 68 = .ok (.iadd, 1) := by decide +kernel
theorem dX15_allFalls_69 : decode cX15_allFalls 69 = .ok (.putfield 486, 3) := by decide +kernel
theorem dX15_allFalls_72 : decode cX15_allFalls 72 = .ok (.iinc 3 1, 3) := by decide +kernel
theorem dX15_allFalls_75 : decode cX15_allFalls 75 = .ok (.goto (-41), 3) := by decide +kernel
theorem dX15_allFalls_78 : decode cX15_allFalls 78 = .ok (.iinc 2 1, 3) := by decide +kernel
theorem dX15_allFalls_81 : decode cX15_allFalls 81 = .ok (.goto (-67), 3) := by decide +kernel
theorem dX15_allFalls_84 : decode cX15_allFalls 84 = .ok (.iinc 1 1, 3) := by decide +kernel
theorem dX15_allFalls_87 : decode cX15_allFalls 87 = .ok (.goto (-80), 3) := by decide +kernel
theorem dX15_allFalls_90 : decode cX15_allFalls 90 = .ok (.return_, 1) := by decide +kernel
theorem dX15_isTooMany_0 : decode cX15_isTooMany 0 = .ok (.aload_n 0, 1) := by decide +kernel
theorem dX15_isTooMany_1 : decode cX15_isTooMany 1 = .ok (.invokevirtual 489, 3) := by decide +kernel
theorem dX15_isTooMany_4 : decode cX15_isTooMany 4 = .ok (.aload_n 0, 1) := by decide +kernel
theorem dX15_isTooMany_5 : decode cX15_isTooMany 5 = .ok (.getfield 486, 3) := by decide +kernel
theorem dX15_isTooMany_8 : decode cX15_isTooMany 8 = .ok (.bipush 60, 2) := by decide +kernel
theorem dX15_isTooMany_10 : decode cX15_isTooMany 10 = .ok (.if_icmp .le 15, 3) := by decide +kernel
theorem dX15_isTooMany_13 : decode cX15_isTooMany 13 = .ok (.aload_n 0, 1) := by decide +kernel
theorem dX15_isTooMany_14 : decode cX15_isTooMany 14 = .ok (.invokevirtual 384, 3) := by decide +kernel
theorem dX15_isTooMany_17 : decode cX15_isTooMany 17 = .ok (.iconst 3, 1) := by decide +kernel
theorem dX15_isTooMany_18 : decode cX15_isTooMany 18 = .ok (.if_icmp .ne 7, 3) := by decide +kernel
theorem dX15_isTooMany_21 : decode cX15_isTooMany 21 = .ok (.iconst 1, 1) := by decide +kernel
theorem dX15_isTooMany_22 : decode cX15_isTooMany 22 = .ok (.goto 4, 3) := by decide +kernel
theorem dX15_isTooMany_25 : decode cX15_isTooMany 25 = .ok (.iconst 0, 1) := by decide +kernel
theorem dX15_isTooMany_26 : decode cX15_isTooMany 26 = .ok (.ireturn, 1) := by decide +kernel
theorem dX15_begins_0 : decode cX15_begins 0 = .ok (.iconst 0, 1) := by decide +kernel
theorem dX15_begins_1 : decode cX15_begins 1 = .ok (.istore_n 2, 1) := by decide +kernel
theorem dX15_begins_2 : decode cX15_begins 2 = .ok (.iload_n 2, 1) := by decide +kernel
theorem dX15_begins_3 : decode cX15_begins 3 = .ok (.iload_n 1, 1) := by decide +kernel
theorem dX15_begins_4 : decode cX15_begins 4 = .ok (.if_icmp .ge 16, 3) := by decide +kernel
theorem dX15_begins_7 : decode cX15_begins 7 = .ok (.aload_n 0, 1) := by decide +kernel
theorem dX15_begins_8 : decode cX15_begins 8 = .ok (.getfield 75, 3) := by decide +kernel
theorem dX15_begins_11 : decode cX15_begins 11 = .ok (.iload_n 2, 1) := by decide +kernel
theorem dX15_begins_12 : decode cX15_begins 12 = .ok (.iload_n 2, 1) := by decide +kernel
theorem dX15_begins_13 : decode cX15_begins 13 = .ok (.iastore, 1) := by decide +kernel
theorem dX15_begins_14 : decode cX15_begins 14 = .ok (.iinc 2 1, 3) := by decide +kernel
theorem dX15_begins_17 : decode cX15_begins 17 = .ok (.goto (-15), 3) := by decide +kernel
theorem dX15_begins_20 : decode cX15_begins 20 = .ok (.iload_n 1, 1) := by decide +kernel
theorem dX15_begins_21 : decode cX15_begins 21 = .ok (.aload_n 0, 1) := by decide +kernel
theorem dX15_begins_22 : decode cX15_begins 22 = .ok (.getfield 486, 3) := by decide +kernel
theorem dX15_begins_25 : decode cX15_begins 25 = .ok (.if_icmp .gt 23, 3) := by decide +kernel
theorem dX15_begins_28 : decode cX15_begins 28 = .ok (.aload_n 0, 1) := by decide +kernel
theorem dX15_begins_29 : decode cX15_begins 29 = .ok (.iload_n 1, 1) := by decide +kernel
theorem dX15_begins_30 : decode cX15_begins 30 = .ok (.invokevirtual 492, 3) := by decide +kernel
theorem dX15_begins_33 : decode cX15_begins 33 = .ok (.ifCond .ne 11, 3) := by decide +kernel
theorem dX15_begins_36 : decode cX15_begins 36 = .ok (.aload_n 0, 1) := by decide +kernel
theorem dX15_begins_37 : decode cX15_begins 37 = .ok (.iload_n 1, 1) := by decide +kernel
theorem dX15_begins_38 : decode cX15_begins 38 = .ok (.invokevirtual 495, 3) := by decide +kernel
theorem dX15_begins_41 : decode cX15_begins 41 = .ok (.ifCond .eq 7, 3) := by decide +kernel
theorem dX15_begins_44 : decode cX15_begins 44 = .ok (.iconst 1, 1) := by decide +kernel
theorem dX15_begins_45 : decode cX15_begins 45 = .ok (.goto 4, 3) := by decide +kernel
theorem dX15_begins_48 : decode cX15_begins 48 = .ok (.iconst 0, 1) := by decide +kernel
theorem dX15_begins_49 : decode cX15_begins 49 = .ok (.ireturn, 1) := by decide +kernel
theorem dX15_goesOn_0 : decode cX15_goesOn 0 = .ok (.iconst 1, 1) := by decide +kernel
theorem dX15_goesOn_1 : decode cX15_goesOn 1 = .ok (.istore_n 2, 1) := by decide +kernel
theorem dX15_goesOn_2 : decode cX15_goesOn 2 = .ok (.iload_n 2, 1) := by decide +kernel
theorem dX15_goesOn_3 : decode cX15_goesOn 3 = .ok (.ifCond .eq 102, 3) := by decide +kernel
theorem dX15_goesOn_6 : decode cX15_goesOn 6 = .ok (.iload_n 1, 1) := by decide +kernel
theorem dX15_goesOn_7 : decode cX15_goesOn 7 = .ok (.iconst 1, 1) := by decide +kernel
theorem dX15_goesOn_8 : decode cX15_goesOn 8 = .ok (.isub, 1) := by decide +kernel
theorem dX15_goesOn_9 : decode cX15_goesOn 9 = .ok (.istore_n 3, 1) := by decide +kernel
theorem dX15_goesOn_10 : decode cX15_goesOn 10 = .ok (.iload_n 3, 1) := by decide +kernel
theorem dX15_goesOn_11 : decode cX15_goesOn 11 = .ok (.ifCond .lt 26, 3) := by decide +kernel
theorem dX15_goesOn_14 : decode cX15_goesOn 14 = .ok (.aload_n 0, 1) := by decide +kernel
theorem dX15_goesOn_15 : decode cX15_goesOn 15 = .ok (.getfield 75, 3) := by decide +kernel
theorem dX15_goesOn_18 : decode cX15_goesOn 18 = .ok (.iload_n 3, 1) := by decide +kernel
theorem dX15_goesOn_19 : decode cX15_goesOn 19 = .ok (.iaload, 1) := by decide +kernel
theorem dX15_goesOn_20 : decode cX15_goesOn 20 = .ok (.aload_n 0, 1) := by decide +kernel
theorem dX15_goesOn_21 : decode cX15_goesOn 21 = .ok (.getfield 486, 3) := by decide +kernel
theorem dX15_goesOn_24 : decode cX15_goesOn 24 = .ok (.iload_n 1, 1) := by decide +kernel
theorem dX15_goesOn_25 : decode cX15_goesOn 25 = .ok (.isub, 1) := by decide +kernel
theorem dX15_goesOn_26 : decode cX15_goesOn 26 = .ok (.iload_n 3, 1) := by decide +kernel
theorem dX15_goesOn_27 : decode cX15_goesOn 27 = .ok (.iadd, 1) := by decide +kernel
theorem dX15_goesOn_28 : decode cX15_goesOn 28 = .ok (.if_icmp .ne 9, 3) := by decide +kernel
theorem dX15_goesOn_31 : decode cX15_goesOn 31 = .ok (.iinc 3 (-1), 3) := by decide +kernel
theorem dX15_goesOn_34 : decode cX15_goesOn 34 = .ok (.goto (-24), 3) := by decide +kernel
theorem dX15_goesOn_37 : decode cX15_goesOn 37 = .ok (.iload_n 3, 1) := by decide +kernel
theorem dX15_goesOn_38 : decode cX15_goesOn 38 = .ok (.ifCond .ge 5, 3) := by decide +kernel
theorem dX15_goesOn_41 : decode cX15_goesOn 41 = .ok (.iconst 0, 1) := by decide +kernel
theorem dX15_goesOn_42 : decode cX15_goesOn 42 = .ok (.ireturn, 1) := by decide +kernel
theorem dX15_goesOn_43 : decode cX15_goesOn 43 = .ok (.aload_n 0, 1) := by decide +kernel
theorem dX15_goesOn_44 : decode cX15_goesOn 44 = .ok (.getfield 75, 3) := by decide +kernel
theorem dX15_goesOn_47 : decode cX15_goesOn 47 = .ok (.iload_n 3, 1) := by decide +kernel
theorem dX15_goesOn_48 : decode cX15_goesOn 48 = .ok (.dup2, 1) := by decide +kernel
theorem dX15_goesOn_49 : decode cX15_goesOn 49 = .ok (.iaload, 1) := by decide +kernel
theorem dX15_goesOn_50 : decode cX15_goesOn 50 = .ok (.iconst 1, 1) := by decide +kernel
theorem dX15_goesOn_51 : decode cX15_goesOn 51 = .ok (.iadd, 1) := by decide +kernel
theorem dX15_goesOn_52 : decode cX15_goesOn 52 = .ok (.iastore, 1) := by decide +kernel
theorem dX15_goesOn_53 : decode cX15_goesOn 53 = .ok (.iload_n 3, 1) := by decide +kernel
theorem dX15_goesOn_54 : decode cX15_goesOn 54 = .ok (.iconst 1, 1) := by decide +kernel
theorem dX15_goesOn_55 : decode cX15_goesOn 55 = .ok (.iadd, 1) := by decide +kernel
theorem dX15_goesOn_56 : decode cX15_goesOn 56 = .ok (.istore 4, 2) := by decide +kernel
theorem dX15_goesOn_58 : decode cX15_goesOn 58 = .ok (.iload 4, 2) := by decide +kernel
theorem dX15_goesOn_60 : decode cX15_goesOn 60 = .ok (.iload_n 1, 1) := by decide +kernel
theorem dX15_goesOn_61 : decode cX15_goesOn 61 = .ok (.if_icmp .ge 27, 3) := by decide +kernel
theorem dX15_goesOn_64 : decode cX15_goesOn 64 = .ok (.aload_n 0, 1) := by decide +kernel
theorem dX15_goesOn_65 : decode cX15_goesOn 65 = .ok (.getfield 75, 3) := by decide +kernel
theorem dX15_goesOn_68 : decode cX15_goesOn 68 = .ok (.iload 4, 2) := by decide +kernel
theorem dX15_goesOn_70 : decode cX15_goesOn 70 = .ok (.aload_n 0, 1) := by decide +kernel
theorem dX15_goesOn_71 : decode cX15_goesOn 71 = .ok (.getfield 75, 3) := by decide +kernel
theorem dX15_goesOn_74 : decode cX15_goesOn 74 = .ok (.iload 4, 2) := by decide +kernel
theorem dX15_goesOn_76 : decode cX15_goesOn 76 = .ok (.iconst 1, 1) := by decide +kernel
theorem dX15_goesOn_77 : decode cX15_goesOn 77 = .ok (.isub, 1) := by decide +kernel
theorem dX15_goesOn_78 : decode cX15_goesOn 78 = .ok (.iaload, 1) := by decide +kernel
theorem dX15_goesOn_79 : decode cX15_goesOn 79 = .ok (.iconst 1, 1) := by decide +kernel
theorem dX15_goesOn_80 : decode cX15_goesOn 80 = .ok (.iadd, 1) := by decide +kernel
theorem dX15_goesOn_81 : decode cX15_goesOn 81 = .ok (.iastore, 1) := by decide +kernel
theorem dX15_goesOn_82 : decode cX15_goesOn 82 = .ok (.iinc 4 1, 3) := by decide +kernel
theorem dX15_goesOn_85 : decode cX15_goesOn 85 = .ok (.goto (-27), 3) := by decide +kernel
theorem dX15_goesOn_88 : decode cX15_goesOn 88 = .ok (.aload_n 0, 1) := by decide +kernel
theorem dX15_goesOn_89 : decode cX15_goesOn 89 = .ok (.iload_n 1, 1) := by decide +kernel
theorem dX15_goesOn_90 : decode cX15_goesOn 90 = .ok (.invokevirtual 492, 3) := by decide +kernel
theorem dX15_goesOn_93 : decode cX15_goesOn 93 = .ok (.ifCond .ne 7, 3) := by decide +kernel
theorem dX15_goesOn_96 : decode cX15_goesOn 96 = .ok (.iconst 1, 1) := by decide +kernel
theorem dX15_goesOn_97 : decode cX15_goesOn 97 = .ok (.goto 4, 3) := by decide +kernel
theorem dX15_goesOn_100 : decode cX15_goesOn 100 = .ok (.iconst 0, 1) := by decide +kernel
theorem dX15_goesOn_101 : decode cX15_goesOn 101 = .ok (.istore_n 2, 1) := by decide +kernel
theorem dX15_goesOn_102 : decode cX15_goesOn 102 = .ok (.goto (-100), 3) := by decide +kernel
theorem dX15_goesOn_105 : decode cX15_goesOn 105 = .ok (.iconst 1, 1) := by decide +kernel
theorem dX15_goesOn_106 : decode cX15_goesOn 106 = .ok (.ireturn, 1) := by decide +kernel
theorem dX15_isMeant_0 : decode cX15_isMeant 0 = .ok (.iconst 0, 1) := by decide +kernel
theorem dX15_isMeant_1 : decode cX15_isMeant 1 = .ok (.istore_n 2, 1) := by decide +kernel
theorem dX15_isMeant_2 : decode cX15_isMeant 2 = .ok (.iload_n 2, 1) := by decide +kernel
theorem dX15_isMeant_3 : decode cX15_isMeant 3 = .ok (.iload_n 1, 1) := by decide +kernel
theorem dX15_isMeant_4 : decode cX15_isMeant 4 = .ok (.if_icmp .ge 26, 3) := by decide +kernel
theorem dX15_isMeant_7 : decode cX15_isMeant 7 = .ok (.aload_n 0, 1) := by decide +kernel
theorem dX15_isMeant_8 : decode cX15_isMeant 8 = .ok (.getfield 78, 3) := by decide +kernel
theorem dX15_isMeant_11 : decode cX15_isMeant 11 = .ok (.iload_n 2, 1) := by decide +kernel
theorem dX15_isMeant_12 : decode cX15_isMeant 12 = .ok (.aload_n 0, 1) := by decide +kernel
theorem dX15_isMeant_13 : decode cX15_isMeant 13 = .ok (.getfield 72, 3) := by decide +kernel
theorem dX15_isMeant_16 : decode cX15_isMeant 16 = .ok (.aload_n 0, 1) := by decide +kernel
theorem dX15_isMeant_17 : decode cX15_isMeant 17 = .ok (.getfield 75, 3) := by decide +kernel
theorem dX15_isMeant_20 : decode cX15_isMeant 20 = .ok (.iload_n 2, 1) := by decide +kernel
theorem dX15_isMeant_21 : decode cX15_isMeant 21 = .ok (.iaload, 1) := by decide +kernel
theorem dX15_isMeant_22 : decode cX15_isMeant 22 = .ok (.iaload, 1) := by decide +kernel
theorem dX15_isMeant_23 : decode cX15_isMeant 23 = .ok (.iastore, 1) := by decide +kernel
theorem dX15_isMeant_24 : decode cX15_isMeant 24 = .ok (.iinc 2 1, 3) := by decide +kernel
theorem dX15_isMeant_27 : decode cX15_isMeant 27 = .ok (.goto (-25), 3) := by decide +kernel
theorem dX15_isMeant_30 : decode cX15_isMeant 30 = .ok (.iconst 0, 1) := by decide +kernel
theorem dX15_isMeant_31 : decode cX15_isMeant 31 = .ok (.istore_n 2, 1) := by decide +kernel
theorem dX15_isMeant_32 : decode cX15_isMeant 32 = .ok (.iload_n 2, 1) := by decide +kernel
theorem dX15_isMeant_33 : decode cX15_isMeant 33 = .ok (.iconst 4, 1) := by decide +kernel
theorem dX15_isMeant_34 : decode cX15_isMeant 34 = .ok (.if_icmp .ge 60, 3) := by decide +kernel
theorem dX15_isMeant_37 : decode cX15_isMeant 37 = .ok (.iconst 0, 1) := by decide +kernel
theorem dX15_isMeant_38 : decode cX15_isMeant 38 = .ok (.istore_n 3, 1) := by decide +kernel
theorem dX15_isMeant_39 : decode cX15_isMeant 39 = .ok (.iconst 0, 1) := by decide +kernel
theorem dX15_isMeant_40 : decode cX15_isMeant 40 = .ok (.istore 4, 2) := by decide +kernel
theorem dX15_isMeant_42 : decode cX15_isMeant 42 = .ok (.iload 4, 2) := by decide +kernel
theorem dX15_isMeant_44 : decode cX15_isMeant 44 = .ok (.iload_n 1, 1) := by decide +kernel
theorem dX15_isMeant_45 : decode cX15_isMeant 45 = .ok (.if_icmp .ge 31, 3) := by decide +kernel
theorem dX15_isMeant_48 : decode cX15_isMeant 48 = .ok (.iload_n 3, 1) := by decide +kernel
theorem dX15_isMeant_49 : decode cX15_isMeant 49 = .ok (.aload_n 0, 1) := by decide +kernel
theorem dX15_isMeant_50 : decode cX15_isMeant 50 = .ok (.getfield 78, 3) := by decide +kernel
theorem dX15_isMeant_53 : decode cX15_isMeant 53 = .ok (.iload 4, 2) := by decide +kernel
theorem dX15_isMeant_55 : decode cX15_isMeant 55 = .ok (.iaload, 1) := by decide +kernel
theorem dX15_isMeant_56 : decode cX15_isMeant 56 = .ok (.bipush 100, 2) := by decide +kernel
theorem dX15_isMeant_58 : decode cX15_isMeant 58 = .ok (.idiv, 1) := by decide +kernel
theorem dX15_isMeant_59 : decode cX15_isMeant 59 = .ok (.iload_n 2, 1) := by decide +kernel
theorem dX15_isMeant_60 : decode cX15_isMeant 60 = .ok (.if_icmp .ne 7, 3) := by decide +kernel
theorem dX15_isMeant_63 : decode cX15_isMeant 63 = .ok (.iconst 1, 1) := by decide +kernel
theorem dX15_isMeant_64 : decode cX15_isMeant 64 = .ok (.goto 4, 3) := by decide +kernel
theorem dX15_isMeant_67 : decode cX15_isMeant 67 = .ok (.iconst 0, 1) := by decide +kernel
theorem dX15_isMeant_68 : decode cX15_isMeant 68 = .ok (.iadd, 1) := by decide +kernel
theorem dX15_isMeant_69 : decode cX15_isMeant 69 = .ok (.istore_n 3, 1) := by decide +kernel
theorem dX15_isMeant_70 : decode cX15_isMeant 70 = .ok (.iinc 4 1, 3) := by decide +kernel
theorem dX15_isMeant_73 : decode cX15_isMeant 73 = .ok (.goto (-31), 3) := by decide +kernel
theorem dX15_isMeant_76 : decode cX15_isMeant 76 = .ok (.iload_n 3, 1) := by decide +kernel
theorem dX15_isMeant_77 : decode cX15_isMeant 77 = .ok (.aload_n 0, 1) := by decide +kernel
theorem dX15_isMeant_78 : decode cX15_isMeant 78 = .ok (.getfield 27, 3) := by decide +kernel
theorem dX15_isMeant_81 : decode cX15_isMeant 81 = .ok (.iload_n 2, 1) := by decide +kernel
theorem dX15_isMeant_82 : decode cX15_isMeant 82 = .ok (.iaload, 1) := by decide +kernel
theorem dX15_isMeant_83 : decode cX15_isMeant 83 = .ok (.if_icmp .le 5, 3) := by decide +kernel
theorem dX15_isMeant_86 : decode cX15_isMeant 86 = .ok (.iconst 0, 1) := by decide +kernel
theorem dX15_isMeant_87 : decode cX15_isMeant 87 = .ok (.ireturn, 1) := by decide +kernel
theorem dX15_isMeant_88 : decode cX15_isMeant 88 = .ok (.iinc 2 1, 3) := by decide +kernel
theorem dX15_isMeant_91 : decode cX15_isMeant 91 = .ok (.goto (-59), 3) := by decide +kernel
theorem dX15_isMeant_94 : decode cX15_isMeant 94 = .ok (.iconst 1, 1) := by decide +kernel
theorem dX15_isMeant_95 : decode cX15_isMeant 95 = .ok (.ireturn, 1) := by decide +kernel
theorem dX15_trial_0 : decode cX15_trial 0 = .ok (.aload_n 0, 1) := by decide +kernel
theorem dX15_trial_1 : decode cX15_trial 1 = .ok (.iconst 0, 1) := by decide +kernel
theorem dX15_trial_2 : decode cX15_trial 2 = .ok (.putfield 108, 3) := by decide +kernel
theorem dX15_trial_5 : decode cX15_trial 5 = .ok (.aload_n 0, 1) := by decide +kernel
theorem dX15_trial_6 : decode cX15_trial 6 = .ok (.getfield 343, 3) := by decide +kernel
theorem dX15_trial_9 : decode cX15_trial 9 = .ok (.ifnonnull 9, 3) := by decide +kernel
theorem dX15_trial_12 : decode cX15_trial 12 = .ok (.aload_n 0, 1) := by decide +kernel
theorem dX15_trial_13 : decode cX15_trial 13 = .ok (.iconst 1, 1) := by decide +kernel
theorem dX15_trial_14 : decode cX15_trial 14 = .ok (.invokevirtual 333, 3) := by decide +kernel
theorem dX15_trial_17 : decode cX15_trial 17 = .ok (.ireturn, 1) := by decide +kernel
theorem dX15_trial_18 : decode cX15_trial 18 = .ok (.iload_n 1, 1) := by decide +kernel
theorem dX15_trial_19 : decode cX15_trial 19 = .ok (.iconst 1, 1) := by decide +kernel
theorem dX15_trial_20 : decode cX15_trial 20 = .ok (.bipush 100, 2) := by decide +kernel
theorem dX15_trial_22 : decode cX15_trial 22 = .ok (.invokestatic 377, 3) := by decide +kernel
theorem dX15_trial_25 : decode cX15_trial 25 = .ok (.ifCond .ne 9, 3) := by decide +kernel
theorem dX15_trial_28 : decode cX15_trial 28 = .ok (.aload_n 0, 1) := by decide +kernel
theorem dX15_trial_29 : decode cX15_trial 29 = .ok (.iconst 2, 1) := by decide +kernel
theorem dX15_trial_30 : decode cX15_trial 30 = .ok (.invokevirtual 333, 3) := by decide +kernel
theorem dX15_trial_33 : decode cX15_trial 33 = .ok (.ireturn, 1) := by decide +kernel
theorem dX15_trial_34 : decode cX15_trial 34 = .ok (.aload_n 0, 1) := by decide +kernel
theorem dX15_trial_35 : decode cX15_trial 35 = .ok (.invokevirtual 498, 3) := by decide +kernel
theorem dX15_trial_38 : decode cX15_trial 38 = .ok (.ifCond .ne 17, 3) := by decide +kernel
theorem dX15_trial_41 : decode cX15_trial 41 = .ok (.aload_n 0, 1) := by decide +kernel
theorem dX15_trial_42 : decode cX15_trial 42 = .ok (.iconst 3, 1) := by decide +kernel
theorem dX15_trial_43 : decode cX15_trial 43 = .ok (.aload_n 0, 1) := by decide +kernel
theorem dX15_trial_44 : decode cX15_trial 44 = .ok (.getfield 31, 3) := by decide +kernel
theorem dX15_trial_47 : decode cX15_trial 47 = .ok (.iconst 0, 1) := by decide +kernel
theorem dX15_trial_48 : decode cX15_trial 48 = .ok (.iconst 0, 1) := by decide +kernel
theorem dX15_trial_49 : decode cX15_trial 49 = .ok (.invokevirtual 450, 3) := by decide +kernel
theorem dX15_trial_52 : decode cX15_trial 52 = .ok (.ifCond .eq 9, 3) := by decide +kernel
theorem dX15_trial_55 : decode cX15_trial 55 = .ok (.aload_n 0, 1) := by decide +kernel
theorem dX15_trial_56 : decode cX15_trial 56 = .ok (.iconst 5, 1) := by decide +kernel
theorem dX15_trial_57 : decode cX15_trial 57 = .ok (.invokevirtual 333, 3) := by decide +kernel
theorem dX15_trial_60 : decode cX15_trial 60 = .ok (.ireturn, 1) := by decide +kernel
theorem dX15_trial_61 : decode cX15_trial 61 = .ok (.iconst 1, 1) := by decide +kernel
theorem dX15_trial_62 : decode cX15_trial 62 = .ok (.istore_n 2, 1) := by decide +kernel
theorem dX15_trial_63 : decode cX15_trial 63 = .ok (.iconst 0, 1) := by decide +kernel
theorem dX15_trial_64 : decode cX15_trial 64 = .ok (.istore_n 3, 1) := by decide +kernel
theorem dX15_trial_65 : decode cX15_trial 65 = .ok (.aload_n 0, 1) := by decide +kernel
theorem dX15_trial_66 : decode cX15_trial 66 = .ok (.iconst 0, 1) := by decide +kernel
theorem dX15_trial_67 : decode cX15_trial 67 = .ok (.putfield 358, 3) := by decide +kernel
theorem dX15_trial_70 : decode cX15_trial 70 = .ok (.iconst 0, 1) := by decide +kernel
theorem dX15_trial_71 : decode cX15_trial 71 = .ok (.istore 4, 2) := by decide +kernel
theorem dX15_trial_73 : decode cX15_trial 73 = .ok (.iconst 1, 1) := by decide +kernel
theorem dX15_trial_74 : decode cX15_trial 74 = .ok (.istore 5, 2) := by decide +kernel
theorem dX15_trial_76 : decode cX15_trial 76 = .ok (.iload 5, 2) := by decide +kernel
theorem dX15_trial_78 : decode cX15_trial 78 = .ok (.aload_n 0, 1) := by decide +kernel
theorem dX15_trial_79 : decode cX15_trial 79 = .ok (.invokevirtual 384, 3) := by decide +kernel
theorem dX15_trial_82 : decode cX15_trial 82 = .ok (.if_icmp .gt 199, 3) := by decide +kernel
theorem dX15_trial_85 : decode cX15_trial 85 = .ok (.iload 4, 2) := by decide +kernel
theorem dX15_trial_87 : decode cX15_trial 87 = .ok (.ifCond .ne 194, 3) := by decide +kernel
theorem dX15_trial_90 : decode cX15_trial 90 = .ok (.aload_n 0, 1) := by decide +kernel
theorem dX15_trial_91 : decode cX15_trial 91 = .ok (.iload 5, 2) := by decide +kernel
theorem dX15_trial_93 : decode cX15_trial 93 = .ok (.invokevirtual 501, 3) := by decide +kernel
theorem dX15_trial_96 : decode cX15_trial 96 = .ok (.istore 6, 2) := by decide +kernel
theorem dX15_trial_98 : decode cX15_trial 98 = .ok (.iload 6, 2) := by decide +kernel
theorem dX15_trial_100 : decode cX15_trial 100 = .ok (.ifCond .eq 175, 3) := by decide +kernel
theorem dX15_trial_103 : decode cX15_trial 103 = .ok (.iload 4, 2) := by decide +kernel
theorem dX15_trial_105 : decode cX15_trial 105 = .ok (.ifCond .ne 170, 3) := by decide +kernel
theorem dX15_trial_108 : decode cX15_trial 108 = .ok (.aload_n 0, 1) := by decide +kernel
theorem dX15_trial_109 : decode cX15_trial 109 = .ok (.getfield 47, 3) := by decide +kernel
theorem dX15_trial_112 : decode cX15_trial 112 = .ok (.aload_n 0, 1) := by decide +kernel
theorem dX15_trial_113 : decode cX15_trial 113 = .ok (.getfield 78, 3) := by decide +kernel
theorem dX15_trial_116 : decode cX15_trial 116 = .ok (.iconst 0, 1) := by decide +kernel
theorem dX15_trial_117 : decode cX15_trial 117 = .ok (.iload 5, 2) := by decide +kernel
theorem dX15_trial_119 : decode cX15_trial 119 = .ok (.invokevirtual 439, 3) := by decide +kernel
theorem dX15_trial_122 : decode cX15_trial 122 = .ok (.iconst 1, 1) := by decide +kernel
theorem dX15_trial_123 : decode cX15_trial 123 = .ok (.istore 7, 2) := by decide +kernel
theorem dX15_trial_125 : decode cX15_trial 125 = .ok (.iconst 0, 1) := by decide +kernel
theorem dX15_trial_126 : decode cX15_trial 126 = .ok (.istore 8, 2) := by decide +kernel
theorem dX15_trial_128 : decode cX15_trial 128 = .ok (.iload 8, 2) := by decide +kernel
theorem dX15_trial_130 : decode cX15_trial 130 = .ok (.iload_n 2, 1) := by decide +kernel
theorem dX15_trial_131 : decode cX15_trial 131 = .ok (.if_icmp .ge 24, 3) := by decide +kernel
theorem dX15_trial_134 : decode cX15_trial 134 = .ok (.iload 7, 2) := by decide +kernel
theorem dX15_trial_136 : decode cX15_trial 136 = .ok (.ifCond .eq 19, 3) := by decide +kernel
theorem dX15_trial_139 : decode cX15_trial 139 = .ok (.aload_n 0, 1) := by decide +kernel
theorem dX15_trial_140 : decode cX15_trial 140 = .ok (.iconst 3, 1) := by decide +kernel
theorem dX15_trial_141 : decode cX15_trial 141 = .ok (.iload 8, 2) := by decide +kernel
theorem dX15_trial_143 : decode cX15_trial 143 = .ok (.iadd, 1) := by decide +kernel
theorem dX15_trial_144 : decode cX15_trial 144 = .ok (.invokevirtual 483, 3) := by decide +kernel
theorem dX15_trial_147 : decode cX15_trial 147 = .ok (.istore 7, 2) := by decide +kernel
theorem dX15_trial_149 : decode cX15_trial 149 = .ok (.iinc 8 1, 3) := by decide +kernel
theorem dX15_trial_152 : decode cX15_trial 152 = .ok (.goto (-24), 3) := by decide +kernel
theorem dX15_trial_155 : decode cX15_trial 155 = .ok (.iload 7, 2) := by decide +kernel
theorem dX15_trial_157 : decode cX15_trial 157 = .ok (.ifCond .ne 6, 3) := by decide +kernel
theorem dX15_trial_160 : decode cX15_trial 160 = .ok (.goto 91, 3) := by decide +kernel
theorem dX15_trial_163 : decode cX15_trial 163 = .ok (.iload_n 3, 1) := by decide +kernel
theorem dX15_trial_164 : decode cX15_trial 164 = .ok (.iload_n 1, 1) := by decide +kernel
theorem dX15_trial_165 : decode cX15_trial 165 = .ok (.if_icmp .ne 9, 3) := by decide +kernel
theorem dX15_trial_168 : decode cX15_trial 168 = .ok (.iconst 2, 1) := by decide +kernel
theorem dX15_trial_169 : decode cX15_trial 169 = .ok (.istore 4, 2) := by decide +kernel
theorem dX15_trial_171 : decode cX15_trial 171 = .ok (.goto 80, 3) := by decide +kernel
theorem dX15_trial_174 : decode cX15_trial 174 = .ok (.iinc 3 1, 3) := by decide +kernel
theorem dX15_trial_177 : decode cX15_trial 177 = .ok (.aload_n 0, 1) := by decide +kernel
theorem dX15_trial_178 : decode cX15_trial 178 = .ok (.iconst 3, 1) := by decide +kernel
theorem dX15_trial_179 : decode cX15_trial 179 = .ok (.iload_n 2, 1) := by decide +kernel
theorem dX15_trial_180 : decode cX15_trial 180 = .ok (.iadd, 1) := by decide +kernel
theorem dX15_trial_181 : decode cX15_trial 181 = .ok (.aload_n 0, 1) := by decide +kernel
theorem dX15_trial_182 : decode cX15_trial 182 = .ok (.getfield 78, 3) := by decide +kernel
theorem dX15_trial_185 : decode cX15_trial 185 = .ok (.iconst 0, 1) := by decide +kernel
theorem dX15_trial_186 : decode cX15_trial 186 = .ok (.iload 5, 2) := by decide +kernel
theorem dX15_trial_188 : decode cX15_trial 188 = .ok (.invokevirtual 450, 3) := by decide +kernel
theorem dX15_trial_191 : decode cX15_trial 191 = .ok (.istore 8, 2) := by decide +kernel
theorem dX15_trial_193 : decode cX15_trial 193 = .ok (.iload 8, 2) := by decide +kernel
theorem dX15_trial_195 : decode cX15_trial 195 = .ok (.iconst 2, 1) := by decide +kernel
theorem dX15_trial_196 : decode cX15_trial 196 = .ok (.if_icmp .ne 42, 3) := by decide +kernel
theorem dX15_trial_199 : decode cX15_trial 199 = .ok (.iconst 1, 1) := by decide +kernel
theorem dX15_trial_200 : decode cX15_trial 200 = .ok (.istore 4, 2) := by decide +kernel
theorem dX15_trial_202 : decode cX15_trial 202 = .ok (.aload_n 0, 1) := by decide +kernel
theorem dX15_trial_203 : decode cX15_trial 203 = .ok (.iload 5, 2) := by decide +kernel
theorem dX15_trial_205 : decode cX15_trial 205 = .ok (.putfield 358, 3) := by decide +kernel
theorem dX15_trial_208 : decode cX15_trial 208 = .ok (.iconst 0, 1) := by decide +kernel
theorem dX15_trial_209 : decode cX15_trial 209 = .ok (.istore 9, 2) := by decide +kernel
theorem dX15_trial_211 : decode cX15_trial 211 = .ok (.iload 9, 2) := by decide +kernel
theorem dX15_trial_213 : decode cX15_trial 213 = .ok (.iload 5, 2) := by decide +kernel
theorem dX15_trial_215 : decode cX15_trial 215 = .ok (.if_icmp .ge 23, 3) := by decide +kernel
theorem dX15_trial_218 : decode cX15_trial 218 = .ok (.aload_n 0, 1) := by decide +kernel
theorem dX15_trial_219 : decode cX15_trial 219 = .ok (.getfield 87, 3) := by decide +kernel
theorem dX15_trial_222 : decode cX15_trial 222 = .ok (.iload 9, 2) := by decide +kernel
theorem dX15_trial_224 : decode cX15_trial 224 = .ok (.aload_n 0, 1) := by decide +kernel
theorem dX15_trial_225 : decode cX15_trial 225 = .ok (.getfield 78, 3) := by decide +kernel
theorem dX15_trial_228 : decode cX15_trial 228 = .ok (.iload 9, 2) := by decide +kernel
theorem dX15_trial_230 : decode cX15_trial 230 = .ok (.iaload, 1) := by decide +kernel
theorem dX15_trial_231 : decode cX15_trial 231 = .ok (.iastore, 1) := by decide +kernel
theorem dX15_trial_232 : decode cX15_trial 232 = .ok (.iinc 9 1, 3) := by decide +kernel
theorem dX15_trial_235 : decode cX15_trial 235 = .ok (.goto (-24), 3) := by decide +kernel
theorem dX15_trial_238 : decode cX15_trial 238 = .ok (.iload_n 2, 1) := by decide +kernel
theorem dX15_trial_239 : decode cX15_trial 239 = .ok (.iload 8, 2) := by decide +kernel
theorem dX15_trial_241 : decode cX15_trial 241 = .ok (.ifCond .ne 7, 3) := by decide +kernel
theorem dX15_trial_244 : decode cX15_trial 244 = .ok (.iconst 1, 1) := by decide +kernel
theorem dX15_trial_245 : decode cX15_trial 245 = .ok (.goto 4, 3) := by decide +kernel
theorem dX15_trial_248 : decode cX15_trial 248 = .ok (.iconst 0, 1) := by decide +kernel
theorem dX15_trial_249 : decode cX15_trial 249 = .ok (.iadd, 1) := by decide +kernel
theorem dX15_trial_250 : decode cX15_trial 250 = .ok (.istore_n 2, 1) := by decide +kernel
theorem dX15_trial_251 : decode cX15_trial 251 = .ok (.iload 4, 2) := by decide +kernel
theorem dX15_trial_253 : decode cX15_trial 253 = .ok (.ifCond .ne 16, 3) := by decide +kernel
theorem dX15_trial_256 : decode cX15_trial 256 = .ok (.aload_n 0, 1) := by decide +kernel
theorem dX15_trial_257 : decode cX15_trial 257 = .ok (.iload 5, 2) := by decide +kernel
theorem dX15_trial_259 : decode cX15_trial 259 = .ok (.invokevirtual 495, 3) := by decide +kernel
theorem dX15_trial_262 : decode cX15_trial 262 = .ok (.ifCond .eq 7, 3) := by decide +kernel
theorem dX15_trial_265 : decode cX15_trial 265 = .ok (.iconst 1, 1) := by decide +kernel
theorem dX15_trial_266 : decode cX15_trial 266 = .ok (.goto 4, 3) := by decide +kernel
theorem dX15_trial_269 : decode cX15_trial 269 = .ok (.iconst 0, 1) := by decide +kernel
theorem dX15_trial_270 : decode cX15_trial 270 = .ok (.istore 6, 2) := by decide +kernel
theorem dX15_trial_272 : decode cX15_trial 272 = .ok (.goto (-174), 3) := by decide +kernel
theorem dX15_trial_275 : decode cX15_trial 275 = .ok (.iinc 5 1, 3) := by decide +kernel
theorem dX15_trial_278 : decode cX15_trial 278 = .ok (.goto (-202), 3) := by decide +kernel
theorem dX15_trial_281 : decode cX15_trial 281 = .ok (.aload_n 0, 1) := by decide +kernel
theorem dX15_trial_282 : decode cX15_trial 282 = .ok (.iload_n 3, 1) := by decide +kernel
theorem dX15_trial_283 : decode cX15_trial 283 = .ok (.putfield 81, 3) := by decide +kernel
theorem dX15_trial_286 : decode cX15_trial 286 = .ok (.aload_n 0, 1) := by decide +kernel
theorem dX15_trial_287 : decode cX15_trial 287 = .ok (.iload_n 2, 1) := by decide +kernel
theorem dX15_trial_288 : decode cX15_trial 288 = .ok (.putfield 84, 3) := by decide +kernel
theorem dX15_trial_291 : decode cX15_trial 291 = .ok (.aload_n 0, 1) := by decide +kernel
theorem dX15_trial_292 : decode cX15_trial 292 = .ok (.iload 4, 2) := by decide +kernel
theorem dX15_trial_294 : decode cX15_trial 294 = .ok (.invokevirtual 371, 3) := by decide +kernel
theorem dX15_trial_297 : decode cX15_trial 297 = .ok (.ireturn, 1) := by decide +kernel
theorem dX15_tried_0 : decode cX15_tried 0 = .ok (.aload_n 0, 1) := by decide +kernel
theorem dX15_tried_1 : decode cX15_tried 1 = .ok (.iconst 0, 1) := by decide +kernel
theorem dX15_tried_2 : decode cX15_tried 2 = .ok (.putfield 108, 3) := by decide +kernel
theorem dX15_tried_5 : decode cX15_tried 5 = .ok (.aload_n 0, 1) := by decide +kernel
theorem dX15_tried_6 : decode cX15_tried 6 = .ok (.getfield 81, 3) := by decide +kernel
theorem dX15_tried_9 : decode cX15_tried 9 = .ok (.ireturn, 1) := by decide +kernel
theorem dX15_known_0 : decode cX15_known 0 = .ok (.aload_n 0, 1) := by decide +kernel
theorem dX15_known_1 : decode cX15_known 1 = .ok (.iconst 0, 1) := by decide +kernel
theorem dX15_known_2 : decode cX15_known 2 = .ok (.putfield 108, 3) := by decide +kernel
theorem dX15_known_5 : decode cX15_known 5 = .ok (.aload_n 0, 1) := by decide +kernel
theorem dX15_known_6 : decode cX15_known 6 = .ok (.getfield 84, 3) := by decide +kernel
theorem dX15_known_9 : decode cX15_known 9 = .ok (.ireturn, 1) := by decide +kernel
theorem dX15_found_0 : decode cX15_found 0 = .ok (.aload_n 0, 1) := by decide +kernel
theorem dX15_found_1 : decode cX15_found 1 = .ok (.iconst 0, 1) := by decide +kernel
theorem dX15_found_2 : decode cX15_found 2 = .ok (.putfield 108, 3) := by decide +kernel
theorem dX15_found_5 : decode cX15_found 5 = .ok (.iload_n 1, 1) := by decide +kernel
theorem dX15_found_6 : decode cX15_found 6 = .ok (.ifCond .lt 20, 3) := by decide +kernel
theorem dX15_found_9 : decode cX15_found 9 = .ok (.iload_n 1, 1) := by decide +kernel
theorem dX15_found_10 : decode cX15_found 10 = .ok (.aload_n 0, 1) := by decide +kernel
theorem dX15_found_11 : decode cX15_found 11 = .ok (.getfield 358, 3) := by decide +kernel
theorem dX15_found_14 : decode cX15_found 14 = .ok (.if_icmp .ge 12, 3) := by decide +kernel
theorem dX15_found_17 : decode cX15_found 17 = .ok (.aload_n 0, 1) := by decide +kernel
theorem dX15_found_18 : decode cX15_found 18 = .ok (.getfield 87, 3) := by decide +kernel
theorem dX15_found_21 : decode cX15_found 21 = .ok (.iload_n 1, 1) := by decide +kernel
theorem dX15_found_22 : decode cX15_found 22 = .ok (.iaload, 1) := by decide +kernel
theorem dX15_found_23 : decode cX15_found 23 = .ok (.goto 4, 3) := by decide +kernel
theorem dX15_found_26 : decode cX15_found 26 = .ok (.iconst (-1), 1) := by decide +kernel
theorem dX15_found_27 : decode cX15_found 27 = .ok (.ireturn, 1) := by decide +kernel
theorem dX15_exact_0 : decode cX15_exact 0 = .ok (.aload_n 0, 1) := by decide +kernel
theorem dX15_exact_1 : decode cX15_exact 1 = .ok (.iconst 0, 1) := by decide +kernel
theorem dX15_exact_2 : decode cX15_exact 2 = .ok (.putfield 108, 3) := by decide +kernel
theorem dX15_exact_5 : decode cX15_exact 5 = .ok (.aload_n 0, 1) := by decide +kernel
theorem dX15_exact_6 : decode cX15_exact 6 = .ok (.getfield 343, 3) := by decide +kernel
theorem dX15_exact_9 : decode cX15_exact 9 = .ok (.ifnonnull 9, 3) := by decide +kernel
theorem dX15_exact_12 : decode cX15_exact 12 = .ok (.aload_n 0, 1) := by decide +kernel
theorem dX15_exact_13 : decode cX15_exact 13 = .ok (.iconst 1, 1) := by decide +kernel
theorem dX15_exact_14 : decode cX15_exact 14 = .ok (.invokevirtual 333, 3) := by decide +kernel
theorem dX15_exact_17 : decode cX15_exact 17 = .ok (.ireturn, 1) := by decide +kernel
theorem dX15_exact_18 : decode cX15_exact 18 = .ok (.aload_n 0, 1) := by decide +kernel
theorem dX15_exact_19 : decode cX15_exact 19 = .ok (.invokevirtual 498, 3) := by decide +kernel
theorem dX15_exact_22 : decode cX15_exact 22 = .ok (.ifCond .eq 9, 3) := by decide +kernel
theorem dX15_exact_25 : decode cX15_exact 25 = .ok (.aload_n 0, 1) := by decide +kernel
theorem dX15_exact_26 : decode cX15_exact 26 = .ok (.iconst 5, 1) := by decide +kernel
theorem dX15_exact_27 : decode cX15_exact 27 = .ok (.invokevirtual 333, 3) := by decide +kernel
theorem dX15_exact_30 : decode cX15_exact 30 = .ok (.ireturn, 1) := by decide +kernel
theorem dX15_exact_31 : decode cX15_exact 31 = .ok (.iconst 0, 1) := by decide +kernel
theorem dX15_exact_32 : decode cX15_exact 32 = .ok (.istore_n 1, 1) := by decide +kernel
theorem dX15_exact_33 : decode cX15_exact 33 = .ok (.aload_n 0, 1) := by decide +kernel
theorem dX15_exact_34 : decode cX15_exact 34 = .ok (.iconst 0, 1) := by decide +kernel
theorem dX15_exact_35 : decode cX15_exact 35 = .ok (.putfield 361, 3) := by decide +kernel
theorem dX15_exact_38 : decode cX15_exact 38 = .ok (.iconst 1, 1) := by decide +kernel
theorem dX15_exact_39 : decode cX15_exact 39 = .ok (.istore_n 2, 1) := by decide +kernel
theorem dX15_exact_40 : decode cX15_exact 40 = .ok (.iload_n 2, 1) := by decide +kernel
theorem dX15_exact_41 : decode cX15_exact 41 = .ok (.aload_n 0, 1) := by decide +kernel
theorem dX15_exact_42 : decode cX15_exact 42 = .ok (.invokevirtual 384, 3) := by decide +kernel
theorem dX15_exact_45 : decode cX15_exact 45 = .ok (.if_icmp .gt 87, 3) := by decide +kernel
theorem dX15_exact_48 : decode cX15_exact 48 = .ok (.aload_n 0, 1) := by decide +kernel
theorem dX15_exact_49 : decode cX15_exact 49 = .ok (.iload_n 2, 1) := by decide +kernel
theorem dX15_exact_50 : decode cX15_exact 50 = .ok (.invokevirtual 501, 3) := by decide +kernel
theorem dX15_exact_53 : decode cX15_exact 53 = .ok (.istore_n 3, 1) := by decide +kernel
theorem dX15_exact_54 : decode cX15_exact 54 = .ok (.iload_n 3, 1) := by decide +kernel
theorem dX15_exact_55 : decode cX15_exact 55 = .ok (.ifCond .eq 71, 3) := by decide +kernel
theorem dX15_exact_58 : decode cX15_exact 58 = .ok (.aload_n 0, 1) := by decide +kernel
theorem dX15_exact_59 : decode cX15_exact 59 = .ok (.iconst 2, 1) := by decide +kernel
theorem dX15_exact_60 : decode cX15_exact 60 = .ok (.aload_n 0, 1) := by decide +kernel
theorem dX15_exact_61 : decode cX15_exact 61 = .ok (.getfield 78, 3) := by decide +kernel
theorem dX15_exact_64 : decode cX15_exact 64 = .ok (.iconst 0, 1) := by decide +kernel
theorem dX15_exact_65 : decode cX15_exact 65 = .ok (.iload_n 2, 1) := by decide +kernel
theorem dX15_exact_66 : decode cX15_exact 66 = .ok (.invokevirtual 450, 3) := by decide +kernel
theorem dX15_exact_69 : decode cX15_exact 69 = .ok (.iconst 2, 1) := by decide +kernel
theorem dX15_exact_70 : decode cX15_exact 70 = .ok (.if_icmp .eq 6, 3) := by decide +kernel
theorem dX15_exact_73 : decode cX15_exact 73 = .ok (.goto 44, 3) := by decide +kernel
theorem dX15_exact_76 : decode cX15_exact 76 = .ok (.iload_n 1, 1) := by decide +kernel
theorem dX15_exact_77 : decode cX15_exact 77 = .ok (.ifCond .ne 37, 3) := by decide +kernel
theorem dX15_exact_80 : decode cX15_exact 80 = .ok (.aload_n 0, 1) := by decide +kernel
theorem dX15_exact_81 : decode cX15_exact 81 = .ok (.iload_n 2, 1) := by decide +kernel
theorem dX15_exact_82 : decode cX15_exact 82 = .ok (.putfield 361, 3) := by decide +kernel
theorem dX15_exact_85 : decode cX15_exact 85 = .ok (.iconst 0, 1) := by decide +kernel
theorem dX15_exact_86 : decode cX15_exact 86 = .ok (.istore 4, 2) := by decide +kernel
theorem dX15_exact_88 : decode cX15_exact 88 = .ok (.iload 4, 2) := by decide +kernel
theorem dX15_exact_90 : decode cX15_exact 90 = .ok (.iload_n 2, 1) := by decide +kernel
theorem dX15_exact_91 : decode cX15_exact 91 = .ok (.if_icmp .ge 23, 3) := by decide +kernel
theorem dX15_exact_94 : decode cX15_exact 94 = .ok (.aload_n 0, 1) := by decide +kernel
theorem dX15_exact_95 : decode cX15_exact 95 = .ok (.getfield 90, 3) := by decide +kernel
theorem dX15_exact_98 : decode cX15_exact 98 = .ok (.iload 4, 2) := by decide +kernel
theorem dX15_exact_100 : decode cX15_exact 100 = .ok (.aload_n 0, 1) := by decide +kernel
theorem dX15_exact_101 : decode cX15_exact 101 = .ok (.getfield 78, 3) := by decide +kernel
theorem dX15_exact_104 : decode cX15_exact 104 = .ok (.iload 4, 2) := by decide +kernel
theorem dX15_exact_106 : decode cX15_exact 106 = .ok (.iaload, 1) := by decide +kernel
theorem dX15_exact_107 : decode cX15_exact 107 = .ok (.iastore, 1) := by decide +kernel
theorem dX15_exact_108 : decode cX15_exact 108 = .ok (.iinc 4 1, 3) := by decide +kernel
theorem dX15_exact_111 : decode cX15_exact 111 = .ok (.goto (-23), 3) := by decide +kernel
theorem dX15_exact_114 : decode cX15_exact 114 = .ok (.iinc 1 1, 3) := by decide +kernel
theorem dX15_exact_117 : decode cX15_exact 117 = .ok (.aload_n 0, 1) := by decide +kernel
theorem dX15_exact_118 : decode cX15_exact 118 = .ok (.iload_n 2, 1) := by decide +kernel
theorem dX15_exact_119 : decode cX15_exact 119 = .ok (.invokevirtual 495, 3) := by decide +kernel
theorem dX15_exact_122 : decode cX15_exact 122 = .ok (.istore_n 3, 1) := by decide +kernel
theorem dX15_exact_123 : decode cX15_exact 123 = .ok (.goto (-69), 3) := by decide +kernel
theorem dX15_exact_126 : decode cX15_exact 126 = .ok (.iinc 2 1, 3) := by decide +kernel
theorem dX15_exact_129 : decode cX15_exact 129 = .ok (.goto (-89), 3) := by decide +kernel
theorem dX15_exact_132 : decode cX15_exact 132 = .ok (.aload_n 0, 1) := by decide +kernel
theorem dX15_exact_133 : decode cX15_exact 133 = .ok (.iload_n 1, 1) := by decide +kernel
theorem dX15_exact_134 : decode cX15_exact 134 = .ok (.invokevirtual 371, 3) := by decide +kernel
theorem dX15_exact_137 : decode cX15_exact 137 = .ok (.ireturn, 1) := by decide +kernel
theorem dX15_exactly_0 : decode cX15_exactly 0 = .ok (.aload_n 0, 1) := by decide +kernel
theorem dX15_exactly_1 : decode cX15_exactly 1 = .ok (.iconst 0, 1) := by decide +kernel
theorem dX15_exactly_2 : decode cX15_exactly 2 = .ok (.putfield 108, 3) := by decide +kernel
theorem dX15_exactly_5 : decode cX15_exactly 5 = .ok (.iload_n 1, 1) := by decide +kernel
theorem dX15_exactly_6 : decode cX15_exactly 6 = .ok (.ifCond .lt 20, 3) := by decide +kernel
theorem dX15_exactly_9 : decode cX15_exactly 9 = .ok (.iload_n 1, 1) := by decide +kernel
theorem dX15_exactly_10 : decode cX15_exactly 10 = .ok (.aload_n 0, 1) := by decide +kernel
theorem dX15_exactly_11 : decode cX15_exactly 11 = .ok (.getfield 361, 3) := by decide +kernel
theorem dX15_exactly_14 : decode cX15_exactly 14 = .ok (.if_icmp .ge 12, 3) := by decide +kernel
theorem dX15_exactly_17 : decode cX15_exactly 17 = .ok (.aload_n 0, 1) := by decide +kernel
theorem dX15_exactly_18 : decode cX15_exactly 18 = .ok (.getfield 90, 3) := by decide +kernel
theorem dX15_exactly_21 : decode cX15_exactly 21 = .ok (.iload_n 1, 1) := by decide +kernel
theorem dX15_exactly_22 : decode cX15_exactly 22 = .ok (.iaload, 1) := by decide +kernel
theorem dX15_exactly_23 : decode cX15_exactly 23 = .ok (.goto 4, 3) := by decide +kernel
theorem dX15_exactly_26 : decode cX15_exactly 26 = .ok (.iconst (-1), 1) := by decide +kernel
theorem dX15_exactly_27 : decode cX15_exactly 27 = .ok (.ireturn, 1) := by decide +kernel
theorem dX15_cut_0 : decode cX15_cut 0 = .ok (.aload_n 0, 1) := by decide +kernel
theorem dX15_cut_1 : decode cX15_cut 1 = .ok (.iconst 0, 1) := by decide +kernel
theorem dX15_cut_2 : decode cX15_cut 2 = .ok (.putfield 108, 3) := by decide +kernel
theorem dX15_cut_5 : decode cX15_cut 5 = .ok (.aload_n 0, 1) := by decide +kernel
theorem dX15_cut_6 : decode cX15_cut 6 = .ok (.getfield 343, 3) := by decide +kernel
theorem dX15_cut_9 : decode cX15_cut 9 = .ok (.ifnonnull 9, 3) := by decide +kernel
theorem dX15_cut_12 : decode cX15_cut 12 = .ok (.aload_n 0, 1) := by decide +kernel
theorem dX15_cut_13 : decode cX15_cut 13 = .ok (.iconst 1, 1) := by decide +kernel
theorem dX15_cut_14 : decode cX15_cut 14 = .ok (.invokevirtual 333, 3) := by decide +kernel
theorem dX15_cut_17 : decode cX15_cut 17 = .ok (.ireturn, 1) := by decide +kernel
theorem dX15_cut_18 : decode cX15_cut 18 = .ok (.aload_n 0, 1) := by decide +kernel
theorem dX15_cut_19 : decode cX15_cut 19 = .ok (.iconst 0, 1) := by decide +kernel
theorem dX15_cut_20 : decode cX15_cut 20 = .ok (.aload_n 0, 1) := by decide +kernel
theorem dX15_cut_21 : decode cX15_cut 21 = .ok (.getfield 31, 3) := by decide +kernel
theorem dX15_cut_24 : decode cX15_cut 24 = .ok (.iconst 0, 1) := by decide +kernel
theorem dX15_cut_25 : decode cX15_cut 25 = .ok (.aload_n 0, 1) := by decide +kernel
theorem dX15_cut_26 : decode cX15_cut 26 = .ok (.getfield 349, 3) := by decide +kernel
theorem dX15_cut_29 : decode cX15_cut 29 = .ok (.invokevirtual 450, 3) := by decide +kernel
theorem dX15_cut_32 : decode cX15_cut 32 = .ok (.iconst 2, 1) := by decide +kernel
theorem dX15_cut_33 : decode cX15_cut 33 = .ok (.if_icmp .eq 9, 3) := by decide +kernel
theorem dX15_cut_36 : decode cX15_cut 36 = .ok (.aload_n 0, 1) := by decide +kernel
theorem dX15_cut_37 : decode cX15_cut 37 = .ok (.iconst 5, 1) := by decide +kernel
theorem dX15_cut_38 : decode cX15_cut 38 = .ok (.invokevirtual 333, 3) := by decide +kernel
theorem dX15_cut_41 : decode cX15_cut 41 = .ok (.ireturn, 1) := by decide +kernel
theorem dX15_cut_42 : decode cX15_cut 42 = .ok (.aload_n 0, 1) := by decide +kernel
theorem dX15_cut_43 : decode cX15_cut 43 = .ok (.getfield 349, 3) := by decide +kernel
theorem dX15_cut_46 : decode cX15_cut 46 = .ok (.iconst 1, 1) := by decide +kernel
theorem dX15_cut_47 : decode cX15_cut 47 = .ok (.isub, 1) := by decide +kernel
theorem dX15_cut_48 : decode cX15_cut 48 = .ok (.istore_n 1, 1) := by decide +kernel
theorem dX15_cut_49 : decode cX15_cut 49 = .ok (.iload_n 1, 1) := by decide +kernel
theorem dX15_cut_50 : decode cX15_cut 50 = .ok (.ifCond .lt 98, 3) := by decide +kernel
theorem dX15_cut_53 : decode cX15_cut 53 = .ok (.iconst 0, 1) := by decide +kernel
theorem dX15_cut_54 : decode cX15_cut 54 = .ok (.istore_n 2, 1) := by decide +kernel
theorem dX15_cut_55 : decode cX15_cut 55 = .ok (.iconst 0, 1) := by decide +kernel
theorem dX15_cut_56 : decode cX15_cut 56 = .ok (.istore_n 3, 1) := by decide +kernel
theorem dX15_cut_57 : decode cX15_cut 57 = .ok (.iload_n 3, 1) := by decide +kernel
theorem dX15_cut_58 : decode cX15_cut 58 = .ok (.aload_n 0, 1) := by decide +kernel
theorem dX15_cut_59 : decode cX15_cut 59 = .ok (.getfield 349, 3) := by decide +kernel
theorem dX15_cut_62 : decode cX15_cut 62 = .ok (.if_icmp .ge 32, 3) := by decide +kernel
theorem dX15_cut_65 : decode cX15_cut 65 = .ok (.iload_n 3, 1) := by decide +kernel
theorem dX15_cut_66 : decode cX15_cut 66 = .ok (.iload_n 1, 1) := by decide +kernel
theorem dX15_cut_67 : decode cX15_cut 67 = .ok (.if_icmp .ne 6, 3) := by decide +kernel
theorem dX15_cut_70 : decode cX15_cut 70 = .ok (.goto 18, 3) := by decide +kernel
theorem dX15_cut_73 : decode cX15_cut 73 = .ok (.aload_n 0, 1) := by decide +kernel
theorem dX15_cut_74 : decode cX15_cut 74 = .ok (.getfield 93, 3) := by decide +kernel
theorem dX15_cut_77 : decode cX15_cut 77 = .ok (.iload_n 2, 1) := by decide +kernel
theorem dX15_cut_78 : decode cX15_cut 78 = .ok (.aload_n 0, 1) := by decide +kernel
theorem dX15_cut_79 : decode cX15_cut 79 = .ok (.getfield 31, 3) := by decide +kernel
theorem dX15_cut_82 : decode cX15_cut 82 = .ok (.iload_n 3, 1) := by decide +kernel
theorem dX15_cut_83 : decode cX15_cut 83 = .ok (.iaload, 1) := by decide +kernel
theorem dX15_cut_84 : decode cX15_cut 84 = .ok (.iastore, 1) := by decide +kernel
theorem dX15_cut_85 : decode cX15_cut 85 = .ok (.iinc 2 1, 3) := by decide +kernel
theorem dX15_cut_88 : decode cX15_cut 88 = .ok (.iinc 3 1, 3) := by decide +kernel
theorem dX15_cut_91 : decode cX15_cut 91 = .ok (.goto (-34), 3) := by decide +kernel
theorem dX15_cut_94 : decode cX15_cut 94 = .ok (.aload_n 0, 1) := by decide +kernel
theorem dX15_cut_95 : decode cX15_cut 95 = .ok (.iconst 2, 1) := by decide +kernel
theorem dX15_cut_96 : decode cX15_cut 96 = .ok (.aload_n 0, 1) := by decide +kernel
theorem dX15_cut_97 : decode cX15_cut 97 = .ok (.getfield 93, 3) := by decide +kernel
theorem dX15_cut_100 : decode cX15_cut 100 = .ok (.iconst 0, 1) := by decide +kernel
theorem dX15_cut_101 : decode cX15_cut 101 = .ok (.iload_n 2, 1) := by decide +kernel
theorem dX15_cut_102 : decode cX15_cut 102 = .ok (.invokevirtual 450, 3) := by decide +kernel
theorem dX15_cut_105 : decode cX15_cut 105 = .ok (.iconst 2, 1) := by decide +kernel
theorem dX15_cut_106 : decode cX15_cut 106 = .ok (.if_icmp .eq 6, 3) := by decide +kernel
theorem dX15_cut_109 : decode cX15_cut 109 = .ok (.goto 33, 3) := by decide +kernel
theorem dX15_cut_112 : decode cX15_cut 112 = .ok (.aload_n 0, 1) := by decide +kernel
theorem dX15_cut_113 : decode cX15_cut 113 = .ok (.iload_n 2, 1) := by decide +kernel
theorem dX15_cut_114 : decode cX15_cut 114 = .ok (.putfield 349, 3) := by decide +kernel
theorem dX15_cut_117 : decode cX15_cut 117 = .ok (.iconst 0, 1) := by decide +kernel
theorem dX15_cut_118 : decode cX15_cut 118 = .ok (.istore_n 3, 1) := by decide +kernel
theorem dX15_cut_119 : decode cX15_cut 119 = .ok (.iload_n 3, 1) := by decide +kernel
theorem dX15_cut_120 : decode cX15_cut 120 = .ok (.iload_n 2, 1) := by decide +kernel
theorem dX15_cut_121 : decode cX15_cut 121 = .ok (.if_icmp .ge 21, 3) := by decide +kernel
theorem dX15_cut_124 : decode cX15_cut 124 = .ok (.aload_n 0, 1) := by decide +kernel
theorem dX15_cut_125 : decode cX15_cut 125 = .ok (.getfield 31, 3) := by decide +kernel
theorem dX15_cut_128 : decode cX15_cut 128 = .ok (.iload_n 3, 1) := by decide +kernel
theorem dX15_cut_129 : decode cX15_cut 129 = .ok (.aload_n 0, 1) := by decide +kernel
theorem dX15_cut_130 : decode cX15_cut 130 = .ok (.getfield 93, 3) := by decide +kernel
theorem dX15_cut_133 : decode cX15_cut 133 = .ok (.iload_n 3, 1) := by decide +kernel
theorem dX15_cut_134 : decode cX15_cut 134 = .ok (.iaload, 1) := by decide +kernel
theorem dX15_cut_135 : decode cX15_cut 135 = .ok (.iastore, 1) := by decide +kernel
theorem dX15_cut_136 : decode cX15_cut 136 = .ok (.iinc 3 1, 3) := by decide +kernel
theorem dX15_cut_139 : decode cX15_cut 139 = .ok (.goto (-20), 3) := by decide +kernel
theorem dX15_cut_142 : decode cX15_cut 142 = .ok (.iinc 1 (-1), 3) := by decide +kernel
theorem dX15_cut_145 : decode cX15_cut 145 = .ok (.goto (-96), 3) := by decide +kernel
theorem dX15_cut_148 : decode cX15_cut 148 = .ok (.aload_n 0, 1) := by decide +kernel
theorem dX15_cut_149 : decode cX15_cut 149 = .ok (.aload_n 0, 1) := by decide +kernel
theorem dX15_cut_150 : decode cX15_cut 150 = .ok (.getfield 349, 3) := by decide +kernel
theorem dX15_cut_153 : decode cX15_cut 153 = .ok (.invokevirtual 371, 3) := by decide +kernel
theorem dX15_cut_156 : decode cX15_cut 156 = .ok (.ireturn, 1) := by decide +kernel
theorem dX15_told_0 : decode cX15_told 0 = .ok (.aload_n 0, 1) := by decide +kernel
theorem dX15_told_1 : decode cX15_told 1 = .ok (.iconst 0, 1) := by decide +kernel
theorem dX15_told_2 : decode cX15_told 2 = .ok (.putfield 108, 3) := by decide +kernel
theorem dX15_told_5 : decode cX15_told 5 = .ok (.iload_n 1, 1) := by decide +kernel
theorem dX15_told_6 : decode cX15_told 6 = .ok (.ifCond .lt 20, 3) := by decide +kernel
theorem dX15_told_9 : decode cX15_told 9 = .ok (.iload_n 1, 1) := by decide +kernel
theorem dX15_told_10 : decode cX15_told 10 = .ok (.aload_n 0, 1) := by decide +kernel
theorem dX15_told_11 : decode cX15_told 11 = .ok (.getfield 349, 3) := by decide +kernel
theorem dX15_told_14 : decode cX15_told 14 = .ok (.if_icmp .ge 12, 3) := by decide +kernel
theorem dX15_told_17 : decode cX15_told 17 = .ok (.aload_n 0, 1) := by decide +kernel
theorem dX15_told_18 : decode cX15_told 18 = .ok (.getfield 31, 3) := by decide +kernel
theorem dX15_told_21 : decode cX15_told 21 = .ok (.iload_n 1, 1) := by decide +kernel
theorem dX15_told_22 : decode cX15_told 22 = .ok (.iaload, 1) := by decide +kernel
theorem dX15_told_23 : decode cX15_told 23 = .ok (.goto 4, 3) := by decide +kernel
theorem dX15_told_26 : decode cX15_told 26 = .ok (.iconst (-1), 1) := by decide +kernel
theorem dX15_told_27 : decode cX15_told 27 = .ok (.ireturn, 1) := by decide +kernel
theorem dX15_start_0 : decode cX15_start 0 = .ok (.aload_n 0, 1) := by decide +kernel
theorem dX15_start_1 : decode cX15_start 1 = .ok (.iconst 0, 1) := by decide +kernel
theorem dX15_start_2 : decode cX15_start 2 = .ok (.putfield 108, 3) := by decide +kernel
theorem dX15_start_5 : decode cX15_start 5 = .ok (.aload_n 0, 1) := by decide +kernel
theorem dX15_start_6 : decode cX15_start 6 = .ok (.getfield 343, 3) := by decide +kernel
theorem dX15_start_9 : decode cX15_start 9 = .ok (.ifnonnull 9, 3) := by decide +kernel
theorem dX15_start_12 : decode cX15_start 12 = .ok (.aload_n 0, 1) := by decide +kernel
theorem dX15_start_13 : decode cX15_start 13 = .ok (.iconst 1, 1) := by decide +kernel
theorem dX15_start_14 : decode cX15_start 14 = .ok (.invokevirtual 374, 3) := by decide +kernel
theorem dX15_start_17 : decode cX15_start 17 = .ok (.ireturn, 1) := by decide +kernel
theorem dX15_start_18 : decode cX15_start 18 = .ok (.iload_n 1, 1) := by decide +kernel
theorem dX15_start_19 : decode cX15_start 19 = .ok (.ifCond .lt 16, 3) := by decide +kernel
theorem dX15_start_22 : decode cX15_start 22 = .ok (.iload_n 1, 1) := by decide +kernel
theorem dX15_start_23 : decode cX15_start 23 = .ok (.iconst 1, 1) := by decide +kernel
theorem dX15_start_24 : decode cX15_start 24 = .ok (.aload_n 0, 1) := by decide +kernel
theorem dX15_start_25 : decode cX15_start 25 = .ok (.getfield 343, 3) := by decide +kernel
theorem dX15_start_28 : decode cX15_start 28 = .ok (.getfield 264, 3) := by decide +kernel
theorem dX15_start_31 : decode cX15_start 31 = .ok (.ishl, 1) := by decide +kernel
theorem dX15_start_32 : decode cX15_start 32 = .ok (.if_icmp .lt 9, 3) := by decide +kernel
theorem dX15_start_35 : decode cX15_start 35 = .ok (.aload_n 0, 1) := by decide +kernel
theorem dX15_start_36 : decode cX15_start 36 = .ok (.iconst 2, 1) := by decide +kernel
theorem dX15_start_37 : decode cX15_start 37 = .ok (.invokevirtual 374, 3) := by decide +kernel
theorem dX15_start_40 : decode cX15_start 40 = .ok (.ireturn, 1) := by decide +kernel
theorem dX15_start_41 : decode cX15_start 41 = .ok (.aload_n 0, 1) := by decide +kernel
theorem dX15_start_42 : decode cX15_start 42 = .ok (.iload_n 1, 1) := by decide +kernel
theorem dX15_start_43 : decode cX15_start 43 = .ok (.putfield 346, 3) := by decide +kernel
theorem dX15_start_46 : decode cX15_start 46 = .ok (.aload_n 0, 1) := by decide +kernel
theorem dX15_start_47 : decode cX15_start 47 = .ok (.invokevirtual 381, 3) := by decide +kernel
theorem dX15_start_50 : decode cX15_start 50 = .ok (.ireturn, 1) := by decide +kernel
theorem dX15_thinOf_0 : decode cX15_thinOf 0 = .ok (.iconst 1, 1) := by decide +kernel
theorem dX15_thinOf_1 : decode cX15_thinOf 1 = .ok (.istore_n 2, 1) := by decide +kernel
theorem dX15_thinOf_2 : decode cX15_thinOf 2 = .ok (.iload_n 2, 1) := by decide +kernel
theorem dX15_thinOf_3 : decode cX15_thinOf 3 = .ok (.iload_n 1, 1) := by decide +kernel
theorem dX15_thinOf_4 : decode cX15_thinOf 4 = .ok (.if_icmp .ge 51, 3) := by decide +kernel
theorem dX15_thinOf_7 : decode cX15_thinOf 7 = .ok (.aload_n 0, 1) := by decide +kernel
theorem dX15_thinOf_8 : decode cX15_thinOf 8 = .ok (.iload_n 2, 1) := by decide +kernel
theorem dX15_thinOf_9 : decode cX15_thinOf 9 = .ok (.invokevirtual 501, 3) := by decide +kernel
theorem dX15_thinOf_12 : decode cX15_thinOf 12 = .ok (.istore_n 3, 1) := by decide +kernel
theorem dX15_thinOf_13 : decode cX15_thinOf 13 = .ok (.iload_n 3, 1) := by decide +kernel
theorem dX15_thinOf_14 : decode cX15_thinOf 14 = .ok (.ifCond .eq 35, 3) := by decide +kernel
theorem dX15_thinOf_17 : decode cX15_thinOf 17 = .ok (.aload_n 0, 1) := by decide +kernel
theorem dX15_thinOf_18 : decode cX15_thinOf 18 = .ok (.getfield 47, 3) := by decide +kernel
theorem dX15_thinOf_21 : decode cX15_thinOf 21 = .ok (.aload_n 0, 1) := by decide +kernel
theorem dX15_thinOf_22 : decode cX15_thinOf 22 = .ok (.getfield 78, 3) := by decide +kernel
theorem dX15_thinOf_25 : decode cX15_thinOf 25 = .ok (.iconst 0, 1) := by decide +kernel
theorem dX15_thinOf_26 : decode cX15_thinOf 26 = .ok (.iload_n 2, 1) := by decide +kernel
theorem dX15_thinOf_27 : decode cX15_thinOf 27 = .ok (.invokevirtual 439, 3) := by decide +kernel
theorem dX15_thinOf_30 : decode cX15_thinOf 30 = .ok (.aload_n 0, 1) := by decide +kernel
theorem dX15_thinOf_31 : decode cX15_thinOf 31 = .ok (.iconst 1, 1) := by decide +kernel
theorem dX15_thinOf_32 : decode cX15_thinOf 32 = .ok (.invokevirtual 483, 3) := by decide +kernel
theorem dX15_thinOf_35 : decode cX15_thinOf 35 = .ok (.ifCond .eq 5, 3) := by decide +kernel
theorem dX15_thinOf_38 : decode cX15_thinOf 38 = .ok (.iload_n 2, 1) := by decide +kernel
theorem dX15_thinOf_39 : decode cX15_thinOf 39 = .ok (.ireturn, 1) := by decide +kernel
theorem dX15_thinOf_40 : decode cX15_thinOf 40 = .ok (.aload_n 0, 1) := by decide +kernel
theorem dX15_thinOf_41 : decode cX15_thinOf 41 = .ok (.iload_n 2, 1) := by decide +kernel
theorem dX15_thinOf_42 : decode cX15_thinOf 42 = .ok (.invokevirtual 495, 3) := by decide +kernel
theorem dX15_thinOf_45 : decode cX15_thinOf 45 = .ok (.istore_n 3, 1) := by decide +kernel
theorem dX15_thinOf_46 : decode cX15_thinOf 46 = .ok (.goto (-33), 3) := by decide +kernel
theorem dX15_thinOf_49 : decode cX15_thinOf 49 = .ok (.iinc 2 1, 3) := by decide +kernel
theorem dX15_thinOf_52 : decode cX15_thinOf 52 = .ok (.goto (-50), 3) := by decide +kernel
theorem dX15_thinOf_55 : decode cX15_thinOf 55 = .ok (.iload_n 1, 1) := by decide +kernel
theorem dX15_thinOf_56 : decode cX15_thinOf 56 = .ok (.ireturn, 1) := by decide +kernel
theorem dX15_thin_0 : decode cX15_thin 0 = .ok (.aload_n 0, 1) := by decide +kernel
theorem dX15_thin_1 : decode cX15_thin 1 = .ok (.iconst 0, 1) := by decide +kernel
theorem dX15_thin_2 : decode cX15_thin 2 = .ok (.putfield 108, 3) := by decide +kernel
theorem dX15_thin_5 : decode cX15_thin 5 = .ok (.aload_n 0, 1) := by decide +kernel
theorem dX15_thin_6 : decode cX15_thin 6 = .ok (.getfield 343, 3) := by decide +kernel
theorem dX15_thin_9 : decode cX15_thin 9 = .ok (.ifnonnull 9, 3) := by decide +kernel
theorem dX15_thin_12 : decode cX15_thin 12 = .ok (.aload_n 0, 1) := by decide +kernel
theorem dX15_thin_13 : decode cX15_thin 13 = .ok (.iconst 1, 1) := by decide +kernel
theorem dX15_thin_14 : decode cX15_thin 14 = .ok (.invokevirtual 333, 3) := by decide +kernel
theorem dX15_thin_17 : decode cX15_thin 17 = .ok (.ireturn, 1) := by decide +kernel
theorem dX15_thin_18 : decode cX15_thin 18 = .ok (.aload_n 0, 1) := by decide +kernel
theorem dX15_thin_19 : decode cX15_thin 19 = .ok (.invokevirtual 498, 3) := by decide +kernel
theorem dX15_thin_22 : decode cX15_thin 22 = .ok (.ifCond .eq 9, 3) := by decide +kernel
theorem dX15_thin_25 : decode cX15_thin 25 = .ok (.aload_n 0, 1) := by decide +kernel
theorem dX15_thin_26 : decode cX15_thin 26 = .ok (.iconst 5, 1) := by decide +kernel
theorem dX15_thin_27 : decode cX15_thin 27 = .ok (.invokevirtual 333, 3) := by decide +kernel
theorem dX15_thin_30 : decode cX15_thin 30 = .ok (.ireturn, 1) := by decide +kernel
theorem dX15_thin_31 : decode cX15_thin 31 = .ok (.aload_n 0, 1) := by decide +kernel
theorem dX15_thin_32 : decode cX15_thin 32 = .ok (.getfield 346, 3) := by decide +kernel
theorem dX15_thin_35 : decode cX15_thin 35 = .ok (.istore_n 1, 1) := by decide +kernel
theorem dX15_thin_36 : decode cX15_thin 36 = .ok (.iconst (-1), 1) := by decide +kernel
theorem dX15_thin_37 : decode cX15_thin 37 = .ok (.istore_n 2, 1) := by decide +kernel
theorem dX15_thin_38 : decode cX15_thin 38 = .ok (.aload_n 0, 1) := by decide +kernel
theorem dX15_thin_39 : decode cX15_thin 39 = .ok (.invokevirtual 384, 3) := by decide +kernel
theorem dX15_thin_42 : decode cX15_thin 42 = .ok (.iconst 1, 1) := by decide +kernel
theorem dX15_thin_43 : decode cX15_thin 43 = .ok (.iadd, 1) := by decide +kernel
theorem dX15_thin_44 : decode cX15_thin 44 = .ok (.istore_n 3, 1) := by decide +kernel
theorem dX15_thin_45 : decode cX15_thin 45 = .ok (.iconst 0, 1) := by decide +kernel
theorem dX15_thin_46 : decode cX15_thin 46 = .ok (.istore 4, 2) := by decide +kernel
theorem dX15_thin_48 : decode cX15_thin 48 = .ok (.iload 4, 2) := by decide +kernel
theorem dX15_thin_50 : decode cX15_thin 50 = .ok (.iconst 1, 1) := by decide +kernel
theorem dX15_thin_51 : decode cX15_thin 51 = .ok (.aload_n 0, 1) := by decide +kernel
theorem dX15_thin_52 : decode cX15_thin 52 = .ok (.getfield 343, 3) := by decide +kernel
theorem dX15_thin_55 : decode cX15_thin 55 = .ok (.getfield 264, 3) := by decide +kernel
theorem dX15_thin_58 : decode cX15_thin 58 = .ok (.ishl, 1) := by decide +kernel
theorem dX15_thin_59 : decode cX15_thin 59 = .ok (.if_icmp .ge 54, 3) := by decide +kernel
theorem dX15_thin_62 : decode cX15_thin 62 = .ok (.aload_n 0, 1) := by decide +kernel
theorem dX15_thin_63 : decode cX15_thin 63 = .ok (.iload 4, 2) := by decide +kernel
theorem dX15_thin_65 : decode cX15_thin 65 = .ok (.putfield 346, 3) := by decide +kernel
theorem dX15_thin_68 : decode cX15_thin 68 = .ok (.aload_n 0, 1) := by decide +kernel
theorem dX15_thin_69 : decode cX15_thin 69 = .ok (.iconst 1, 1) := by decide +kernel
theorem dX15_thin_70 : decode cX15_thin 70 = .ok (.aload_n 0, 1) := by decide +kernel
theorem dX15_thin_71 : decode cX15_thin 71 = .ok (.getfield 31, 3) := by decide +kernel
theorem dX15_thin_74 : decode cX15_thin 74 = .ok (.iconst 0, 1) := by decide +kernel
theorem dX15_thin_75 : decode cX15_thin 75 = .ok (.iconst 0, 1) := by decide +kernel
theorem dX15_thin_76 : decode cX15_thin 76 = .ok (.invokevirtual 450, 3) := by decide +kernel
theorem dX15_thin_79 : decode cX15_thin 79 = .ok (.ifCond .eq 6, 3) := by decide +kernel
theorem dX15_thin_82 : decode cX15_thin 82 = .ok (.goto 25, 3) := by decide +kernel
theorem dX15_thin_85 : decode cX15_thin 85 = .ok (.aload_n 0, 1) := by decide +kernel
theorem dX15_thin_86 : decode cX15_thin 86 = .ok (.iload_n 3, 1) := by decide +kernel
theorem dX15_thin_87 : decode cX15_thin 87 = .ok (.invokevirtual 504, 3) := by decide +kernel
theorem dX15_thin_90 : decode cX15_thin 90 = .ok (.istore 5, 2) := by decide +kernel
theorem dX15_thin_92 : decode cX15_thin 92 = .ok (.iload 5, 2) := by decide +kernel
theorem dX15_thin_94 : decode cX15_thin 94 = .ok (.iload_n 3, 1) := by decide +kernel
theorem dX15_thin_95 : decode cX15_thin 95 = .ok (.if_icmp .ne 6, 3) := by decide +kernel
theorem dX15_thin_98 : decode cX15_thin 98 = .ok (.goto 9, 3) := by decide +kernel
theorem dX15_thin_101 : decode cX15_thin 101 = .ok (.iload 4, 2) := by decide +kernel
theorem dX15_thin_103 : decode cX15_thin 103 = .ok (.istore_n 2, 1) := by decide +kernel
theorem dX15_thin_104 : decode cX15_thin 104 = .ok (.iload 5, 2) := by decide +kernel
theorem dX15_thin_106 : decode cX15_thin 106 = .ok (.istore_n 3, 1) := by decide +kernel
theorem dX15_thin_107 : decode cX15_thin 107 = .ok (.iinc 4 1, 3) := by decide +kernel
theorem dX15_thin_110 : decode cX15_thin 110 = .ok (.goto (-62), 3) := by decide +kernel
theorem dX15_thin_113 : decode cX15_thin 113 = .ok (.aload_n 0, 1) := by decide +kernel
theorem dX15_thin_114 : decode cX15_thin 114 = .ok (.iload_n 1, 1) := by decide +kernel
theorem dX15_thin_115 : decode cX15_thin 115 = .ok (.putfield 346, 3) := by decide +kernel
theorem dX15_thin_118 : decode cX15_thin 118 = .ok (.iload_n 2, 1) := by decide +kernel
theorem dX15_thin_119 : decode cX15_thin 119 = .ok (.iconst (-1), 1) := by decide +kernel
theorem dX15_thin_120 : decode cX15_thin 120 = .ok (.if_icmp .ne 10, 3) := by decide +kernel
theorem dX15_thin_123 : decode cX15_thin 123 = .ok (.aload_n 0, 1) := by decide +kernel
theorem dX15_thin_124 : decode cX15_thin 124 = .ok (.bipush 6, 2) := by decide +kernel
theorem dX15_thin_126 : decode cX15_thin 126 = .ok (.invokevirtual 333, 3) := by decide +kernel
theorem dX15_thin_129 : decode cX15_thin 129 = .ok (.ireturn, 1) := by decide +kernel
theorem dX15_thin_130 : decode cX15_thin 130 = .ok (.aload_n 0, 1) := by decide +kernel
theorem dX15_thin_131 : decode cX15_thin 131 = .ok (.iload_n 3, 1) := by decide +kernel
theorem dX15_thin_132 : decode cX15_thin 132 = .ok (.putfield 96, 3) := by decide +kernel
theorem dX15_thin_135 : decode cX15_thin 135 = .ok (.aload_n 0, 1) := by decide +kernel
theorem dX15_thin_136 : decode cX15_thin 136 = .ok (.iload_n 2, 1) := by decide +kernel
theorem dX15_thin_137 : decode cX15_thin 137 = .ok (.invokevirtual 371, 3) := by decide +kernel
theorem dX15_thin_140 : decode cX15_thin 140 = .ok (.ireturn, 1) := by decide +kernel
theorem dX15_thinness_0 : decode cX15_thinness 0 = .ok (.aload_n 0, 1) := by decide +kernel
theorem dX15_thinness_1 : decode cX15_thinness 1 = .ok (.iconst 0, 1) := by decide +kernel
theorem dX15_thinness_2 : decode cX15_thinness 2 = .ok (.putfield 108, 3) := by decide +kernel
theorem dX15_thinness_5 : decode cX15_thinness 5 = .ok (.aload_n 0, 1) := by decide +kernel
theorem dX15_thinness_6 : decode cX15_thinness 6 = .ok (.getfield 96, 3) := by decide +kernel
theorem dX15_thinness_9 : decode cX15_thinness 9 = .ok (.ireturn, 1) := by decide +kernel
theorem dX15_leastRow_0 : decode cX15_leastRow 0 = .ok (.iconst 0, 1) := by decide +kernel
theorem dX15_leastRow_1 : decode cX15_leastRow 1 = .ok (.istore_n 1, 1) := by decide +kernel
theorem dX15_leastRow_2 : decode cX15_leastRow 2 = .ok (.iload_n 1, 1) := by decide +kernel
theorem dX15_leastRow_3 : decode cX15_leastRow 3 = .ok (.bipush 10, 2) := by decide +kernel
theorem dX15_leastRow_5 : decode cX15_leastRow 5 = .ok (.if_icmp .ge 19, 3) := by decide +kernel
theorem dX15_leastRow_8 : decode cX15_leastRow 8 = .ok (.iload_n 0, 1) := by decide +kernel
theorem dX15_leastRow_9 : decode cX15_leastRow 9 = .ok (.iload_n 1, 1) := by decide +kernel
theorem dX15_leastRow_10 : decode cX15_leastRow 10 = .ok (.invokestatic 390, 3) := by decide +kernel
theorem dX15_leastRow_13 : decode cX15_leastRow 13 = .ok (.ifCond .eq 5, 3) := by decide +kernel
theorem dX15_leastRow_16 : decode cX15_leastRow 16 = .ok (.iload_n 1, 1) := by decide +kernel
theorem dX15_leastRow_17 : decode cX15_leastRow 17 = .ok (.ireturn, 1) := by decide +kernel
theorem dX15_leastRow_18 : decode cX15_leastRow 18 = .ok (.iinc 1 1, 3) := by decide +kernel
theorem dX15_leastRow_21 : decode cX15_leastRow 21 = .ok (.goto (-19), 3) := by decide +kernel
theorem dX15_leastRow_24 : decode cX15_leastRow 24 = .ok (.iconst (-1), 1) := by decide +kernel
theorem dX15_leastRow_25 : decode cX15_leastRow 25 = .ok (.ireturn, 1) := by decide +kernel
theorem dX15_leadsTo_0 : decode cX15_leadsTo 0 = .ok (.aload_n 0, 1) := by decide +kernel
theorem dX15_leadsTo_1 : decode cX15_leadsTo 1 = .ok (.iconst 0, 1) := by decide +kernel
theorem dX15_leadsTo_2 : decode cX15_leadsTo 2 = .ok (.iload_n 1, 1) := by decide +kernel
theorem dX15_leadsTo_3 : decode cX15_leadsTo 3 = .ok (.iload_n 2, 1) := by decide +kernel
theorem dX15_leadsTo_4 : decode cX15_leadsTo 4 = .ok (.iload_n 3, 1) := by decide +kernel
theorem dX15_leadsTo_5 : decode cX15_leadsTo 5 = .ok (.invokevirtual 465, 3) := by decide +kernel
theorem dX15_leadsTo_8 : decode cX15_leadsTo 8 = .ok (.aload_n 0, 1) := by decide +kernel
theorem dX15_leadsTo_9 : decode cX15_leadsTo 9 = .ok (.getfield 66, 3) := by decide +kernel
theorem dX15_leadsTo_12 : decode cX15_leadsTo 12 = .ok (.iconst 0, 1) := by decide +kernel
theorem dX15_leadsTo_13 : decode cX15_leadsTo 13 = .ok (.iaload, 1) := by decide +kernel
theorem dX15_leadsTo_14 : decode cX15_leadsTo 14 = .ok (.istore 4, 2) := by decide +kernel
theorem dX15_leadsTo_16 : decode cX15_leadsTo 16 = .ok (.iload 4, 2) := by decide +kernel
theorem dX15_leadsTo_18 : decode cX15_leadsTo 18 = .ok (.ifCond .ne 5, 3) := by decide +kernel
theorem dX15_leadsTo_21 : decode cX15_leadsTo 21 = .ok (.iconst (-1), 1) := by decide +kernel
theorem dX15_leadsTo_22 : decode cX15_leadsTo 22 = .ok (.ireturn, 1) := by decide +kernel
theorem dX15_leadsTo_23 : decode cX15_leadsTo 23 = .ok (.iload 4, 2) := by decide +kernel
theorem dX15_leadsTo_25 : decode cX15_leadsTo 25 = .ok (.sipush 4000, 3) := by decide +kernel
theorem dX15_leadsTo_28 : decode cX15_leadsTo 28 = .ok (.if_icmp .lt 23, 3) := by decide +kernel
theorem dX15_leadsTo_31 : decode cX15_leadsTo 31 = .ok (.aload_n 0, 1) := by decide +kernel
theorem dX15_leadsTo_32 : decode cX15_leadsTo 32 = .ok (.getfield 343, 3) := by decide +kernel
theorem dX15_leadsTo_35 : decode cX15_leadsTo 35 = .ok (.getfield 270, 3) := by decide +kernel
theorem dX15_leadsTo_38 : decode cX15_leadsTo 38 = .ok (.iload 4, 2) := by decide +kernel
theorem dX15_leadsTo_40 : decode cX15_leadsTo 40 = .ok (.sipush 4000, 3) := by decide +kernel
theorem dX15_leadsTo_43 : decode cX15_leadsTo 43 = .ok (.isub, 1) := by decide +kernel
theorem dX15_leadsTo_44 : decode cX15_leadsTo 44 = .ok (.iaload, 1) := by decide +kernel
theorem dX15_leadsTo_45 : decode cX15_leadsTo 45 = .ok (.iload_n 2, 1) := by decide +kernel
theorem dX15_leadsTo_46 : decode cX15_leadsTo 46 = .ok (.iload_n 3, 1) := by decide +kernel
theorem dX15_leadsTo_47 : decode cX15_leadsTo 47 = .ok (.invokestatic 507, 3) := by decide +kernel
theorem dX15_leadsTo_50 : decode cX15_leadsTo 50 = .ok (.ireturn, 1) := by decide +kernel
theorem dX15_leadsTo_51 : decode cX15_leadsTo 51 = .ok (.iload 4, 2) := by decide +kernel
theorem dX15_leadsTo_53 : decode cX15_leadsTo 53 = .ok (.sipush 3000, 3) := by decide +kernel
theorem dX15_leadsTo_56 : decode cX15_leadsTo 56 = .ok (.if_icmp .lt 25, 3) := by decide +kernel
theorem dX15_leadsTo_59 : decode cX15_leadsTo 59 = .ok (.aload_n 0, 1) := by decide +kernel
theorem dX15_leadsTo_60 : decode cX15_leadsTo 60 = .ok (.getfield 343, 3) := by decide +kernel
theorem dX15_leadsTo_63 : decode cX15_leadsTo 63 = .ok (.getfield 270, 3) := by decide +kernel
theorem dX15_leadsTo_66 : decode cX15_leadsTo 66 = .ok (.iload 4, 2) := by decide +kernel
theorem dX15_leadsTo_68 : decode cX15_leadsTo 68 = .ok (.sipush 3000, 3) := by decide +kernel
theorem dX15_leadsTo_71 : decode cX15_leadsTo 71 = .ok (.isub, 1) := by decide +kernel
theorem dX15_leadsTo_72 : decode cX15_leadsTo 72 = .ok (.iaload, 1) := by decide +kernel
theorem dX15_leadsTo_73 : decode cX15_leadsTo 73 = .ok (.iload_n 2, 1) := by decide +kernel
theorem dX15_leadsTo_74 : decode cX15_leadsTo 74 = .ok (.iload_n 3, 1) := by decide +kernel
theorem dX15_leadsTo_75 : decode cX15_leadsTo 75 = .ok (.iconst 1, 1) := by decide +kernel
theorem dX15_leadsTo_76 : decode cX15_leadsTo 76 = .ok (.isub, 1) := by decide +kernel
theorem dX15_leadsTo_77 : decode cX15_leadsTo 77 = .ok (.invokestatic 507, 3) := by decide +kernel
theorem dX15_leadsTo_80 : decode cX15_leadsTo 80 = .ok (.ireturn, 1) := by decide +kernel
theorem dX15_leadsTo_81 : decode cX15_leadsTo 81 = .ok (.iload 4, 2) := by decide +kernel
theorem dX15_leadsTo_83 : decode cX15_leadsTo 83 = .ok (.sipush 2000, 3) := by decide +kernel
theorem dX15_leadsTo_86 : decode cX15_leadsTo 86 = .ok (.if_icmp .lt 21, 3) := by decide +kernel
theorem dX15_leadsTo_89 : decode cX15_leadsTo 89 = .ok (.sipush 1000, 3) := by decide +kernel
theorem dX15_leadsTo_92 : decode cX15_leadsTo 92 = .ok (.iload 4, 2) := by decide +kernel
theorem dX15_leadsTo_94 : decode cX15_leadsTo 94 = .ok (.sipush 2000, 3) := by decide +kernel
theorem dX15_leadsTo_97 : decode cX15_leadsTo 97 = .ok (.isub, 1) := by decide +kernel
theorem dX15_leadsTo_98 : decode cX15_leadsTo 98 = .ok (.imul, 1) := by decide +kernel
theorem dX15_leadsTo_99 : decode cX15_leadsTo 99 = .ok (.bipush 100, 2) := by decide +kernel
theorem dX15_leadsTo_101 : decode cX15_leadsTo 101 = .ok (.iload_n 2, 1) := by decide +kernel
theorem dX15_leadsTo_102 : decode cX15_leadsTo 102 = .ok (.imul, 1) := by decide +kernel
theorem dX15_leadsTo_103 : decode cX15_leadsTo 103 = .ok (.iadd, 1) := by decide +kernel
theorem dX15_leadsTo_104 : decode cX15_leadsTo 104 = .ok (.iload_n 1, 1) := by decide +kernel
theorem dX15_leadsTo_105 : decode cX15_leadsTo 105 = .ok (.iadd, 1) := by decide +kernel
theorem dX15_leadsTo_106 : decode cX15_leadsTo 106 = .ok (.ireturn, 1) := by decide +kernel
theorem dX15_leadsTo_107 : decode cX15_leadsTo 107 = .ok (.iload 4, 2) := by decide +kernel
theorem dX15_leadsTo_109 : decode cX15_leadsTo 109 = .ok (.sipush 1000, 3) := by decide +kernel
theorem dX15_leadsTo_112 : decode cX15_leadsTo 112 = .ok (.isub, 1) := by decide +kernel
theorem dX15_leadsTo_113 : decode cX15_leadsTo 113 = .ok (.bipush 10, 2) := by decide +kernel
theorem dX15_leadsTo_115 : decode cX15_leadsTo 115 = .ok (.idiv, 1) := by decide +kernel
theorem dX15_leadsTo_116 : decode cX15_leadsTo 116 = .ok (.istore 5, 2) := by decide +kernel
theorem dX15_leadsTo_118 : decode cX15_leadsTo 118 = .ok (.iload 4, 2) := by decide +kernel
theorem dX15_leadsTo_120 : decode cX15_leadsTo 120 = .ok (.bipush 10, 2) := by decide +kernel
theorem dX15_leadsTo_122 : decode cX15_leadsTo 122 = .ok (.irem, 1) := by decide +kernel
theorem dX15_leadsTo_123 : decode cX15_leadsTo 123 = .ok (.istore 6, 2) := by decide +kernel
theorem dX15_leadsTo_125 : decode cX15_leadsTo 125 = .ok (.aload_n 0, 1) := by decide +kernel
theorem dX15_leadsTo_126 : decode cX15_leadsTo 126 = .ok (.getfield 343, 3) := by decide +kernel
theorem dX15_leadsTo_129 : decode cX15_leadsTo 129 = .ok (.getfield 270, 3) := by decide +kernel
theorem dX15_leadsTo_132 : decode cX15_leadsTo 132 = .ok (.bipush 10, 2) := by decide +kernel
theorem dX15_leadsTo_134 : decode cX15_leadsTo 134 = .ok (.iload 5, 2) := by decide +kernel
theorem dX15_leadsTo_136 : decode cX15_leadsTo 136 = .ok (.iadd, 1) := by decide +kernel
theorem dX15_leadsTo_137 : decode cX15_leadsTo 137 = .ok (.iaload, 1) := by decide +kernel
theorem dX15_leadsTo_138 : decode cX15_leadsTo 138 = .ok (.aload_n 0, 1) := by decide +kernel
theorem dX15_leadsTo_139 : decode cX15_leadsTo 139 = .ok (.getfield 343, 3) := by decide +kernel
theorem dX15_leadsTo_142 : decode cX15_leadsTo 142 = .ok (.getfield 303, 3) := by decide +kernel
theorem dX15_leadsTo_145 : decode cX15_leadsTo 145 = .ok (.iload 5, 2) := by decide +kernel
theorem dX15_leadsTo_147 : decode cX15_leadsTo 147 = .ok (.iaload, 1) := by decide +kernel
theorem dX15_leadsTo_148 : decode cX15_leadsTo 148 = .ok (.aload_n 0, 1) := by decide +kernel
theorem dX15_leadsTo_149 : decode cX15_leadsTo 149 = .ok (.getfield 62, 3) := by decide +kernel
theorem dX15_leadsTo_152 : decode cX15_leadsTo 152 = .ok (.iconst 0, 1) := by decide +kernel
theorem dX15_leadsTo_153 : decode cX15_leadsTo 153 = .ok (.bipush 7, 2) := by decide +kernel
theorem dX15_leadsTo_155 : decode cX15_leadsTo 155 = .ok (.iload 5, 2) := by decide +kernel
theorem dX15_leadsTo_157 : decode cX15_leadsTo 157 = .ok (.imul, 1) := by decide +kernel
theorem dX15_leadsTo_158 : decode cX15_leadsTo 158 = .ok (.iadd, 1) := by decide +kernel
theorem dX15_leadsTo_159 : decode cX15_leadsTo 159 = .ok (.iload 6, 2) := by decide +kernel
theorem dX15_leadsTo_161 : decode cX15_leadsTo 161 = .ok (.iadd, 1) := by decide +kernel
theorem dX15_leadsTo_162 : decode cX15_leadsTo 162 = .ok (.baload, 1) := by decide +kernel
theorem dX15_leadsTo_163 : decode cX15_leadsTo 163 = .ok (.ifCond .eq 10, 3) := by decide +kernel
theorem dX15_leadsTo_166 : decode cX15_leadsTo 166 = .ok (.iload 6, 2) := by decide +kernel
theorem dX15_leadsTo_168 : decode cX15_leadsTo 168 = .ok (.iconst 1, 1) := by decide +kernel
theorem dX15_leadsTo_169 : decode cX15_leadsTo 169 = .ok (.isub, 1) := by decide +kernel
theorem dX15_leadsTo_170 : decode cX15_leadsTo 170 = .ok (.goto 5, 3) := by decide +kernel
theorem dX15_leadsTo_173 : decode cX15_leadsTo 173 = .ok (.iload 6, 2) := by decide +kernel
theorem dX15_leadsTo_175 : decode cX15_leadsTo 175 = .ok (.invokestatic 507, 3) := by decide +kernel
theorem dX15_leadsTo_178 : decode cX15_leadsTo 178 = .ok (.ireturn, 1) := by decide +kernel
theorem dX15_linked_0 : decode cX15_linked 0 = .ok (.iload_n 0, 1) := by decide +kernel
theorem dX15_linked_1 : decode cX15_linked 1 = .ok (.invokestatic 510, 3) := by decide +kernel
theorem dX15_linked_4 : decode cX15_linked 4 = .ok (.istore_n 3, 1) := by decide +kernel
theorem dX15_linked_5 : decode cX15_linked 5 = .ok (.iload_n 3, 1) := by decide +kernel
theorem dX15_linked_6 : decode cX15_linked 6 = .ok (.iconst (-1), 1) := by decide +kernel
theorem dX15_linked_7 : decode cX15_linked 7 = .ok (.if_icmp .ne 7, 3) := by decide +kernel
theorem dX15_linked_10 : decode cX15_linked 10 = .ok (.iconst (-1), 1) := by decide +kernel
theorem dX15_linked_11 : decode cX15_linked 11 = .ok (.goto 15, 3) := by decide +kernel
theorem dX15_linked_14 : decode cX15_linked 14 = .ok (.sipush 1000, 3) := by decide +kernel
theorem dX15_linked_17 : decode cX15_linked 17 = .ok (.iload_n 2, 1) := by decide +kernel
theorem dX15_linked_18 : decode cX15_linked 18 = .ok (.imul, 1) := by decide +kernel
theorem dX15_linked_19 : decode cX15_linked 19 = .ok (.bipush 100, 2) := by decide +kernel
theorem dX15_linked_21 : decode cX15_linked 21 = .ok (.iload_n 1, 1) := by decide +kernel
theorem dX15_linked_22 : decode cX15_linked 22 = .ok (.imul, 1) := by decide +kernel
theorem dX15_linked_23 : decode cX15_linked 23 = .ok (.iadd, 1) := by decide +kernel
theorem dX15_linked_24 : decode cX15_linked 24 = .ok (.iload_n 3, 1) := by decide +kernel
theorem dX15_linked_25 : decode cX15_linked 25 = .ok (.iadd, 1) := by decide +kernel
theorem dX15_linked_26 : decode cX15_linked 26 = .ok (.ireturn, 1) := by decide +kernel
theorem dX15_led_0 : decode cX15_led 0 = .ok (.aload_n 0, 1) := by decide +kernel
theorem dX15_led_1 : decode cX15_led 1 = .ok (.iconst 1, 1) := by decide +kernel
theorem dX15_led_2 : decode cX15_led 2 = .ok (.putfield 108, 3) := by decide +kernel
theorem dX15_led_5 : decode cX15_led 5 = .ok (.aload_n 0, 1) := by decide +kernel
theorem dX15_led_6 : decode cX15_led 6 = .ok (.getfield 343, 3) := by decide +kernel
theorem dX15_led_9 : decode cX15_led 9 = .ok (.ifnull 7, 3) := by decide +kernel
theorem dX15_led_12 : decode cX15_led 12 = .ok (.iload_n 1, 1) := by decide +kernel
theorem dX15_led_13 : decode cX15_led 13 = .ok (.ifCond .ge 5, 3) := by decide +kernel
theorem dX15_led_16 : decode cX15_led 16 = .ok (.iconst 0, 1) := by decide +kernel
theorem dX15_led_17 : decode cX15_led 17 = .ok (.ireturn, 1) := by decide +kernel
theorem dX15_led_18 : decode cX15_led 18 = .ok (.aload_n 0, 1) := by decide +kernel
theorem dX15_led_19 : decode cX15_led 19 = .ok (.iconst 0, 1) := by decide +kernel
theorem dX15_led_20 : decode cX15_led 20 = .ok (.aload_n 0, 1) := by decide +kernel
theorem dX15_led_21 : decode cX15_led 21 = .ok (.getfield 31, 3) := by decide +kernel
theorem dX15_led_24 : decode cX15_led 24 = .ok (.iconst 0, 1) := by decide +kernel
theorem dX15_led_25 : decode cX15_led 25 = .ok (.aload_n 0, 1) := by decide +kernel
theorem dX15_led_26 : decode cX15_led 26 = .ok (.getfield 349, 3) := by decide +kernel
theorem dX15_led_29 : decode cX15_led 29 = .ok (.invokevirtual 450, 3) := by decide +kernel
theorem dX15_led_32 : decode cX15_led 32 = .ok (.istore_n 2, 1) := by decide +kernel
theorem dX15_led_33 : decode cX15_led 33 = .ok (.iconst (-1), 1) := by decide +kernel
theorem dX15_led_34 : decode cX15_led 34 = .ok (.istore_n 3, 1) := by decide +kernel
theorem dX15_led_35 : decode cX15_led 35 = .ok (.aload_n 0, 1) := by decide +kernel
theorem dX15_led_36 : decode cX15_led 36 = .ok (.getfield 343, 3) := by decide +kernel
theorem dX15_led_39 : decode cX15_led 39 = .ok (.getfield 327, 3) := by decide +kernel
theorem dX15_led_42 : decode cX15_led 42 = .ok (.iconst 1, 1) := by decide +kernel
theorem dX15_led_43 : decode cX15_led 43 = .ok (.isub, 1) := by decide +kernel
theorem dX15_led_44 : decode cX15_led 44 = .ok (.istore 4, 2) := by decide +kernel
theorem dX15_led_46 : decode cX15_led 46 = .ok (.iload 4, 2) := by decide +kernel
theorem dX15_led_48 : decode cX15_led 48 = .ok (.ifCond .lt 75, 3) := by decide +kernel
theorem dX15_led_51 : decode cX15_led 51 = .ok (.aload_n 0, 1) := by decide +kernel
theorem dX15_led_52 : decode cX15_led 52 = .ok (.iconst 0, 1) := by decide +kernel
theorem dX15_led_53 : decode cX15_led 53 = .ok (.aload_n 0, 1) := by decide +kernel
theorem dX15_led_54 : decode cX15_led 54 = .ok (.getfield 343, 3) := by decide +kernel
theorem dX15_led_57 : decode cX15_led 57 = .ok (.getfield 321, 3) := by decide +kernel
theorem dX15_led_60 : decode cX15_led 60 = .ok (.iload 4, 2) := by decide +kernel
theorem dX15_led_62 : decode cX15_led 62 = .ok (.iaload, 1) := by decide +kernel
theorem dX15_led_63 : decode cX15_led 63 = .ok (.aload_n 0, 1) := by decide +kernel
theorem dX15_led_64 : decode cX15_led 64 = .ok (.getfield 343, 3) := by decide +kernel
theorem dX15_led_67 : decode cX15_led 67 = .ok (.getfield 324, 3) := by decide +kernel
theorem dX15_led_70 : decode cX15_led 70 = .ok (.iload 4, 2) := by decide +kernel
theorem dX15_led_72 : decode cX15_led 72 = .ok (.iaload, 1) := by decide +kernel
theorem dX15_led_73 : decode cX15_led 73 = .ok (.aload_n 0, 1) := by decide +kernel
theorem dX15_led_74 : decode cX15_led 74 = .ok (.getfield 24, 3) := by decide +kernel
theorem dX15_led_77 : decode cX15_led 77 = .ok (.invokevirtual 436, 3) := by decide +kernel
theorem dX15_led_80 : decode cX15_led 80 = .ok (.ifCond .eq 37, 3) := by decide +kernel
theorem dX15_led_83 : decode cX15_led 83 = .ok (.sipush 1000, 3) := by decide +kernel
theorem dX15_led_86 : decode cX15_led 86 = .ok (.aload_n 0, 1) := by decide +kernel
theorem dX15_led_87 : decode cX15_led 87 = .ok (.getfield 24, 3) := by decide +kernel
theorem dX15_led_90 : decode cX15_led 90 = .ok (.imul, 1) := by decide +kernel
theorem dX15_led_91 : decode cX15_led 91 = .ok (.bipush 100, 2) := by decide +kernel
theorem dX15_led_93 : decode cX15_led 93 = .ok (.aload_n 0, 1) := by decide +kernel
theorem dX15_led_94 : decode cX15_led 94 = .ok (.getfield 343, 3) := by decide +kernel
theorem dX15_led_97 : decode cX15_led 97 = .ok (.getfield 324, 3) := by decide +kernel
theorem dX15_led_100 : decode cX15_led 100 = .ok (.iload 4, 2) := by decide +kernel
theorem dX15_led_102 : decode cX15_led 102 = .ok (.iaload, 1) := by decide +kernel
theorem dX15_led_103 : decode cX15_led 103 = .ok (.imul, 1) := by decide +kernel
theorem dX15_led_104 : decode cX15_led 104 = .ok (.iadd, 1) := by decide +kernel
theorem dX15_led_105 : decode cX15_led 105 = .ok (.aload_n 0, 1) := by decide +kernel
theorem dX15_led_106 : decode cX15_led 106 = .ok (.getfield 343, 3) := by decide +kernel
theorem dX15_led_109 : decode cX15_led 109 = .ok (.getfield 321, 3) := by decide +kernel
theorem dX15_led_112 : decode cX15_led 112 = .ok (.iload 4, 2) := by decide +kernel
theorem dX15_led_114 : decode cX15_led 114 = .ok (.iaload, 1) := by decide +kernel
theorem dX15_led_115 : decode cX15_led 115 = .ok (.iadd, 1) := by decide +kernel
theorem dX15_led_116 : decode cX15_led 116 = .ok (.istore_n 3, 1) := by decide +kernel
theorem dX15_led_117 : decode cX15_led 117 = .ok (.iinc 4 (-1), 3) := by decide +kernel
theorem dX15_led_120 : decode cX15_led 120 = .ok (.goto (-74), 3) := by decide +kernel
theorem dX15_led_123 : decode cX15_led 123 = .ok (.iconst 0, 1) := by decide +kernel
theorem dX15_led_124 : decode cX15_led 124 = .ok (.istore 4, 2) := by decide +kernel
theorem dX15_led_126 : decode cX15_led 126 = .ok (.iload_n 3, 1) := by decide +kernel
theorem dX15_led_127 : decode cX15_led 127 = .ok (.iconst (-1), 1) := by decide +kernel
theorem dX15_led_128 : decode cX15_led 128 = .ok (.if_icmp .eq 67, 3) := by decide +kernel
theorem dX15_led_131 : decode cX15_led 131 = .ok (.aload_n 0, 1) := by decide +kernel
theorem dX15_led_132 : decode cX15_led 132 = .ok (.getfield 99, 3) := by decide +kernel
theorem dX15_led_135 : decode cX15_led 135 = .ok (.iload 4, 2) := by decide +kernel
theorem dX15_led_137 : decode cX15_led 137 = .ok (.iload_n 3, 1) := by decide +kernel
theorem dX15_led_138 : decode cX15_led 138 = .ok (.iastore, 1) := by decide +kernel
theorem dX15_led_139 : decode cX15_led 139 = .ok (.iinc 4 1, 3) := by decide +kernel
theorem dX15_led_142 : decode cX15_led 142 = .ok (.aload_n 0, 1) := by decide +kernel
theorem dX15_led_143 : decode cX15_led 143 = .ok (.iload_n 3, 1) := by decide +kernel
theorem dX15_led_144 : decode cX15_led 144 = .ok (.bipush 100, 2) := by decide +kernel
theorem dX15_led_146 : decode cX15_led 146 = .ok (.irem, 1) := by decide +kernel
theorem dX15_led_147 : decode cX15_led 147 = .ok (.iload_n 3, 1) := by decide +kernel
theorem dX15_led_148 : decode cX15_led 148 = .ok (.bipush 100, 2) := by decide +kernel
theorem dX15_led_150 : decode cX15_led 150 = .ok (.idiv, 1) := by decide +kernel
theorem dX15_led_151 : decode cX15_led 151 = .ok (.bipush 10, 2) := by decide +kernel
theorem dX15_led_153 : decode cX15_led 153 = .ok (.irem, 1) := by decide +kernel
theorem dX15_led_154 : decode cX15_led 154 = .ok (.iload_n 3, 1) := by decide +kernel
theorem dX15_led_155 : decode cX15_led 155 = .ok (.sipush 1000, 3) := by decide +kernel
theorem dX15_led_158 : decode cX15_led 158 = .ok (.idiv, 1) := by decide +kernel
theorem dX15_led_159 : decode cX15_led 159 = .ok (.invokevirtual 513, 3) := by decide +kernel
theorem dX15_led_162 : decode cX15_led 162 = .ok (.istore_n 3, 1) := by decide +kernel
theorem dX15_led_163 : decode cX15_led 163 = .ok (.iconst 0, 1) := by decide +kernel
theorem dX15_led_164 : decode cX15_led 164 = .ok (.istore 5, 2) := by decide +kernel
theorem dX15_led_166 : decode cX15_led 166 = .ok (.iload 5, 2) := by decide +kernel
theorem dX15_led_168 : decode cX15_led 168 = .ok (.iload 4, 2) := by decide +kernel
theorem dX15_led_170 : decode cX15_led 170 = .ok (.if_icmp .ge 22, 3) := by decide +kernel
theorem dX15_led_173 : decode cX15_led 173 = .ok (.aload_n 0, 1) := by decide +kernel
theorem dX15_led_174 : decode cX15_led 174 = .ok (.getfield 99, 3) := by decide +kernel
theorem dX15_led_177 : decode cX15_led 177 = .ok (.iload 5, 2) := by decide +kernel
theorem dX15_led_179 : decode cX15_led 179 = .ok (.iaload, 1) := by decide +kernel
theorem dX15_led_180 : decode cX15_led 180 = .ok (.iload_n 3, 1) := by decide +kernel
theorem dX15_led_181 : decode cX15_led 181 = .ok (.if_icmp .ne 5, 3) := by decide +kernel
theorem dX15_led_184 : decode cX15_led 184 = .ok (.iconst (-1), 1) := by decide +kernel
theorem dX15_led_185 : decode cX15_led 185 = .ok (.istore_n 3, 1) := by decide +kernel
theorem dX15_led_186 : decode cX15_led 186 = .ok (.iinc 5 1, 3) := by decide +kernel
theorem dX15_led_189 : decode cX15_led 189 = .ok (.goto (-23), 3) := by decide +kernel
theorem dX15_led_192 : decode cX15_led 192 = .ok (.goto (-66), 3) := by decide +kernel
theorem dX15_led_195 : decode cX15_led 195 = .ok (.iload_n 1, 1) := by decide +kernel
theorem dX15_led_196 : decode cX15_led 196 = .ok (.iload 4, 2) := by decide +kernel
theorem dX15_led_198 : decode cX15_led 198 = .ok (.if_icmp .lt 5, 3) := by decide +kernel
theorem dX15_led_201 : decode cX15_led 201 = .ok (.iconst 0, 1) := by decide +kernel
theorem dX15_led_202 : decode cX15_led 202 = .ok (.ireturn, 1) := by decide +kernel
theorem dX15_led_203 : decode cX15_led 203 = .ok (.aload_n 0, 1) := by decide +kernel
theorem dX15_led_204 : decode cX15_led 204 = .ok (.iconst 0, 1) := by decide +kernel
theorem dX15_led_205 : decode cX15_led 205 = .ok (.putfield 108, 3) := by decide +kernel
theorem dX15_led_208 : decode cX15_led 208 = .ok (.aload_n 0, 1) := by decide +kernel
theorem dX15_led_209 : decode cX15_led 209 = .ok (.getfield 99, 3) := by decide +kernel
theorem dX15_led_212 : decode cX15_led 212 = .ok (.iload_n 1, 1) := by decide +kernel
theorem dX15_led_213 : decode cX15_led 213 = .ok (.iaload, 1) := by decide +kernel
theorem dX15_led_214 : decode cX15_led 214 = .ok (.ireturn, 1) := by decide +kernel
theorem dX15_mend_0 : decode cX15_mend 0 = .ok (.aload_n 0, 1) := by decide +kernel
theorem dX15_mend_1 : decode cX15_mend 1 = .ok (.iconst 0, 1) := by decide +kernel
theorem dX15_mend_2 : decode cX15_mend 2 = .ok (.putfield 108, 3) := by decide +kernel
theorem dX15_mend_5 : decode cX15_mend 5 = .ok (.iload_n 1, 1) := by decide +kernel
theorem dX15_mend_6 : decode cX15_mend 6 = .ok (.ifCond .ne 11, 3) := by decide +kernel
theorem dX15_mend_9 : decode cX15_mend 9 = .ok (.aload_n 0, 1) := by decide +kernel
theorem dX15_mend_10 : decode cX15_mend 10 = .ok (.iload_n 2, 1) := by decide +kernel
theorem dX15_mend_11 : decode cX15_mend 11 = .ok (.invokevirtual 454, 3) := by decide +kernel
theorem dX15_mend_14 : decode cX15_mend 14 = .ok (.goto 25, 3) := by decide +kernel
theorem dX15_mend_17 : decode cX15_mend 17 = .ok (.iload_n 1, 1) := by decide +kernel
theorem dX15_mend_18 : decode cX15_mend 18 = .ok (.iconst 1, 1) := by decide +kernel
theorem dX15_mend_19 : decode cX15_mend 19 = .ok (.iconst 2, 1) := by decide +kernel
theorem dX15_mend_20 : decode cX15_mend 20 = .ok (.invokestatic 377, 3) := by decide +kernel
theorem dX15_mend_23 : decode cX15_mend 23 = .ok (.ifCond .eq 15, 3) := by decide +kernel
theorem dX15_mend_26 : decode cX15_mend 26 = .ok (.aload_n 0, 1) := by decide +kernel
theorem dX15_mend_27 : decode cX15_mend 27 = .ok (.iload_n 2, 1) := by decide +kernel
theorem dX15_mend_28 : decode cX15_mend 28 = .ok (.invokevirtual 469, 3) := by decide +kernel
theorem dX15_mend_31 : decode cX15_mend 31 = .ok (.ifCond .eq 7, 3) := by decide +kernel
theorem dX15_mend_34 : decode cX15_mend 34 = .ok (.iconst 1, 1) := by decide +kernel
theorem dX15_mend_35 : decode cX15_mend 35 = .ok (.goto 4, 3) := by decide +kernel
theorem dX15_mend_38 : decode cX15_mend 38 = .ok (.iconst 0, 1) := by decide +kernel
theorem dX15_mend_39 : decode cX15_mend 39 = .ok (.istore_n 3, 1) := by decide +kernel
theorem dX15_mend_40 : decode cX15_mend 40 = .ok (.iload_n 3, 1) := by decide +kernel
theorem dX15_mend_41 : decode cX15_mend 41 = .ok (.ifCond .ne 9, 3) := by decide +kernel
theorem dX15_mend_44 : decode cX15_mend 44 = .ok (.aload_n 0, 1) := by decide +kernel
theorem dX15_mend_45 : decode cX15_mend 45 = .ok (.iconst 1, 1) := by decide +kernel
theorem dX15_mend_46 : decode cX15_mend 46 = .ok (.invokevirtual 333, 3) := by decide +kernel
theorem dX15_mend_49 : decode cX15_mend 49 = .ok (.ireturn, 1) := by decide +kernel
theorem dX15_mend_50 : decode cX15_mend 50 = .ok (.iconst 0, 1) := by decide +kernel
theorem dX15_mend_51 : decode cX15_mend 51 = .ok (.istore 4, 2) := by decide +kernel
theorem dX15_mend_53 : decode cX15_mend 53 = .ok (.iload 4, 2) := by decide +kernel
theorem dX15_mend_55 : decode cX15_mend 55 = .ok (.aload_n 0, 1) := by decide +kernel
theorem dX15_mend_56 : decode cX15_mend 56 = .ok (.getfield 352, 3) := by decide +kernel
theorem dX15_mend_59 : decode cX15_mend 59 = .ok (.if_icmp .ge 37, 3) := by decide +kernel
theorem dX15_mend_62 : decode cX15_mend 62 = .ok (.aload_n 0, 1) := by decide +kernel
theorem dX15_mend_63 : decode cX15_mend 63 = .ok (.getfield 102, 3) := by decide +kernel
theorem dX15_mend_66 : decode cX15_mend 66 = .ok (.iload 4, 2) := by decide +kernel
theorem dX15_mend_68 : decode cX15_mend 68 = .ok (.iaload, 1) := by decide +kernel
theorem dX15_mend_69 : decode cX15_mend 69 = .ok (.iload_n 1, 1) := by decide +kernel
theorem dX15_mend_70 : decode cX15_mend 70 = .ok (.if_icmp .ne 20, 3) := by decide +kernel
theorem dX15_mend_73 : decode cX15_mend 73 = .ok (.aload_n 0, 1) := by decide +kernel
theorem dX15_mend_74 : decode cX15_mend 74 = .ok (.getfield 105, 3) := by decide +kernel
theorem dX15_mend_77 : decode cX15_mend 77 = .ok (.iload 4, 2) := by decide +kernel
theorem dX15_mend_79 : decode cX15_mend 79 = .ok (.iaload, 1) := by decide +kernel
theorem dX15_mend_80 : decode cX15_mend 80 = .ok (.iload_n 2, 1) := by decide +kernel
theorem dX15_mend_81 : decode cX15_mend 81 = .ok (.if_icmp .ne 9, 3) := by decide +kernel
theorem dX15_mend_84 : decode cX15_mend 84 = .ok (.aload_n 0, 1) := by decide +kernel
theorem dX15_mend_85 : decode cX15_mend 85 = .ok (.iconst 5, 1) := by decide +kernel
theorem dX15_mend_86 : decode cX15_mend 86 = .ok (.invokevirtual 333, 3) := by decide +kernel
theorem dX15_mend_89 : decode cX15_mend 89 = .ok (.ireturn, 1) := by decide +kernel
theorem dX15_mend_90 : decode cX15_mend 90 = .ok (.iinc 4 1, 3) := by decide +kernel
theorem dX15_mend_93 : decode cX15_mend 93 = .ok (.goto (-40), 3) := by decide +kernel
theorem dX15_mend_96 : decode cX15_mend 96 = .ok (.aload_n 0, 1) := by decide +kernel
theorem dX15_mend_97 : decode cX15_mend 97 = .ok (.getfield 352, 3) := by decide +kernel
theorem dX15_mend_100 : decode cX15_mend 100 = .ok (.bipush 6, 2) := by decide +kernel
theorem dX15_mend_102 : decode cX15_mend 102 = .ok (.if_icmp .ne 9, 3) := by decide +kernel
theorem dX15_mend_105 : decode cX15_mend 105 = .ok (.aload_n 0, 1) := by decide +kernel
theorem dX15_mend_106 : decode cX15_mend 106 = .ok (.iconst 3, 1) := by decide +kernel
theorem dX15_mend_107 : decode cX15_mend 107 = .ok (.invokevirtual 333, 3) := by decide +kernel
theorem dX15_mend_110 : decode cX15_mend 110 = .ok (.ireturn, 1) := by decide +kernel
theorem dX15_mend_111 : decode cX15_mend 111 = .ok (.aload_n 0, 1) := by decide +kernel
theorem dX15_mend_112 : decode cX15_mend 112 = .ok (.getfield 102, 3) := by decide +kernel
theorem dX15_mend_115 : decode cX15_mend 115 = .ok (.aload_n 0, 1) := by decide +kernel
theorem dX15_mend_116 : decode cX15_mend 116 = .ok (.getfield 352, 3) := by decide +kernel
theorem dX15_mend_119 : decode cX15_mend 119 = .ok (.iload_n 1, 1) := by decide +kernel
theorem dX15_mend_120 : decode cX15_mend 120 = .ok (.iastore, 1) := by decide +kernel
theorem dX15_mend_121 : decode cX15_mend 121 = .ok (.aload_n 0, 1) := by decide +kernel
theorem dX15_mend_122 : decode cX15_mend 122 = .ok (.getfield 105, 3) := by decide +kernel
theorem dX15_mend_125 : decode cX15_mend 125 = .ok (.aload_n 0, 1) := by decide +kernel
theorem dX15_mend_126 : decode cX15_mend 126 = .ok (.getfield 352, 3) := by decide +kernel
theorem dX15_mend_129 : decode cX15_mend 129 = .ok (.iload_n 2, 1) := by decide +kernel
theorem dX15_mend_130 : decode cX15_mend 130 = .ok (.iastore, 1) := by decide +kernel
theorem dX15_mend_131 : decode cX15_mend 131 = .ok (.aload_n 0, 1) := by decide +kernel
theorem dX15_mend_132 : decode cX15_mend 132 = .ok (.dup, 1) := by decide +kernel
theorem dX15_mend_133 : decode cX15_mend 133 = .ok (.getfield 352, 3) := by decide +kernel
theorem dX15_mend_136 : decode cX15_mend 136 = .ok (.iconst 1, 1) := by decide +kernel
theorem dX15_mend_137 : decode cX15_mend 137 = .ok (.iadd, 1) := by decide +kernel
theorem dX15_mend_138 : decode cX15_mend 138 = .ok (.putfield 352, 3) := by decide +kernel
theorem dX15_mend_141 : decode cX15_mend 141 = .ok (.aload_n 0, 1) := by decide +kernel
theorem dX15_mend_142 : decode cX15_mend 142 = .ok (.aload_n 0, 1) := by decide +kernel
theorem dX15_mend_143 : decode cX15_mend 143 = .ok (.getfield 352, 3) := by decide +kernel
theorem dX15_mend_146 : decode cX15_mend 146 = .ok (.iconst 1, 1) := by decide +kernel
theorem dX15_mend_147 : decode cX15_mend 147 = .ok (.isub, 1) := by decide +kernel
theorem dX15_mend_148 : decode cX15_mend 148 = .ok (.invokevirtual 371, 3) := by decide +kernel
theorem dX15_mend_151 : decode cX15_mend 151 = .ok (.ireturn, 1) := by decide +kernel
theorem dX15_keep_0 : decode cX15_keep 0 = .ok (.aload_n 0, 1) := by decide +kernel
theorem dX15_keep_1 : decode cX15_keep 1 = .ok (.iconst 0, 1) := by decide +kernel
theorem dX15_keep_2 : decode cX15_keep 2 = .ok (.putfield 108, 3) := by decide +kernel
theorem dX15_keep_5 : decode cX15_keep 5 = .ok (.aload_n 0, 1) := by decide +kernel
theorem dX15_keep_6 : decode cX15_keep 6 = .ok (.getfield 343, 3) := by decide +kernel
theorem dX15_keep_9 : decode cX15_keep 9 = .ok (.ifnonnull 9, 3) := by decide +kernel
theorem dX15_keep_12 : decode cX15_keep 12 = .ok (.aload_n 0, 1) := by decide +kernel
theorem dX15_keep_13 : decode cX15_keep 13 = .ok (.iconst 1, 1) := by decide +kernel
theorem dX15_keep_14 : decode cX15_keep 14 = .ok (.invokevirtual 333, 3) := by decide +kernel
theorem dX15_keep_17 : decode cX15_keep 17 = .ok (.ireturn, 1) := by decide +kernel
theorem dX15_keep_18 : decode cX15_keep 18 = .ok (.aload_n 0, 1) := by decide +kernel
theorem dX15_keep_19 : decode cX15_keep 19 = .ok (.getfield 349, 3) := by decide +kernel
theorem dX15_keep_22 : decode cX15_keep 22 = .ok (.ifCond .ne 9, 3) := by decide +kernel
theorem dX15_keep_25 : decode cX15_keep 25 = .ok (.aload_n 0, 1) := by decide +kernel
theorem dX15_keep_26 : decode cX15_keep 26 = .ok (.iconst 5, 1) := by decide +kernel
theorem dX15_keep_27 : decode cX15_keep 27 = .ok (.invokevirtual 333, 3) := by decide +kernel
theorem dX15_keep_30 : decode cX15_keep 30 = .ok (.ireturn, 1) := by decide +kernel
theorem dX15_keep_31 : decode cX15_keep 31 = .ok (.aload_n 0, 1) := by decide +kernel
theorem dX15_keep_32 : decode cX15_keep 32 = .ok (.getfield 355, 3) := by decide +kernel
theorem dX15_keep_35 : decode cX15_keep 35 = .ok (.bipush 8, 2) := by decide +kernel
theorem dX15_keep_37 : decode cX15_keep 37 = .ok (.if_icmp .ne 9, 3) := by decide +kernel
theorem dX15_keep_40 : decode cX15_keep 40 = .ok (.aload_n 0, 1) := by decide +kernel
theorem dX15_keep_41 : decode cX15_keep 41 = .ok (.iconst 3, 1) := by decide +kernel
theorem dX15_keep_42 : decode cX15_keep 42 = .ok (.invokevirtual 333, 3) := by decide +kernel
theorem dX15_keep_45 : decode cX15_keep 45 = .ok (.ireturn, 1) := by decide +kernel
theorem dX15_keep_46 : decode cX15_keep 46 = .ok (.aload_n 0, 1) := by decide +kernel
theorem dX15_keep_47 : decode cX15_keep 47 = .ok (.getfield 34, 3) := by decide +kernel
theorem dX15_keep_50 : decode cX15_keep 50 = .ok (.aload_n 0, 1) := by decide +kernel
theorem dX15_keep_51 : decode cX15_keep 51 = .ok (.getfield 355, 3) := by decide +kernel
theorem dX15_keep_54 : decode cX15_keep 54 = .ok (.aload_n 0, 1) := by decide +kernel
theorem dX15_keep_55 : decode cX15_keep 55 = .ok (.getfield 349, 3) := by decide +kernel
theorem dX15_keep_58 : decode cX15_keep 58 = .ok (.iastore, 1) := by decide +kernel
theorem dX15_keep_59 : decode cX15_keep 59 = .ok (.iconst 0, 1) := by decide +kernel
theorem dX15_keep_60 : decode cX15_keep 60 = .ok (.istore_n 1, 1) := by decide +kernel
theorem dX15_keep_61 : decode cX15_keep 61 = .ok (.iload_n 1, 1) := by decide +kernel
theorem dX15_keep_62 : decode cX15_keep 62 = .ok (.aload_n 0, 1) := by decide +kernel
theorem dX15_keep_63 : decode cX15_keep 63 = .ok (.getfield 349, 3) := by decide +kernel
theorem dX15_keep_66 : decode cX15_keep 66 = .ok (.if_icmp .ge 29, 3) := by decide +kernel
theorem dX15_keep_69 : decode cX15_keep 69 = .ok (.aload_n 0, 1) := by decide +kernel
theorem dX15_keep_70 : decode cX15_keep 70 = .ok (.getfield 37, 3) := by decide +kernel
theorem dX15_keep_73 : decode cX15_keep 73 = .ok (.bipush 6, 2) := by decide +kernel
theorem dX15_keep_75 : decode cX15_keep 75 = .ok (.aload_n 0, 1) := by decide +kernel
theorem dX15_keep_76 : decode cX15_keep 76 = .ok (.getfield 355, 3) := by decide +kernel
theorem dX15_keep_79 : decode cX15_keep 79 = .ok (.imul, 1) := by decide +kernel
theorem dX15_keep_80 : decode cX15_keep 80 = .ok (.iload_n 1, 1) := by decide +kernel
theorem dX15_keep_81 : decode cX15_keep 81 = .ok (.iadd, 1) := by decide +kernel
theorem dX15_keep_82 : decode cX15_keep 82 = .ok (.aload_n 0, 1) := by decide +kernel
theorem dX15_keep_83 : decode cX15_keep 83 = .ok (.getfield 31, 3) := by decide +kernel
theorem dX15_keep_86 : decode cX15_keep 86 = .ok (.iload_n 1, 1) := by decide +kernel
theorem dX15_keep_87 : decode cX15_keep 87 = .ok (.iaload, 1) := by decide +kernel
theorem dX15_keep_88 : decode cX15_keep 88 = .ok (.iastore, 1) := by decide +kernel
theorem dX15_keep_89 : decode cX15_keep 89 = .ok (.iinc 1 1, 3) := by decide +kernel
theorem dX15_keep_92 : decode cX15_keep 92 = .ok (.goto (-31), 3) := by decide +kernel
theorem dX15_keep_95 : decode cX15_keep 95 = .ok (.aload_n 0, 1) := by decide +kernel
theorem dX15_keep_96 : decode cX15_keep 96 = .ok (.dup, 1) := by decide +kernel
theorem dX15_keep_97 : decode cX15_keep 97 = .ok (.getfield 355, 3) := by decide +kernel
theorem dX15_keep_100 : decode cX15_keep 100 = .ok (.iconst 1, 1) := by decide +kernel
theorem dX15_keep_101 : decode cX15_keep 101 = .ok (.iadd, 1) := by decide +kernel
theorem dX15_keep_102 : decode cX15_keep 102 = .ok (.putfield 355, 3) := by decide +kernel
theorem dX15_keep_105 : decode cX15_keep 105 = .ok (.aload_n 0, 1) := by decide +kernel
theorem dX15_keep_106 : decode cX15_keep 106 = .ok (.aload_n 0, 1) := by decide +kernel
theorem dX15_keep_107 : decode cX15_keep 107 = .ok (.getfield 355, 3) := by decide +kernel
theorem dX15_keep_110 : decode cX15_keep 110 = .ok (.invokevirtual 371, 3) := by decide +kernel
theorem dX15_keep_113 : decode cX15_keep 113 = .ok (.ireturn, 1) := by decide +kernel
theorem dX15_makes_0 : decode cX15_makes 0 = .ok (.iconst 0, 1) := by decide +kernel
theorem dX15_makes_1 : decode cX15_makes 1 = .ok (.istore_n 2, 1) := by decide +kernel
theorem dX15_makes_2 : decode cX15_makes 2 = .ok (.iload_n 2, 1) := by decide +kernel
theorem dX15_makes_3 : decode cX15_makes 3 = .ok (.aload_n 0, 1) := by decide +kernel
theorem dX15_makes_4 : decode cX15_makes 4 = .ok (.getfield 352, 3) := by decide +kernel
theorem dX15_makes_7 : decode cX15_makes 7 = .ok (.if_icmp .ge 96, 3) := by decide +kernel
theorem dX15_makes_10 : decode cX15_makes 10 = .ok (.iload_n 1, 1) := by decide +kernel
theorem dX15_makes_11 : decode cX15_makes 11 = .ok (.iload_n 2, 1) := by decide +kernel
theorem dX15_makes_12 : decode cX15_makes 12 = .ok (.invokestatic 390, 3) := by decide +kernel
theorem dX15_makes_15 : decode cX15_makes 15 = .ok (.ifCond .ne 6, 3) := by decide +kernel
theorem dX15_makes_18 : decode cX15_makes 18 = .ok (.goto 79, 3) := by decide +kernel
theorem dX15_makes_21 : decode cX15_makes 21 = .ok (.aload_n 0, 1) := by decide +kernel
theorem dX15_makes_22 : decode cX15_makes 22 = .ok (.getfield 102, 3) := by decide +kernel
theorem dX15_makes_25 : decode cX15_makes 25 = .ok (.iload_n 2, 1) := by decide +kernel
theorem dX15_makes_26 : decode cX15_makes 26 = .ok (.iaload, 1) := by decide +kernel
theorem dX15_makes_27 : decode cX15_makes 27 = .ok (.ifCond .ne 23, 3) := by decide +kernel
theorem dX15_makes_30 : decode cX15_makes 30 = .ok (.aload_n 0, 1) := by decide +kernel
theorem dX15_makes_31 : decode cX15_makes 31 = .ok (.dup, 1) := by decide +kernel
theorem dX15_makes_32 : decode cX15_makes 32 = .ok (.getfield 364, 3) := by decide +kernel
theorem dX15_makes_35 : decode cX15_makes 35 = .ok (.iconst 1, 1) := by decide +kernel
theorem dX15_makes_36 : decode cX15_makes 36 = .ok (.aload_n 0, 1) := by decide +kernel
theorem dX15_makes_37 : decode cX15_makes 37 = .ok (.getfield 105, 3) := by decide +kernel
theorem dX15_makes_40 : decode cX15_makes 40 = .ok (.iload_n 2, 1) := by decide +kernel
theorem dX15_makes_41 : decode cX15_makes 41 = .ok (.iaload, 1) := by decide +kernel
theorem dX15_makes_42 : decode cX15_makes 42 = .ok (.ishl, 1) := by decide +kernel
theorem dX15_makes_43 : decode cX15_makes 43 = .ok (.ior, 1) := by decide +kernel
theorem dX15_makes_44 : decode cX15_makes 44 = .ok (.putfield 364, 3) := by decide +kernel
theorem dX15_makes_47 : decode cX15_makes 47 = .ok (.goto 50, 3) := by decide +kernel
theorem dX15_makes_50 : decode cX15_makes 50 = .ok (.aload_n 0, 1) := by decide +kernel
theorem dX15_makes_51 : decode cX15_makes 51 = .ok (.getfield 102, 3) := by decide +kernel
theorem dX15_makes_54 : decode cX15_makes 54 = .ok (.iload_n 2, 1) := by decide +kernel
theorem dX15_makes_55 : decode cX15_makes 55 = .ok (.iaload, 1) := by decide +kernel
theorem dX15_makes_56 : decode cX15_makes 56 = .ok (.iconst 1, 1) := by decide +kernel
theorem dX15_makes_57 : decode cX15_makes 57 = .ok (.if_icmp .ne 23, 3) := by decide +kernel
theorem dX15_makes_60 : decode cX15_makes 60 = .ok (.aload_n 0, 1) := by decide +kernel
theorem dX15_makes_61 : decode cX15_makes 61 = .ok (.dup, 1) := by decide +kernel
theorem dX15_makes_62 : decode cX15_makes 62 = .ok (.getfield 365, 3) := by decide +kernel
theorem dX15_makes_65 : decode cX15_makes 65 = .ok (.iconst 1, 1) := by decide +kernel
theorem dX15_makes_66 : decode cX15_makes 66 = .ok (.aload_n 0, 1) := by decide +kernel
theorem dX15_makes_67 : decode cX15_makes 67 = .ok (.getfield 105, 3) := by decide +kernel
theorem dX15_makes_70 : decode cX15_makes 70 = .ok (.iload_n 2, 1) := by decide +kernel
theorem dX15_makes_71 : decode cX15_makes 71 = .ok (.iaload, 1) := by decide +kernel
theorem dX15_makes_72 : decode cX15_makes 72 = .ok (.ishl, 1) := by decide +kernel
theorem dX15_makes_73 : decode cX15_makes 73 = .ok (.ior, 1) := by decide +kernel
theorem dX15_makes_74 : decode cX15_makes 74 = .ok (.putfield 365, 3) := by decide +kernel
theorem dX15_makes_77 : decode cX15_makes 77 = .ok (.goto 20, 3) := by decide +kernel
theorem dX15_makes_80 : decode cX15_makes 80 = .ok (.aload_n 0, 1) := by decide +kernel
theorem dX15_makes_81 : decode cX15_makes 81 = .ok (.dup, 1) := by decide +kernel
theorem dX15_makes_82 : decode cX15_makes 82 = .ok (.getfield 368, 3) := by decide +kernel
theorem dX15_makes_85 : decode cX15_makes 85 = .ok (.iconst 1, 1) := by decide +kernel
theorem dX15_makes_86 : decode cX15_makes 86 = .ok (.aload_n 0, 1) := by decide +kernel
theorem dX15_makes_87 : decode cX15_makes 87 = .ok (.getfield 105, 3) := by decide +kernel
theorem dX15_makes_90 : decode cX15_makes 90 = .ok (.iload_n 2, 1) := by decide +kernel
theorem dX15_makes_91 : decode cX15_makes 91 = .ok (.iaload, 1) := by decide +kernel
theorem dX15_makes_92 : decode cX15_makes 92 = .ok (.ishl, 1) := by decide +kernel
theorem dX15_makes_93 : decode cX15_makes 93 = .ok (.ior, 1) := by decide +kernel
theorem dX15_makes_94 : decode cX15_makes 94 = .ok (.putfield 368, 3) := by decide +kernel
theorem dX15_makes_97 : decode cX15_makes 97 = .ok (.iinc 2 1, 3) := by decide +kernel
theorem dX15_makes_100 : decode cX15_makes 100 = .ok (.goto (-98), 3) := by decide +kernel
theorem dX15_makes_103 : decode cX15_makes 103 = .ok (.return_, 1) := by decide +kernel
theorem dX15_isFit_0 : decode cX15_isFit 0 = .ok (.aload_n 0, 1) := by decide +kernel
theorem dX15_isFit_1 : decode cX15_isFit 1 = .ok (.getfield 364, 3) := by decide +kernel
theorem dX15_isFit_4 : decode cX15_isFit 4 = .ok (.istore_n 2, 1) := by decide +kernel
theorem dX15_isFit_5 : decode cX15_isFit 5 = .ok (.aload_n 0, 1) := by decide +kernel
theorem dX15_isFit_6 : decode cX15_isFit 6 = .ok (.getfield 365, 3) := by decide +kernel
theorem dX15_isFit_9 : decode cX15_isFit 9 = .ok (.istore_n 3, 1) := by decide +kernel
theorem dX15_isFit_10 : decode cX15_isFit 10 = .ok (.aload_n 0, 1) := by decide +kernel
theorem dX15_isFit_11 : decode cX15_isFit 11 = .ok (.getfield 368, 3) := by decide +kernel
theorem dX15_isFit_14 : decode cX15_isFit 14 = .ok (.istore 4, 2) := by decide +kernel
theorem dX15_isFit_16 : decode cX15_isFit 16 = .ok (.aload_n 0, 1) := by decide +kernel
theorem dX15_isFit_17 : decode cX15_isFit 17 = .ok (.iload_n 1, 1) := by decide +kernel
theorem dX15_isFit_18 : decode cX15_isFit 18 = .ok (.invokevirtual 516, 3) := by decide +kernel
theorem dX15_isFit_21 : decode cX15_isFit 21 = .ok (.aload_n 0, 1) := by decide +kernel
theorem dX15_isFit_22 : decode cX15_isFit 22 = .ok (.iconst 2, 1) := by decide +kernel
theorem dX15_isFit_23 : decode cX15_isFit 23 = .ok (.aload_n 0, 1) := by decide +kernel
theorem dX15_isFit_24 : decode cX15_isFit 24 = .ok (.getfield 31, 3) := by decide +kernel
theorem dX15_isFit_27 : decode cX15_isFit 27 = .ok (.iconst 0, 1) := by decide +kernel
theorem dX15_isFit_28 : decode cX15_isFit 28 = .ok (.iconst 0, 1) := by decide +kernel
theorem dX15_isFit_29 : decode cX15_isFit 29 = .ok (.invokevirtual 450, 3) := by decide +kernel
theorem dX15_isFit_32 : decode cX15_isFit 32 = .ok (.ifCond .ne 7, 3) := by decide +kernel
theorem dX15_isFit_35 : decode cX15_isFit 35 = .ok (.iconst 1, 1) := by decide +kernel
theorem dX15_isFit_36 : decode cX15_isFit 36 = .ok (.goto 4, 3) := by decide +kernel
theorem dX15_isFit_39 : decode cX15_isFit 39 = .ok (.iconst 0, 1) := by decide +kernel
theorem dX15_isFit_40 : decode cX15_isFit 40 = .ok (.istore 5, 2) := by decide +kernel
theorem dX15_isFit_42 : decode cX15_isFit 42 = .ok (.iconst 0, 1) := by decide +kernel
theorem dX15_isFit_43 : decode cX15_isFit 43 = .ok (.istore 6, 2) := by decide +kernel
theorem dX15_isFit_45 : decode cX15_isFit 45 = .ok (.iload 6, 2) := by decide +kernel
theorem dX15_isFit_47 : decode cX15_isFit 47 = .ok (.aload_n 0, 1) := by decide +kernel
theorem dX15_isFit_48 : decode cX15_isFit 48 = .ok (.getfield 355, 3) := by decide +kernel
theorem dX15_isFit_51 : decode cX15_isFit 51 = .ok (.if_icmp .ge 46, 3) := by decide +kernel
theorem dX15_isFit_54 : decode cX15_isFit 54 = .ok (.iload 5, 2) := by decide +kernel
theorem dX15_isFit_56 : decode cX15_isFit 56 = .ok (.ifCond .eq 41, 3) := by decide +kernel
theorem dX15_isFit_59 : decode cX15_isFit 59 = .ok (.aload_n 0, 1) := by decide +kernel
theorem dX15_isFit_60 : decode cX15_isFit 60 = .ok (.iconst 2, 1) := by decide +kernel
theorem dX15_isFit_61 : decode cX15_isFit 61 = .ok (.aload_n 0, 1) := by decide +kernel
theorem dX15_isFit_62 : decode cX15_isFit 62 = .ok (.getfield 37, 3) := by decide +kernel
theorem dX15_isFit_65 : decode cX15_isFit 65 = .ok (.bipush 6, 2) := by decide +kernel
theorem dX15_isFit_67 : decode cX15_isFit 67 = .ok (.iload 6, 2) := by decide +kernel
theorem dX15_isFit_69 : decode cX15_isFit 69 = .ok (.imul, 1) := by decide +kernel
theorem dX15_isFit_70 : decode cX15_isFit 70 = .ok (.aload_n 0, 1) := by decide +kernel
theorem dX15_isFit_71 : decode cX15_isFit 71 = .ok (.getfield 34, 3) := by decide +kernel
theorem dX15_isFit_74 : decode cX15_isFit 74 = .ok (.iload 6, 2) := by decide +kernel
theorem dX15_isFit_76 : decode cX15_isFit 76 = .ok (.iaload, 1) := by decide +kernel
theorem dX15_isFit_77 : decode cX15_isFit 77 = .ok (.invokevirtual 450, 3) := by decide +kernel
theorem dX15_isFit_80 : decode cX15_isFit 80 = .ok (.iconst 2, 1) := by decide +kernel
theorem dX15_isFit_81 : decode cX15_isFit 81 = .ok (.if_icmp .eq 7, 3) := by decide +kernel
theorem dX15_isFit_84 : decode cX15_isFit 84 = .ok (.iconst 1, 1) := by decide +kernel
theorem dX15_isFit_85 : decode cX15_isFit 85 = .ok (.goto 4, 3) := by decide +kernel
theorem dX15_isFit_88 : decode cX15_isFit 88 = .ok (.iconst 0, 1) := by decide +kernel
theorem dX15_isFit_89 : decode cX15_isFit 89 = .ok (.istore 5, 2) := by decide +kernel
theorem dX15_isFit_91 : decode cX15_isFit 91 = .ok (.iinc 6 1, 3) := by decide +kernel
theorem dX15_isFit_94 : decode cX15_isFit 94 = .ok (.goto (-49), 3) := by decide +kernel
theorem dX15_isFit_97 : decode cX15_isFit 97 = .ok (.aload_n 0, 1) := by decide +kernel
theorem dX15_isFit_98 : decode cX15_isFit 98 = .ok (.iload_n 2, 1) := by decide +kernel
theorem dX15_isFit_99 : decode cX15_isFit 99 = .ok (.putfield 364, 3) := by decide +kernel
theorem dX15_isFit_102 : decode cX15_isFit 102 = .ok (.aload_n 0, 1) := by decide +kernel
theorem dX15_isFit_103 : decode cX15_isFit 103 = .ok (.iload_n 3, 1) := by decide +kernel
theorem dX15_isFit_104 : decode cX15_isFit 104 = .ok (.putfield 365, 3) := by decide +kernel
theorem dX15_isFit_107 : decode cX15_isFit 107 = .ok (.aload_n 0, 1) := by decide +kernel
theorem dX15_isFit_108 : decode cX15_isFit 108 = .ok (.iload 4, 2) := by decide +kernel
theorem dX15_isFit_110 : decode cX15_isFit 110 = .ok (.putfield 368, 3) := by decide +kernel
theorem dX15_isFit_113 : decode cX15_isFit 113 = .ok (.iload 5, 2) := by decide +kernel
theorem dX15_isFit_115 : decode cX15_isFit 115 = .ok (.ireturn, 1) := by decide +kernel
theorem dX15_fit_0 : decode cX15_fit 0 = .ok (.aload_n 0, 1) := by decide +kernel
theorem dX15_fit_1 : decode cX15_fit 1 = .ok (.iconst 0, 1) := by decide +kernel
theorem dX15_fit_2 : decode cX15_fit 2 = .ok (.putfield 108, 3) := by decide +kernel
theorem dX15_fit_5 : decode cX15_fit 5 = .ok (.aload_n 0, 1) := by decide +kernel
theorem dX15_fit_6 : decode cX15_fit 6 = .ok (.getfield 343, 3) := by decide +kernel
theorem dX15_fit_9 : decode cX15_fit 9 = .ok (.ifnonnull 9, 3) := by decide +kernel
theorem dX15_fit_12 : decode cX15_fit 12 = .ok (.aload_n 0, 1) := by decide +kernel
theorem dX15_fit_13 : decode cX15_fit 13 = .ok (.iconst 1, 1) := by decide +kernel
theorem dX15_fit_14 : decode cX15_fit 14 = .ok (.invokevirtual 333, 3) := by decide +kernel
theorem dX15_fit_17 : decode cX15_fit 17 = .ok (.ireturn, 1) := by decide +kernel
theorem dX15_fit_18 : decode cX15_fit 18 = .ok (.iload_n 1, 1) := by decide +kernel
theorem dX15_fit_19 : decode cX15_fit 19 = .ok (.ifCond .lt 13, 3) := by decide +kernel
theorem dX15_fit_22 : decode cX15_fit 22 = .ok (.iload_n 1, 1) := by decide +kernel
theorem dX15_fit_23 : decode cX15_fit 23 = .ok (.iconst 1, 1) := by decide +kernel
theorem dX15_fit_24 : decode cX15_fit 24 = .ok (.aload_n 0, 1) := by decide +kernel
theorem dX15_fit_25 : decode cX15_fit 25 = .ok (.getfield 352, 3) := by decide +kernel
theorem dX15_fit_28 : decode cX15_fit 28 = .ok (.ishl, 1) := by decide +kernel
theorem dX15_fit_29 : decode cX15_fit 29 = .ok (.if_icmp .lt 9, 3) := by decide +kernel
theorem dX15_fit_32 : decode cX15_fit 32 = .ok (.aload_n 0, 1) := by decide +kernel
theorem dX15_fit_33 : decode cX15_fit 33 = .ok (.iconst 2, 1) := by decide +kernel
theorem dX15_fit_34 : decode cX15_fit 34 = .ok (.invokevirtual 333, 3) := by decide +kernel
theorem dX15_fit_37 : decode cX15_fit 37 = .ok (.ireturn, 1) := by decide +kernel
theorem dX15_fit_38 : decode cX15_fit 38 = .ok (.aload_n 0, 1) := by decide +kernel
theorem dX15_fit_39 : decode cX15_fit 39 = .ok (.aload_n 0, 1) := by decide +kernel
theorem dX15_fit_40 : decode cX15_fit 40 = .ok (.iload_n 1, 1) := by decide +kernel
theorem dX15_fit_41 : decode cX15_fit 41 = .ok (.invokevirtual 519, 3) := by decide +kernel
theorem dX15_fit_44 : decode cX15_fit 44 = .ok (.ifCond .eq 7, 3) := by decide +kernel
theorem dX15_fit_47 : decode cX15_fit 47 = .ok (.iconst 1, 1) := by decide +kernel
theorem dX15_fit_48 : decode cX15_fit 48 = .ok (.goto 4, 3) := by decide +kernel
theorem dX15_fit_51 : decode cX15_fit 51 = .ok (.iconst 0, 1) := by decide +kernel
theorem dX15_fit_52 : decode cX15_fit 52 = .ok (.invokevirtual 371, 3) := by decide +kernel
theorem dX15_fit_55 : decode cX15_fit 55 = .ok (.ireturn, 1) := by decide +kernel
theorem dX15_bits_0 : decode cX15_bits 0 = .ok (.iconst 0, 1) := by decide +kernel
theorem dX15_bits_1 : decode cX15_bits 1 = .ok (.istore_n 1, 1) := by decide +kernel
theorem dX15_bits_2 : decode cX15_bits 2 = .ok (.iload_n 0, 1) := by decide +kernel
theorem dX15_bits_3 : decode cX15_bits 3 = .ok (.istore_n 2, 1) := by decide +kernel
theorem dX15_bits_4 : decode cX15_bits 4 = .ok (.iload_n 2, 1) := by decide +kernel
theorem dX15_bits_5 : decode cX15_bits 5 = .ok (.ifCond .eq 15, 3) := by decide +kernel
theorem dX15_bits_8 : decode cX15_bits 8 = .ok (.iinc 1 1, 3) := by decide +kernel
theorem dX15_bits_11 : decode cX15_bits 11 = .ok (.iload_n 2, 1) := by decide +kernel
theorem dX15_bits_12 : decode cX15_bits 12 = .ok (.iload_n 2, 1) := by decide +kernel
theorem dX15_bits_13 : decode cX15_bits 13 = .ok (.iconst 1, 1) := by decide +kernel
theorem dX15_bits_14 : decode cX15_bits 14 = .ok (.isub, 1) := by decide +kernel
theorem dX15_bits_15 : decode cX15_bits 15 = .ok (.iand, 1) := by decide +kernel
theorem dX15_bits_16 : decode cX15_bits 16 = .ok (.istore_n 2, 1) := by decide +kernel
theorem dX15_bits_17 : decode cX15_bits 17 = .ok (.goto (-13), 3) := by decide +kernel
theorem dX15_bits_20 : decode cX15_bits 20 = .ok (.iload_n 1, 1) := by decide +kernel
theorem dX15_bits_21 : decode cX15_bits 21 = .ok (.ireturn, 1) := by decide +kernel
theorem dX15_least_0 : decode cX15_least 0 = .ok (.aload_n 0, 1) := by decide +kernel
theorem dX15_least_1 : decode cX15_least 1 = .ok (.iconst 0, 1) := by decide +kernel
theorem dX15_least_2 : decode cX15_least 2 = .ok (.putfield 108, 3) := by decide +kernel
theorem dX15_least_5 : decode cX15_least 5 = .ok (.aload_n 0, 1) := by decide +kernel
theorem dX15_least_6 : decode cX15_least 6 = .ok (.getfield 343, 3) := by decide +kernel
theorem dX15_least_9 : decode cX15_least 9 = .ok (.ifnonnull 9, 3) := by decide +kernel
theorem dX15_least_12 : decode cX15_least 12 = .ok (.aload_n 0, 1) := by decide +kernel
theorem dX15_least_13 : decode cX15_least 13 = .ok (.iconst 1, 1) := by decide +kernel
theorem dX15_least_14 : decode cX15_least 14 = .ok (.invokevirtual 333, 3) := by decide +kernel
theorem dX15_least_17 : decode cX15_least 17 = .ok (.ireturn, 1) := by decide +kernel
theorem dX15_least_18 : decode cX15_least 18 = .ok (.iconst (-1), 1) := by decide +kernel
theorem dX15_least_19 : decode cX15_least 19 = .ok (.istore_n 1, 1) := by decide +kernel
theorem dX15_least_20 : decode cX15_least 20 = .ok (.iconst 0, 1) := by decide +kernel
theorem dX15_least_21 : decode cX15_least 21 = .ok (.istore_n 2, 1) := by decide +kernel
theorem dX15_least_22 : decode cX15_least 22 = .ok (.iload_n 2, 1) := by decide +kernel
theorem dX15_least_23 : decode cX15_least 23 = .ok (.iconst 1, 1) := by decide +kernel
theorem dX15_least_24 : decode cX15_least 24 = .ok (.aload_n 0, 1) := by decide +kernel
theorem dX15_least_25 : decode cX15_least 25 = .ok (.getfield 352, 3) := by decide +kernel
theorem dX15_least_28 : decode cX15_least 28 = .ok (.ishl, 1) := by decide +kernel
theorem dX15_least_29 : decode cX15_least 29 = .ok (.if_icmp .ge 35, 3) := by decide +kernel
theorem dX15_least_32 : decode cX15_least 32 = .ok (.iload_n 1, 1) := by decide +kernel
theorem dX15_least_33 : decode cX15_least 33 = .ok (.iconst (-1), 1) := by decide +kernel
theorem dX15_least_34 : decode cX15_least 34 = .ok (.if_icmp .eq 14, 3) := by decide +kernel
theorem dX15_least_37 : decode cX15_least 37 = .ok (.iload_n 2, 1) := by decide +kernel
theorem dX15_least_38 : decode cX15_least 38 = .ok (.invokestatic 522, 3) := by decide +kernel
theorem dX15_least_41 : decode cX15_least 41 = .ok (.iload_n 1, 1) := by decide +kernel
theorem dX15_least_42 : decode cX15_least 42 = .ok (.invokestatic 522, 3) := by decide +kernel
theorem dX15_least_45 : decode cX15_least 45 = .ok (.if_icmp .ge 13, 3) := by decide +kernel
theorem dX15_least_48 : decode cX15_least 48 = .ok (.aload_n 0, 1) := by decide +kernel
theorem dX15_least_49 : decode cX15_least 49 = .ok (.iload_n 2, 1) := by decide +kernel
theorem dX15_least_50 : decode cX15_least 50 = .ok (.invokevirtual 519, 3) := by decide +kernel
theorem dX15_least_53 : decode cX15_least 53 = .ok (.ifCond .eq 5, 3) := by decide +kernel
theorem dX15_least_56 : decode cX15_least 56 = .ok (.iload_n 2, 1) := by decide +kernel
theorem dX15_least_57 : decode cX15_least 57 = .ok (.istore_n 1, 1) := by decide +kernel
theorem dX15_least_58 : decode cX15_least 58 = .ok (.iinc 2 1, 3) := by decide +kernel
theorem dX15_least_61 : decode cX15_least 61 = .ok (.goto (-39), 3) := by decide +kernel
theorem dX15_least_64 : decode cX15_least 64 = .ok (.iload_n 1, 1) := by decide +kernel
theorem dX15_least_65 : decode cX15_least 65 = .ok (.iconst (-1), 1) := by decide +kernel
theorem dX15_least_66 : decode cX15_least 66 = .ok (.if_icmp .ne 12, 3) := by decide +kernel
theorem dX15_least_69 : decode cX15_least 69 = .ok (.aload_n 0, 1) := by decide +kernel
theorem dX15_least_70 : decode cX15_least 70 = .ok (.bipush 6, 2) := by decide +kernel
theorem dX15_least_72 : decode cX15_least 72 = .ok (.invokevirtual 333, 3) := by decide +kernel
theorem dX15_least_75 : decode cX15_least 75 = .ok (.goto 8, 3) := by decide +kernel
theorem dX15_least_78 : decode cX15_least 78 = .ok (.aload_n 0, 1) := by decide +kernel
theorem dX15_least_79 : decode cX15_least 79 = .ok (.iload_n 1, 1) := by decide +kernel
theorem dX15_least_80 : decode cX15_least 80 = .ok (.invokevirtual 371, 3) := by decide +kernel
theorem dX15_least_83 : decode cX15_least 83 = .ok (.ireturn, 1) := by decide +kernel
theorem dX15_make_0 : decode cX15_make 0 = .ok (.aload_n 0, 1) := by decide +kernel
theorem dX15_make_1 : decode cX15_make 1 = .ok (.iconst 0, 1) := by decide +kernel
theorem dX15_make_2 : decode cX15_make 2 = .ok (.putfield 108, 3) := by decide +kernel
theorem dX15_make_5 : decode cX15_make 5 = .ok (.aload_n 0, 1) := by decide +kernel
theorem dX15_make_6 : decode cX15_make 6 = .ok (.getfield 343, 3) := by decide +kernel
theorem dX15_make_9 : decode cX15_make 9 = .ok (.ifnonnull 9, 3) := by decide +kernel
theorem dX15_make_12 : decode cX15_make 12 = .ok (.aload_n 0, 1) := by decide +kernel
theorem dX15_make_13 : decode cX15_make 13 = .ok (.iconst 1, 1) := by decide +kernel
theorem dX15_make_14 : decode cX15_make 14 = .ok (.invokevirtual 333, 3) := by decide +kernel
theorem dX15_make_17 : decode cX15_make 17 = .ok (.ireturn, 1) := by decide +kernel
theorem dX15_make_18 : decode cX15_make 18 = .ok (.iload_n 1, 1) := by decide +kernel
theorem dX15_make_19 : decode cX15_make 19 = .ok (.ifCond .lt 13, 3) := by decide +kernel
theorem dX15_make_22 : decode cX15_make 22 = .ok (.iload_n 1, 1) := by decide +kernel
theorem dX15_make_23 : decode cX15_make 23 = .ok (.iconst 1, 1) := by decide +kernel
theorem dX15_make_24 : decode cX15_make 24 = .ok (.aload_n 0, 1) := by decide +kernel
theorem dX15_make_25 : decode cX15_make 25 = .ok (.getfield 352, 3) := by decide +kernel
theorem dX15_make_28 : decode cX15_make 28 = .ok (.ishl, 1) := by decide +kernel
theorem dX15_make_29 : decode cX15_make 29 = .ok (.if_icmp .lt 9, 3) := by decide +kernel
theorem dX15_make_32 : decode cX15_make 32 = .ok (.aload_n 0, 1) := by decide +kernel
theorem dX15_make_33 : decode cX15_make 33 = .ok (.iconst 2, 1) := by decide +kernel
theorem dX15_make_34 : decode cX15_make 34 = .ok (.invokevirtual 333, 3) := by decide +kernel
theorem dX15_make_37 : decode cX15_make 37 = .ok (.ireturn, 1) := by decide +kernel
theorem dX15_make_38 : decode cX15_make 38 = .ok (.aload_n 0, 1) := by decide +kernel
theorem dX15_make_39 : decode cX15_make 39 = .ok (.iload_n 1, 1) := by decide +kernel
theorem dX15_make_40 : decode cX15_make 40 = .ok (.invokevirtual 516, 3) := by decide +kernel
theorem dX15_make_43 : decode cX15_make 43 = .ok (.aload_n 0, 1) := by decide +kernel
theorem dX15_make_44 : decode cX15_make 44 = .ok (.iconst 0, 1) := by decide +kernel
theorem dX15_make_45 : decode cX15_make 45 = .ok (.putfield 352, 3) := by decide +kernel
theorem dX15_make_48 : decode cX15_make 48 = .ok (.aload_n 0, 1) := by decide +kernel
theorem dX15_make_49 : decode cX15_make 49 = .ok (.iload_n 1, 1) := by decide +kernel
theorem dX15_make_50 : decode cX15_make 50 = .ok (.invokestatic 522, 3) := by decide +kernel
theorem dX15_make_53 : decode cX15_make 53 = .ok (.invokevirtual 371, 3) := by decide +kernel
theorem dX15_make_56 : decode cX15_make 56 = .ok (.ireturn, 1) := by decide +kernel
theorem dX15_sets_0 : decode cX15_sets 0 = .ok (.aload_n 0, 1) := by decide +kernel
theorem dX15_sets_1 : decode cX15_sets 1 = .ok (.invokevirtual 489, 3) := by decide +kernel
theorem dX15_sets_4 : decode cX15_sets 4 = .ok (.iconst 0, 1) := by decide +kernel
theorem dX15_sets_5 : decode cX15_sets 5 = .ok (.istore_n 1, 1) := by decide +kernel
theorem dX15_sets_6 : decode cX15_sets 6 = .ok (.iconst 1, 1) := by decide +kernel
theorem dX15_sets_7 : decode cX15_sets 7 = .ok (.istore_n 2, 1) := by decide +kernel
theorem dX15_sets_8 : decode cX15_sets 8 = .ok (.iload_n 2, 1) := by decide +kernel
theorem dX15_sets_9 : decode cX15_sets 9 = .ok (.aload_n 0, 1) := by decide +kernel
theorem dX15_sets_10 : decode cX15_sets 10 = .ok (.invokevirtual 384, 3) := by decide +kernel
theorem dX15_sets_13 : decode cX15_sets 13 = .ok (.if_icmp .gt 31, 3) := by decide +kernel
theorem dX15_sets_16 : decode cX15_sets 16 = .ok (.aload_n 0, 1) := by decide +kernel
theorem dX15_sets_17 : decode cX15_sets 17 = .ok (.iload_n 2, 1) := by decide +kernel
theorem dX15_sets_18 : decode cX15_sets 18 = .ok (.invokevirtual 501, 3) := by decide +kernel
theorem dX15_sets_21 : decode cX15_sets 21 = .ok (.istore_n 3, 1) := by decide +kernel
theorem dX15_sets_22 : decode cX15_sets 22 = .ok (.iload_n 3, 1) := by decide +kernel
theorem dX15_sets_23 : decode cX15_sets 23 = .ok (.ifCond .eq 15, 3) := by decide +kernel
theorem dX15_sets_26 : decode cX15_sets 26 = .ok (.iinc 1 1, 3) := by decide +kernel
theorem dX15_sets_29 : decode cX15_sets 29 = .ok (.aload_n 0, 1) := by decide +kernel
theorem dX15_sets_30 : decode cX15_sets 30 = .ok (.iload_n 2, 1) := by decide +kernel
theorem dX15_sets_31 : decode cX15_sets 31 = .ok (.invokevirtual 495, 3) := by decide +kernel
theorem dX15_sets_34 : decode cX15_sets 34 = .ok (.istore_n 3, 1) := by decide +kernel
theorem dX15_sets_35 : decode cX15_sets 35 = .ok (.goto (-13), 3) := by decide +kernel
theorem dX15_sets_38 : decode cX15_sets 38 = .ok (.iinc 2 1, 3) := by decide +kernel
theorem dX15_sets_41 : decode cX15_sets 41 = .ok (.goto (-33), 3) := by decide +kernel
theorem dX15_sets_44 : decode cX15_sets 44 = .ok (.iload_n 1, 1) := by decide +kernel
theorem dX15_sets_45 : decode cX15_sets 45 = .ok (.ireturn, 1) := by decide +kernel
theorem dX15_count_0 : decode cX15_count 0 = .ok (.aload_n 0, 1) := by decide +kernel
theorem dX15_count_1 : decode cX15_count 1 = .ok (.iconst 0, 1) := by decide +kernel
theorem dX15_count_2 : decode cX15_count 2 = .ok (.putfield 108, 3) := by decide +kernel
theorem dX15_count_5 : decode cX15_count 5 = .ok (.iload_n 1, 1) := by decide +kernel
theorem dX15_count_6 : decode cX15_count 6 = .ok (.bipush 13, 2) := by decide +kernel
theorem dX15_count_8 : decode cX15_count 8 = .ok (.if_icmp .ne 8, 3) := by decide +kernel
theorem dX15_count_11 : decode cX15_count 11 = .ok (.aload_n 0, 1) := by decide +kernel
theorem dX15_count_12 : decode cX15_count 12 = .ok (.getfield 330, 3) := by decide +kernel
theorem dX15_count_15 : decode cX15_count 15 = .ok (.ireturn, 1) := by decide +kernel
theorem dX15_count_16 : decode cX15_count 16 = .ok (.iload_n 1, 1) := by decide +kernel
theorem dX15_count_17 : decode cX15_count 17 = .ok (.iconst 0, 1) := by decide +kernel
theorem dX15_count_18 : decode cX15_count 18 = .ok (.bipush 12, 2) := by decide +kernel
theorem dX15_count_20 : decode cX15_count 20 = .ok (.invokestatic 377, 3) := by decide +kernel
theorem dX15_count_23 : decode cX15_count 23 = .ok (.ifCond .ne 5, 3) := by decide +kernel
theorem dX15_count_26 : decode cX15_count 26 = .ok (.iconst (-1), 1) := by decide +kernel
theorem dX15_count_27 : decode cX15_count 27 = .ok (.ireturn, 1) := by decide +kernel
theorem dX15_count_28 : decode cX15_count 28 = .ok (.aload_n 0, 1) := by decide +kernel
theorem dX15_count_29 : decode cX15_count 29 = .ok (.getfield 343, 3) := by decide +kernel
theorem dX15_count_32 : decode cX15_count 32 = .ok (.ifnonnull 5, 3) := by decide +kernel
theorem dX15_count_35 : decode cX15_count 35 = .ok (.iconst 0, 1) := by decide +kernel
theorem dX15_count_36 : decode cX15_count 36 = .ok (.ireturn, 1) := by decide +kernel
theorem dX15_count_37 : decode cX15_count 37 = .ok (.iload_n 1, 1) := by decide +kernel
theorem dX15_count_38 : decode cX15_count 38 = .ok (.tableswitch 144 0 11 #[62, 70, 78, 86, 94, 102, 107, 112, 117, 122, 131, 136], 62) := by decide +kernel
theorem dX15_count_100 : decode cX15_count 100 = .ok (.aload_n 0, 1) := by decide +kernel
theorem dX15_count_101 : decode cX15_count 101 = .ok (.getfield 343, 3) := by decide +kernel
theorem dX15_count_104 : decode cX15_count 104 = .ok (.getfield 209, 3) := by decide +kernel
theorem dX15_count_107 : decode cX15_count 107 = .ok (.ireturn, 1) := by decide +kernel
theorem dX15_count_108 : decode cX15_count 108 = .ok (.aload_n 0, 1) := by decide +kernel
theorem dX15_count_109 : decode cX15_count 109 = .ok (.getfield 343, 3) := by decide +kernel
theorem dX15_count_112 : decode cX15_count 112 = .ok (.getfield 216, 3) := by decide +kernel
theorem dX15_count_115 : decode cX15_count 115 = .ok (.ireturn, 1) := by decide +kernel
theorem dX15_count_116 : decode cX15_count 116 = .ok (.aload_n 0, 1) := by decide +kernel
theorem dX15_count_117 : decode cX15_count 117 = .ok (.getfield 343, 3) := by decide +kernel
theorem dX15_count_120 : decode cX15_count 120 = .ok (.getfield 243, 3) := by decide +kernel
theorem dX15_count_123 : decode cX15_count 123 = .ok (.ireturn, 1) := by decide +kernel
theorem dX15_count_124 : decode cX15_count 124 = .ok (.aload_n 0, 1) := by decide +kernel
theorem dX15_count_125 : decode cX15_count 125 = .ok (.getfield 343, 3) := by decide +kernel
theorem dX15_count_128 : decode cX15_count 128 = .ok (.getfield 273, 3) := by decide +kernel
theorem dX15_count_131 : decode cX15_count 131 = .ok (.ireturn, 1) := by decide +kernel
theorem dX15_count_132 : decode cX15_count 132 = .ok (.aload_n 0, 1) := by decide +kernel
theorem dX15_count_133 : decode cX15_count 133 = .ok (.getfield 343, 3) := by decide +kernel
theorem dX15_count_136 : decode cX15_count 136 = .ok (.getfield 292, 3) := by decide +kernel
theorem dX15_count_139 : decode cX15_count 139 = .ok (.ireturn, 1) := by decide +kernel
theorem dX15_count_140 : decode cX15_count 140 = .ok (.aload_n 0, 1) := by decide +kernel
theorem dX15_count_141 : decode cX15_count 141 = .ok (.getfield 24, 3) := by decide +kernel
theorem dX15_count_144 : decode cX15_count 144 = .ok (.ireturn, 1) := by decide +kernel
theorem dX15_count_145 : decode cX15_count 145 = .ok (.aload_n 0, 1) := by decide +kernel
theorem dX15_count_146 : decode cX15_count 146 = .ok (.getfield 349, 3) := by decide +kernel
theorem dX15_count_149 : decode cX15_count 149 = .ok (.ireturn, 1) := by decide +kernel
theorem dX15_count_150 : decode cX15_count 150 = .ok (.aload_n 0, 1) := by decide +kernel
theorem dX15_count_151 : decode cX15_count 151 = .ok (.getfield 352, 3) := by decide +kernel
theorem dX15_count_154 : decode cX15_count 154 = .ok (.ireturn, 1) := by decide +kernel
theorem dX15_count_155 : decode cX15_count 155 = .ok (.aload_n 0, 1) := by decide +kernel
theorem dX15_count_156 : decode cX15_count 156 = .ok (.getfield 355, 3) := by decide +kernel
theorem dX15_count_159 : decode cX15_count 159 = .ok (.ireturn, 1) := by decide +kernel
theorem dX15_count_160 : decode cX15_count 160 = .ok (.aload_n 0, 1) := by decide +kernel
theorem dX15_count_161 : decode cX15_count 161 = .ok (.invokevirtual 489, 3) := by decide +kernel
theorem dX15_count_164 : decode cX15_count 164 = .ok (.aload_n 0, 1) := by decide +kernel
theorem dX15_count_165 : decode cX15_count 165 = .ok (.getfield 486, 3) := by decide +kernel
theorem dX15_count_168 : decode cX15_count 168 = .ok (.ireturn, 1) := by decide +kernel
theorem dX15_count_169 : decode cX15_count 169 = .ok (.aload_n 0, 1) := by decide +kernel
theorem dX15_count_170 : decode cX15_count 170 = .ok (.invokevirtual 525, 3) := by decide +kernel
theorem dX15_count_173 : decode cX15_count 173 = .ok (.ireturn, 1) := by decide +kernel
theorem dX15_count_174 : decode cX15_count 174 = .ok (.aload_n 0, 1) := by decide +kernel
theorem dX15_count_175 : decode cX15_count 175 = .ok (.getfield 343, 3) := by decide +kernel
theorem dX15_count_178 : decode cX15_count 178 = .ok (.getfield 264, 3) := by decide +kernel
theorem dX15_count_181 : decode cX15_count 181 = .ok (.ireturn, 1) := by decide +kernel
theorem dX15_count_182 : decode cX15_count 182 = .ok (.aload_n 0, 1) := by decide +kernel
theorem dX15_count_183 : decode cX15_count 183 = .ok (.getfield 346, 3) := by decide +kernel
theorem dX15_count_186 : decode cX15_count 186 = .ok (.ireturn, 1) := by decide +kernel
theorem dX15_trouble_0 : decode cX15_trouble 0 = .ok (.aload_n 0, 1) := by decide +kernel
theorem dX15_trouble_1 : decode cX15_trouble 1 = .ok (.iconst 0, 1) := by decide +kernel
theorem dX15_trouble_2 : decode cX15_trouble 2 = .ok (.putfield 108, 3) := by decide +kernel
theorem dX15_trouble_5 : decode cX15_trouble 5 = .ok (.aload_n 0, 1) := by decide +kernel
theorem dX15_trouble_6 : decode cX15_trouble 6 = .ok (.getfield 111, 3) := by decide +kernel
theorem dX15_trouble_9 : decode cX15_trouble 9 = .ok (.ireturn, 1) := by decide +kernel
theorem dJ6_numberOfTrailingZeros_0f7a4_0 : decode cJ6_numberOfTrailingZeros_0f7a4 0 = .ok (.iload_n 0, 1) := by decide +kernel
theorem dJ6_numberOfTrailingZeros_0f7a4_1 : decode cJ6_numberOfTrailingZeros_0f7a4 1 = .ok (.iconst (-1), 1) := by decide +kernel
theorem dJ6_numberOfTrailingZeros_0f7a4_2 : decode cJ6_numberOfTrailingZeros_0f7a4 2 = .ok (.ixor, 1) := by decide +kernel
theorem dJ6_numberOfTrailingZeros_0f7a4_3 : decode cJ6_numberOfTrailingZeros_0f7a4 3 = .ok (.iload_n 0, 1) := by decide +kernel
theorem dJ6_numberOfTrailingZeros_0f7a4_4 : decode cJ6_numberOfTrailingZeros_0f7a4 4 = .ok (.iconst 1, 1) := by decide +kernel
theorem dJ6_numberOfTrailingZeros_0f7a4_5 : decode cJ6_numberOfTrailingZeros_0f7a4 5 = .ok (.isub, 1) := by decide +kernel
theorem dJ6_numberOfTrailingZeros_0f7a4_6 : decode cJ6_numberOfTrailingZeros_0f7a4 6 = .ok (.iand, 1) := by decide +kernel
theorem dJ6_numberOfTrailingZeros_0f7a4_7 : decode cJ6_numberOfTrailingZeros_0f7a4 7 = .ok (.istore_n 0, 1) := by decide +kernel
theorem dJ6_numberOfTrailingZeros_0f7a4_8 : decode cJ6_numberOfTrailingZeros_0f7a4 8 = .ok (.iload_n 0, 1) := by decide +kernel
theorem dJ6_numberOfTrailingZeros_0f7a4_9 : decode cJ6_numberOfTrailingZeros_0f7a4 9 = .ok (.ifCond .gt 8, 3) := by decide +kernel
theorem dJ6_numberOfTrailingZeros_0f7a4_12 : decode cJ6_numberOfTrailingZeros_0f7a4 12 = .ok (.iload_n 0, 1) := by decide +kernel
theorem dJ6_numberOfTrailingZeros_0f7a4_13 : decode cJ6_numberOfTrailingZeros_0f7a4 13 = .ok (.bipush 32, 2) := by decide +kernel
theorem dJ6_numberOfTrailingZeros_0f7a4_15 : decode cJ6_numberOfTrailingZeros_0f7a4 15 = .ok (.iand, 1) := by decide +kernel
theorem dJ6_numberOfTrailingZeros_0f7a4_16 : decode cJ6_numberOfTrailingZeros_0f7a4 16 = .ok (.ireturn, 1) := by decide +kernel
theorem dJ6_numberOfTrailingZeros_0f7a4_17 : decode cJ6_numberOfTrailingZeros_0f7a4 17 = .ok (.iconst 1, 1) := by decide +kernel
theorem dJ6_numberOfTrailingZeros_0f7a4_18 : decode cJ6_numberOfTrailingZeros_0f7a4 18 = .ok (.istore_n 1, 1) := by decide +kernel
theorem dJ6_numberOfTrailingZeros_0f7a4_19 : decode cJ6_numberOfTrailingZeros_0f7a4 19 = .ok (.iload_n 0, 1) := by decide +kernel
theorem dJ6_numberOfTrailingZeros_0f7a4_20 : decode cJ6_numberOfTrailingZeros_0f7a4 20 = .ok (.ldc_w 264, 3) := by decide +kernel
theorem dJ6_numberOfTrailingZeros_0f7a4_23 : decode cJ6_numberOfTrailingZeros_0f7a4 23 = .ok (.if_icmp .le 11, 3) := by decide +kernel
theorem dJ6_numberOfTrailingZeros_0f7a4_26 : decode cJ6_numberOfTrailingZeros_0f7a4 26 = .ok (.iinc 1 16, 3) := by decide +kernel
theorem dJ6_numberOfTrailingZeros_0f7a4_29 : decode cJ6_numberOfTrailingZeros_0f7a4 29 = .ok (.iload_n 0, 1) := by decide +kernel
theorem dJ6_numberOfTrailingZeros_0f7a4_30 : decode cJ6_numberOfTrailingZeros_0f7a4 30 = .ok (.bipush 16, 2) := by decide +kernel
theorem dJ6_numberOfTrailingZeros_0f7a4_32 : decode cJ6_numberOfTrailingZeros_0f7a4 32 = .ok (.iushr, 1) := by decide +kernel
theorem dJ6_numberOfTrailingZeros_0f7a4_33 : decode cJ6_numberOfTrailingZeros_0f7a4 33 = .ok (.istore_n 0, 1) := by decide +kernel
theorem dJ6_numberOfTrailingZeros_0f7a4_34 : decode cJ6_numberOfTrailingZeros_0f7a4 34 = .ok (.iload_n 0, 1) := by decide +kernel
theorem dJ6_numberOfTrailingZeros_0f7a4_35 : decode cJ6_numberOfTrailingZeros_0f7a4 35 = .ok (.sipush 256, 3) := by decide +kernel
theorem dJ6_numberOfTrailingZeros_0f7a4_38 : decode cJ6_numberOfTrailingZeros_0f7a4 38 = .ok (.if_icmp .le 11, 3) := by decide +kernel
theorem dJ6_numberOfTrailingZeros_0f7a4_41 : decode cJ6_numberOfTrailingZeros_0f7a4 41 = .ok (.iinc 1 8, 3) := by decide +kernel
theorem dJ6_numberOfTrailingZeros_0f7a4_44 : decode cJ6_numberOfTrailingZeros_0f7a4 44 = .ok (.iload_n 0, 1) := by decide +kernel
theorem dJ6_numberOfTrailingZeros_0f7a4_45 : decode cJ6_numberOfTrailingZeros_0f7a4 45 = .ok (.bipush 8, 2) := by decide +kernel
theorem dJ6_numberOfTrailingZeros_0f7a4_47 : decode cJ6_numberOfTrailingZeros_0f7a4 47 = .ok (.iushr, 1) := by decide +kernel
theorem dJ6_numberOfTrailingZeros_0f7a4_48 : decode cJ6_numberOfTrailingZeros_0f7a4 48 = .ok (.istore_n 0, 1) := by decide +kernel
theorem dJ6_numberOfTrailingZeros_0f7a4_49 : decode cJ6_numberOfTrailingZeros_0f7a4 49 = .ok (.iload_n 0, 1) := by decide +kernel
theorem dJ6_numberOfTrailingZeros_0f7a4_50 : decode cJ6_numberOfTrailingZeros_0f7a4 50 = .ok (.bipush 16, 2) := by decide +kernel
theorem dJ6_numberOfTrailingZeros_0f7a4_52 : decode cJ6_numberOfTrailingZeros_0f7a4 52 = .ok (.if_icmp .le 10, 3) := by decide +kernel
theorem dJ6_numberOfTrailingZeros_0f7a4_55 : decode cJ6_numberOfTrailingZeros_0f7a4 55 = .ok (.iinc 1 4, 3) := by decide +kernel
theorem dJ6_numberOfTrailingZeros_0f7a4_58 : decode cJ6_numberOfTrailingZeros_0f7a4 58 = .ok (.iload_n 0, 1) := by decide +kernel
theorem dJ6_numberOfTrailingZeros_0f7a4_59 : decode cJ6_numberOfTrailingZeros_0f7a4 59 = .ok (.iconst 4, 1) := by decide +kernel
theorem dJ6_numberOfTrailingZeros_0f7a4_60 : decode cJ6_numberOfTrailingZeros_0f7a4 60 = .ok (.iushr, 1) := by decide +kernel
theorem dJ6_numberOfTrailingZeros_0f7a4_61 : decode cJ6_numberOfTrailingZeros_0f7a4 61 = .ok (.istore_n 0, 1) := by decide +kernel
theorem dJ6_numberOfTrailingZeros_0f7a4_62 : decode cJ6_numberOfTrailingZeros_0f7a4 62 = .ok (.iload_n 0, 1) := by decide +kernel
theorem dJ6_numberOfTrailingZeros_0f7a4_63 : decode cJ6_numberOfTrailingZeros_0f7a4 63 = .ok (.iconst 4, 1) := by decide +kernel
theorem dJ6_numberOfTrailingZeros_0f7a4_64 : decode cJ6_numberOfTrailingZeros_0f7a4 64 = .ok (.if_icmp .le 10, 3) := by decide +kernel
theorem dJ6_numberOfTrailingZeros_0f7a4_67 : decode cJ6_numberOfTrailingZeros_0f7a4 67 = .ok (.iinc 1 2, 3) := by decide +kernel
theorem dJ6_numberOfTrailingZeros_0f7a4_70 : decode cJ6_numberOfTrailingZeros_0f7a4 70 = .ok (.iload_n 0, 1) := by decide +kernel
theorem dJ6_numberOfTrailingZeros_0f7a4_71 : decode cJ6_numberOfTrailingZeros_0f7a4 71 = .ok (.iconst 2, 1) := by decide +kernel
theorem dJ6_numberOfTrailingZeros_0f7a4_72 : decode cJ6_numberOfTrailingZeros_0f7a4 72 = .ok (.iushr, 1) := by decide +kernel
theorem dJ6_numberOfTrailingZeros_0f7a4_73 : decode cJ6_numberOfTrailingZeros_0f7a4 73 = .ok (.istore_n 0, 1) := by decide +kernel
theorem dJ6_numberOfTrailingZeros_0f7a4_74 : decode cJ6_numberOfTrailingZeros_0f7a4 74 = .ok (.iload_n 1, 1) := by decide +kernel
theorem dJ6_numberOfTrailingZeros_0f7a4_75 : decode cJ6_numberOfTrailingZeros_0f7a4 75 = .ok (.iload_n 0, 1) := by decide +kernel
theorem dJ6_numberOfTrailingZeros_0f7a4_76 : decode cJ6_numberOfTrailingZeros_0f7a4 76 = .ok (.iconst 1, 1) := by decide +kernel
theorem dJ6_numberOfTrailingZeros_0f7a4_77 : decode cJ6_numberOfTrailingZeros_0f7a4 77 = .ok (.iushr, 1) := by decide +kernel
theorem dJ6_numberOfTrailingZeros_0f7a4_78 : decode cJ6_numberOfTrailingZeros_0f7a4 78 = .ok (.iadd, 1) := by decide +kernel
theorem dJ6_numberOfTrailingZeros_0f7a4_79 : decode cJ6_numberOfTrailingZeros_0f7a4 79 = .ok (.ireturn, 1) := by decide +kernel
theorem dJ6_bitCount_0f7a4_0 : decode cJ6_bitCount_0f7a4 0 = .ok (.iload_n 0, 1) := by decide +kernel
theorem dJ6_bitCount_0f7a4_1 : decode cJ6_bitCount_0f7a4 1 = .ok (.iload_n 0, 1) := by decide +kernel
theorem dJ6_bitCount_0f7a4_2 : decode cJ6_bitCount_0f7a4 2 = .ok (.iconst 1, 1) := by decide +kernel
theorem dJ6_bitCount_0f7a4_3 : decode cJ6_bitCount_0f7a4 3 = .ok (.iushr, 1) := by decide +kernel
theorem dJ6_bitCount_0f7a4_4 : decode cJ6_bitCount_0f7a4 4 = .ok (.ldc_w 265, 3) := by decide +kernel
theorem dJ6_bitCount_0f7a4_7 : decode cJ6_bitCount_0f7a4 7 = .ok (.iand, 1) := by decide +kernel
theorem dJ6_bitCount_0f7a4_8 : decode cJ6_bitCount_0f7a4 8 = .ok (.isub, 1) := by decide +kernel
theorem dJ6_bitCount_0f7a4_9 : decode cJ6_bitCount_0f7a4 9 = .ok (.istore_n 0, 1) := by decide +kernel
theorem dJ6_bitCount_0f7a4_10 : decode cJ6_bitCount_0f7a4 10 = .ok (.iload_n 0, 1) := by decide +kernel
theorem dJ6_bitCount_0f7a4_11 : decode cJ6_bitCount_0f7a4 11 = .ok (.ldc_w 266, 3) := by decide +kernel
theorem dJ6_bitCount_0f7a4_14 : decode cJ6_bitCount_0f7a4 14 = .ok (.iand, 1) := by decide +kernel
theorem dJ6_bitCount_0f7a4_15 : decode cJ6_bitCount_0f7a4 15 = .ok (.iload_n 0, 1) := by decide +kernel
theorem dJ6_bitCount_0f7a4_16 : decode cJ6_bitCount_0f7a4 16 = .ok (.iconst 2, 1) := by decide +kernel
theorem dJ6_bitCount_0f7a4_17 : decode cJ6_bitCount_0f7a4 17 = .ok (.iushr, 1) := by decide +kernel
theorem dJ6_bitCount_0f7a4_18 : decode cJ6_bitCount_0f7a4 18 = .ok (.ldc_w 266, 3) := by decide +kernel
theorem dJ6_bitCount_0f7a4_21 : decode cJ6_bitCount_0f7a4 21 = .ok (.iand, 1) := by decide +kernel
theorem dJ6_bitCount_0f7a4_22 : decode cJ6_bitCount_0f7a4 22 = .ok (.iadd, 1) := by decide +kernel
theorem dJ6_bitCount_0f7a4_23 : decode cJ6_bitCount_0f7a4 23 = .ok (.istore_n 0, 1) := by decide +kernel
theorem dJ6_bitCount_0f7a4_24 : decode cJ6_bitCount_0f7a4 24 = .ok (.iload_n 0, 1) := by decide +kernel
theorem dJ6_bitCount_0f7a4_25 : decode cJ6_bitCount_0f7a4 25 = .ok (.iload_n 0, 1) := by decide +kernel
theorem dJ6_bitCount_0f7a4_26 : decode cJ6_bitCount_0f7a4 26 = .ok (.iconst 4, 1) := by decide +kernel
theorem dJ6_bitCount_0f7a4_27 : decode cJ6_bitCount_0f7a4 27 = .ok (.iushr, 1) := by decide +kernel
theorem dJ6_bitCount_0f7a4_28 : decode cJ6_bitCount_0f7a4 28 = .ok (.iadd, 1) := by decide +kernel
theorem dJ6_bitCount_0f7a4_29 : decode cJ6_bitCount_0f7a4 29 = .ok (.ldc_w 267, 3) := by decide +kernel
theorem dJ6_bitCount_0f7a4_32 : decode cJ6_bitCount_0f7a4 32 = .ok (.iand, 1) := by decide +kernel
theorem dJ6_bitCount_0f7a4_33 : decode cJ6_bitCount_0f7a4 33 = .ok (.istore_n 0, 1) := by decide +kernel
theorem dJ6_bitCount_0f7a4_34 : decode cJ6_bitCount_0f7a4 34 = .ok (.iload_n 0, 1) := by decide +kernel
theorem dJ6_bitCount_0f7a4_35 : decode cJ6_bitCount_0f7a4 35 = .ok (.iload_n 0, 1) := by decide +kernel
theorem dJ6_bitCount_0f7a4_36 : decode cJ6_bitCount_0f7a4 36 = .ok (.bipush 8, 2) := by decide +kernel
theorem dJ6_bitCount_0f7a4_38 : decode cJ6_bitCount_0f7a4 38 = .ok (.iushr, 1) := by decide +kernel
theorem dJ6_bitCount_0f7a4_39 : decode cJ6_bitCount_0f7a4 39 = .ok (.iadd, 1) := by decide +kernel
theorem dJ6_bitCount_0f7a4_40 : decode cJ6_bitCount_0f7a4 40 = .ok (.istore_n 0, 1) := by decide +kernel
theorem dJ6_bitCount_0f7a4_41 : decode cJ6_bitCount_0f7a4 41 = .ok (.iload_n 0, 1) := by decide +kernel
theorem dJ6_bitCount_0f7a4_42 : decode cJ6_bitCount_0f7a4 42 = .ok (.iload_n 0, 1) := by decide +kernel
theorem dJ6_bitCount_0f7a4_43 : decode cJ6_bitCount_0f7a4 43 = .ok (.bipush 16, 2) := by decide +kernel
theorem dJ6_bitCount_0f7a4_45 : decode cJ6_bitCount_0f7a4 45 = .ok (.iushr, 1) := by decide +kernel
theorem dJ6_bitCount_0f7a4_46 : decode cJ6_bitCount_0f7a4 46 = .ok (.iadd, 1) := by decide +kernel
theorem dJ6_bitCount_0f7a4_47 : decode cJ6_bitCount_0f7a4 47 = .ok (.istore_n 0, 1) := by decide +kernel
theorem dJ6_bitCount_0f7a4_48 : decode cJ6_bitCount_0f7a4 48 = .ok (.iload_n 0, 1) := by decide +kernel
theorem dJ6_bitCount_0f7a4_49 : decode cJ6_bitCount_0f7a4 49 = .ok (.bipush 63, 2) := by decide +kernel
theorem dJ6_bitCount_0f7a4_51 : decode cJ6_bitCount_0f7a4 51 = .ok (.iand, 1) := by decide +kernel
theorem dJ6_bitCount_0f7a4_52 : decode cJ6_bitCount_0f7a4 52 = .ok (.ireturn, 1) := by decide +kernel
theorem dJ13_numberOfTrailingZeros_95d88_0 : decode cJ13_numberOfTrailingZeros_95d88 0 = .ok (.lload_n 0, 1) := by decide +kernel
theorem dJ13_numberOfTrailingZeros_95d88_1 : decode cJ13_numberOfTrailingZeros_95d88 1 = .ok (.l2i, 1) := by decide +kernel
theorem dJ13_numberOfTrailingZeros_95d88_2 : decode cJ13_numberOfTrailingZeros_95d88 2 = .ok (.istore_n 2, 1) := by decide +kernel
theorem dJ13_numberOfTrailingZeros_95d88_3 : decode cJ13_numberOfTrailingZeros_95d88 3 = .ok (.iload_n 2, 1) := by decide +kernel
theorem dJ13_numberOfTrailingZeros_95d88_4 : decode cJ13_numberOfTrailingZeros_95d88 4 = .ok (.ifCond .ne 17, 3) := by decide +kernel
theorem dJ13_numberOfTrailingZeros_95d88_7 : decode cJ13_numberOfTrailingZeros_95d88 7 = .ok (.bipush 32, 2) := by decide +kernel
theorem dJ13_numberOfTrailingZeros_95d88_9 : decode cJ13_numberOfTrailingZeros_95d88 9 = .ok (.lload_n 0, 1) := by decide +kernel
theorem dJ13_numberOfTrailingZeros_95d88_10 : decode cJ13_numberOfTrailingZeros_95d88 10 = .ok (.bipush 32, 2) := by decide +kernel
theorem dJ13_numberOfTrailingZeros_95d88_12 : decode cJ13_numberOfTrailingZeros_95d88 12 = .ok (.lushr, 1) := by decide +kernel
theorem dJ13_numberOfTrailingZeros_95d88_13 : decode cJ13_numberOfTrailingZeros_95d88 13 = .ok (.l2i, 1) := by decide +kernel
theorem dJ13_numberOfTrailingZeros_95d88_14 : decode cJ13_numberOfTrailingZeros_95d88 14 = .ok (.invokestatic 311, 3) := by decide +kernel
theorem dJ13_numberOfTrailingZeros_95d88_17 : decode cJ13_numberOfTrailingZeros_95d88 17 = .ok (.iadd, 1) := by decide +kernel
theorem dJ13_numberOfTrailingZeros_95d88_18 : decode cJ13_numberOfTrailingZeros_95d88 18 = .ok (.goto 7, 3) := by decide +kernel
theorem dJ13_numberOfTrailingZeros_95d88_21 : decode cJ13_numberOfTrailingZeros_95d88 21 = .ok (.iload_n 2, 1) := by decide +kernel
theorem dJ13_numberOfTrailingZeros_95d88_22 : decode cJ13_numberOfTrailingZeros_95d88 22 = .ok (.invokestatic 311, 3) := by decide +kernel
theorem dJ13_numberOfTrailingZeros_95d88_25 : decode cJ13_numberOfTrailingZeros_95d88 25 = .ok (.ireturn, 1) := by decide +kernel
theorem dJ13_bitCount_95d88_0 : decode cJ13_bitCount_95d88 0 = .ok (.lload_n 0, 1) := by decide +kernel
theorem dJ13_bitCount_95d88_1 : decode cJ13_bitCount_95d88 1 = .ok (.lload_n 0, 1) := by decide +kernel
theorem dJ13_bitCount_95d88_2 : decode cJ13_bitCount_95d88 2 = .ok (.iconst 1, 1) := by decide +kernel
theorem dJ13_bitCount_95d88_3 : decode cJ13_bitCount_95d88 3 = .ok (.lushr, 1) := by decide +kernel
theorem dJ13_bitCount_95d88_4 : decode cJ13_bitCount_95d88 4 = .ok (.ldc2_w 314, 3) := by decide +kernel
theorem dJ13_bitCount_95d88_7 : decode cJ13_bitCount_95d88 7 = .ok (.land, 1) := by decide +kernel
theorem dJ13_bitCount_95d88_8 : decode cJ13_bitCount_95d88 8 = .ok (.lsub, 1) := by decide +kernel
theorem dJ13_bitCount_95d88_9 : decode cJ13_bitCount_95d88 9 = .ok (.lstore_n 0, 1) := by decide +kernel
theorem dJ13_bitCount_95d88_10 : decode cJ13_bitCount_95d88 10 = .ok (.lload_n 0, 1) := by decide +kernel
theorem dJ13_bitCount_95d88_11 : decode cJ13_bitCount_95d88 11 = .ok (.ldc2_w 316, 3) := by decide +kernel
theorem dJ13_bitCount_95d88_14 : decode cJ13_bitCount_95d88 14 = .ok (.land, 1) := by decide +kernel
theorem dJ13_bitCount_95d88_15 : decode cJ13_bitCount_95d88 15 = .ok (.lload_n 0, 1) := by decide +kernel
theorem dJ13_bitCount_95d88_16 : decode cJ13_bitCount_95d88 16 = .ok (.iconst 2, 1) := by decide +kernel
theorem dJ13_bitCount_95d88_17 : decode cJ13_bitCount_95d88 17 = .ok (.lushr, 1) := by decide +kernel
theorem dJ13_bitCount_95d88_18 : decode cJ13_bitCount_95d88 18 = .ok (.ldc2_w 316, 3) := by decide +kernel
theorem dJ13_bitCount_95d88_21 : decode cJ13_bitCount_95d88 21 = .ok (.land, 1) := by decide +kernel
theorem dJ13_bitCount_95d88_22 : decode cJ13_bitCount_95d88 22 = .ok (.ladd, 1) := by decide +kernel
theorem dJ13_bitCount_95d88_23 : decode cJ13_bitCount_95d88 23 = .ok (.lstore_n 0, 1) := by decide +kernel
theorem dJ13_bitCount_95d88_24 : decode cJ13_bitCount_95d88 24 = .ok (.lload_n 0, 1) := by decide +kernel
theorem dJ13_bitCount_95d88_25 : decode cJ13_bitCount_95d88 25 = .ok (.lload_n 0, 1) := by decide +kernel
theorem dJ13_bitCount_95d88_26 : decode cJ13_bitCount_95d88 26 = .ok (.iconst 4, 1) := by decide +kernel
theorem dJ13_bitCount_95d88_27 : decode cJ13_bitCount_95d88 27 = .ok (.lushr, 1) := by decide +kernel
theorem dJ13_bitCount_95d88_28 : decode cJ13_bitCount_95d88 28 = .ok (.ladd, 1) := by decide +kernel
theorem dJ13_bitCount_95d88_29 : decode cJ13_bitCount_95d88 29 = .ok (.ldc2_w 318, 3) := by decide +kernel
theorem dJ13_bitCount_95d88_32 : decode cJ13_bitCount_95d88 32 = .ok (.land, 1) := by decide +kernel
theorem dJ13_bitCount_95d88_33 : decode cJ13_bitCount_95d88 33 = .ok (.lstore_n 0, 1) := by decide +kernel
theorem dJ13_bitCount_95d88_34 : decode cJ13_bitCount_95d88 34 = .ok (.lload_n 0, 1) := by decide +kernel
theorem dJ13_bitCount_95d88_35 : decode cJ13_bitCount_95d88 35 = .ok (.lload_n 0, 1) := by decide +kernel
theorem dJ13_bitCount_95d88_36 : decode cJ13_bitCount_95d88 36 = .ok (.bipush 8, 2) := by decide +kernel
theorem dJ13_bitCount_95d88_38 : decode cJ13_bitCount_95d88 38 = .ok (.lushr, 1) := by decide +kernel
theorem dJ13_bitCount_95d88_39 : decode cJ13_bitCount_95d88 39 = .ok (.ladd, 1) := by decide +kernel
theorem dJ13_bitCount_95d88_40 : decode cJ13_bitCount_95d88 40 = .ok (.lstore_n 0, 1) := by decide +kernel
theorem dJ13_bitCount_95d88_41 : decode cJ13_bitCount_95d88 41 = .ok (.lload_n 0, 1) := by decide +kernel
theorem dJ13_bitCount_95d88_42 : decode cJ13_bitCount_95d88 42 = .ok (.lload_n 0, 1) := by decide +kernel
theorem dJ13_bitCount_95d88_43 : decode cJ13_bitCount_95d88 43 = .ok (.bipush 16, 2) := by decide +kernel
theorem dJ13_bitCount_95d88_45 : decode cJ13_bitCount_95d88 45 = .ok (.lushr, 1) := by decide +kernel
theorem dJ13_bitCount_95d88_46 : decode cJ13_bitCount_95d88 46 = .ok (.ladd, 1) := by decide +kernel
theorem dJ13_bitCount_95d88_47 : decode cJ13_bitCount_95d88 47 = .ok (.lstore_n 0, 1) := by decide +kernel
theorem dJ13_bitCount_95d88_48 : decode cJ13_bitCount_95d88 48 = .ok (.lload_n 0, 1) := by decide +kernel
theorem dJ13_bitCount_95d88_49 : decode cJ13_bitCount_95d88 49 = .ok (.lload_n 0, 1) := by decide +kernel
theorem dJ13_bitCount_95d88_50 : decode cJ13_bitCount_95d88 50 = .ok (.bipush 32, 2) := by decide +kernel
theorem dJ13_bitCount_95d88_52 : decode cJ13_bitCount_95d88 52 = .ok (.lushr, 1) := by decide +kernel
theorem dJ13_bitCount_95d88_53 : decode cJ13_bitCount_95d88 53 = .ok (.ladd, 1) := by decide +kernel
theorem dJ13_bitCount_95d88_54 : decode cJ13_bitCount_95d88 54 = .ok (.lstore_n 0, 1) := by decide +kernel
theorem dJ13_bitCount_95d88_55 : decode cJ13_bitCount_95d88 55 = .ok (.lload_n 0, 1) := by decide +kernel
theorem dJ13_bitCount_95d88_56 : decode cJ13_bitCount_95d88 56 = .ok (.l2i, 1) := by decide +kernel
theorem dJ13_bitCount_95d88_57 : decode cJ13_bitCount_95d88 57 = .ok (.bipush 127, 2) := by decide +kernel
theorem dJ13_bitCount_95d88_59 : decode cJ13_bitCount_95d88 59 = .ok (.iand, 1) := by decide +kernel
theorem dJ13_bitCount_95d88_60 : decode cJ13_bitCount_95d88 60 = .ok (.ireturn, 1) := by decide +kernel
theorem dJ9_max_7cf53_0 : decode cJ9_max_7cf53 0 = .ok (.iload_n 0, 1) := by decide +kernel
theorem dJ9_max_7cf53_1 : decode cJ9_max_7cf53 1 = .ok (.iload_n 1, 1) := by decide +kernel
theorem dJ9_max_7cf53_2 : decode cJ9_max_7cf53 2 = .ok (.if_icmp .lt 7, 3) := by decide +kernel
theorem dJ9_max_7cf53_5 : decode cJ9_max_7cf53 5 = .ok (.iload_n 0, 1) := by decide +kernel
theorem dJ9_max_7cf53_6 : decode cJ9_max_7cf53 6 = .ok (.goto 4, 3) := by decide +kernel
theorem dJ9_max_7cf53_9 : decode cJ9_max_7cf53 9 = .ok (.iload_n 1, 1) := by decide +kernel
theorem dJ9_max_7cf53_10 : decode cJ9_max_7cf53 10 = .ok (.ireturn, 1) := by decide +kernel
theorem dJ9_min_7cf53_0 : decode cJ9_min_7cf53 0 = .ok (.iload_n 0, 1) := by decide +kernel
theorem dJ9_min_7cf53_1 : decode cJ9_min_7cf53 1 = .ok (.iload_n 1, 1) := by decide +kernel
theorem dJ9_min_7cf53_2 : decode cJ9_min_7cf53 2 = .ok (.if_icmp .gt 7, 3) := by decide +kernel
theorem dJ9_min_7cf53_5 : decode cJ9_min_7cf53 5 = .ok (.iload_n 0, 1) := by decide +kernel
theorem dJ9_min_7cf53_6 : decode cJ9_min_7cf53 6 = .ok (.goto 4, 3) := by decide +kernel
theorem dJ9_min_7cf53_9 : decode cJ9_min_7cf53 9 = .ok (.iload_n 1, 1) := by decide +kernel
theorem dJ9_min_7cf53_10 : decode cJ9_min_7cf53 10 = .ok (.ireturn, 1) := by decide +kernel
theorem dJ0_length_8abf5_0 : decode cJ0_length_8abf5 0 = .ok (.aload_n 0, 1) := by decide +kernel
theorem dJ0_length_8abf5_1 : decode cJ0_length_8abf5 1 = .ok (.getfield 9, 3) := by decide +kernel
theorem dJ0_length_8abf5_4 : decode cJ0_length_8abf5 4 = .ok (.arraylength, 1) := by decide +kernel
theorem dJ0_length_8abf5_5 : decode cJ0_length_8abf5 5 = .ok (.aload_n 0, 1) := by decide +kernel
theorem dJ0_length_8abf5_6 : decode cJ0_length_8abf5 6 = .ok (.invokevirtual 335, 3) := by decide +kernel
theorem dJ0_length_8abf5_9 : decode cJ0_length_8abf5 9 = .ok (.ishr, 1) := by decide +kernel
theorem dJ0_length_8abf5_10 : decode cJ0_length_8abf5 10 = .ok (.ireturn, 1) := by decide +kernel
theorem dJ0_charAt_5068e_0 : decode cJ0_charAt_5068e 0 = .ok (.aload_n 0, 1) := by decide +kernel
theorem dJ0_charAt_5068e_1 : decode cJ0_charAt_5068e 1 = .ok (.invokevirtual 492, 3) := by decide +kernel
theorem dJ0_charAt_5068e_4 : decode cJ0_charAt_5068e 4 = .ok (.ifCond .eq 12, 3) := by decide +kernel
theorem dJ0_charAt_5068e_7 : decode cJ0_charAt_5068e 7 = .ok (.aload_n 0, 1) := by decide +kernel
theorem dJ0_charAt_5068e_8 : decode cJ0_charAt_5068e 8 = .ok (.getfield 9, 3) := by decide +kernel
theorem dJ0_charAt_5068e_11 : decode cJ0_charAt_5068e 11 = .ok (.iload_n 1, 1) := by decide +kernel
theorem dJ0_charAt_5068e_12 : decode cJ0_charAt_5068e 12 = .ok (.invokestatic 495, 3) := by decide +kernel
theorem dJ0_charAt_5068e_15 : decode cJ0_charAt_5068e 15 = .ok (.ireturn, 1) := by decide +kernel
theorem dJ0_charAt_5068e_16 : decode cJ0_charAt_5068e 16 = .ok (.aload_n 0, 1) := by decide +kernel
theorem dJ0_charAt_5068e_17 : decode cJ0_charAt_5068e 17 = .ok (.getfield 9, 3) := by decide +kernel
theorem dJ0_charAt_5068e_20 : decode cJ0_charAt_5068e 20 = .ok (.iload_n 1, 1) := by decide +kernel
theorem dJ0_charAt_5068e_21 : decode cJ0_charAt_5068e 21 = .ok (.invokestatic 498, 3) := by decide +kernel
theorem dJ0_charAt_5068e_24 : decode cJ0_charAt_5068e 24 = .ok (.ireturn, 1) := by decide +kernel
theorem dJ0_coder_7d493_0 : decode cJ0_coder_7d493 0 = .ok (.getstatic 38, 3) := by decide +kernel
theorem dJ0_coder_7d493_3 : decode cJ0_coder_7d493 3 = .ok (.ifCond .eq 10, 3) := by decide +kernel
theorem dJ0_coder_7d493_6 : decode cJ0_coder_7d493 6 = .ok (.aload_n 0, 1) := by decide +kernel
theorem dJ0_coder_7d493_7 : decode cJ0_coder_7d493 7 = .ok (.getfield 15, 3) := by decide +kernel
theorem dJ0_coder_7d493_10 : decode cJ0_coder_7d493 10 = .ok (.goto 4, 3) := by decide +kernel
theorem dJ0_coder_7d493_13 : decode cJ0_coder_7d493 13 = .ok (.iconst 1, 1) := by decide +kernel
theorem dJ0_coder_7d493_14 : decode cJ0_coder_7d493 14 = .ok (.ireturn, 1) := by decide +kernel
theorem dJ0_isLatin1_aae02_0 : decode cJ0_isLatin1_aae02 0 = .ok (.getstatic 38, 3) := by decide +kernel
theorem dJ0_isLatin1_aae02_3 : decode cJ0_isLatin1_aae02 3 = .ok (.ifCond .eq 14, 3) := by decide +kernel
theorem dJ0_isLatin1_aae02_6 : decode cJ0_isLatin1_aae02 6 = .ok (.aload_n 0, 1) := by decide +kernel
theorem dJ0_isLatin1_aae02_7 : decode cJ0_isLatin1_aae02 7 = .ok (.getfield 15, 3) := by decide +kernel
theorem dJ0_isLatin1_aae02_10 : decode cJ0_isLatin1_aae02 10 = .ok (.ifCond .ne 7, 3) := by decide +kernel
theorem dJ0_isLatin1_aae02_13 : decode cJ0_isLatin1_aae02 13 = .ok (.iconst 1, 1) := by decide +kernel
theorem dJ0_isLatin1_aae02_14 : decode cJ0_isLatin1_aae02 14 = .ok (.goto 4, 3) := by decide +kernel
theorem dJ0_isLatin1_aae02_17 : decode cJ0_isLatin1_aae02 17 = .ok (.iconst 0, 1) := by decide +kernel
theorem dJ0_isLatin1_aae02_18 : decode cJ0_isLatin1_aae02 18 = .ok (.ireturn, 1) := by decide +kernel
theorem dJ0_checkIndex_df160_0 : decode cJ0_checkIndex_df160 0 = .ok (.iload_n 0, 1) := by decide +kernel
theorem dJ0_checkIndex_df160_1 : decode cJ0_checkIndex_df160 1 = .ok (.iload_n 1, 1) := by decide +kernel
theorem dJ0_checkIndex_df160_2 : decode cJ0_checkIndex_df160 2 = .ok (.getstatic 1053, 3) := by decide +kernel
theorem dJ0_checkIndex_df160_5 : decode cJ0_checkIndex_df160 5 = .ok (.invokestatic 1059, 3) := by decide +kernel
theorem dJ0_checkIndex_df160_8 : decode cJ0_checkIndex_df160 8 = .ok (.pop, 1) := by decide +kernel
theorem dJ0_checkIndex_df160_9 : decode cJ0_checkIndex_df160 9 = .ok (.return_, 1) := by decide +kernel
theorem dJ1_charAt_3b067_0 : decode cJ1_charAt_3b067 0 = .ok (.iload_n 1, 1) := by decide +kernel
theorem dJ1_charAt_3b067_1 : decode cJ1_charAt_3b067 1 = .ok (.aload_n 0, 1) := by decide +kernel
theorem dJ1_charAt_3b067_2 : decode cJ1_charAt_3b067 2 = .ok (.arraylength, 1) := by decide +kernel
theorem dJ1_charAt_3b067_3 : decode cJ1_charAt_3b067 3 = .ok (.invokestatic 9, 3) := by decide +kernel
theorem dJ1_charAt_3b067_6 : decode cJ1_charAt_3b067 6 = .ok (.aload_n 0, 1) := by decide +kernel
theorem dJ1_charAt_3b067_7 : decode cJ1_charAt_3b067 7 = .ok (.iload_n 1, 1) := by decide +kernel
theorem dJ1_charAt_3b067_8 : decode cJ1_charAt_3b067 8 = .ok (.baload, 1) := by decide +kernel
theorem dJ1_charAt_3b067_9 : decode cJ1_charAt_3b067 9 = .ok (.sipush 255, 3) := by decide +kernel
theorem dJ1_charAt_3b067_12 : decode cJ1_charAt_3b067 12 = .ok (.iand, 1) := by decide +kernel
theorem dJ1_charAt_3b067_13 : decode cJ1_charAt_3b067 13 = .ok (.i2c, 1) := by decide +kernel
theorem dJ1_charAt_3b067_14 : decode cJ1_charAt_3b067 14 = .ok (.ireturn, 1) := by decide +kernel
theorem dJ2_getChar_3b067_0 : decode cJ2_getChar_3b067 0 = .ok (.getstatic 44, 3) := by decide +kernel
theorem dJ2_getChar_3b067_3 : decode cJ2_getChar_3b067 3 = .ok (.ifCond .ne 25, 3) := by decide +kernel
theorem dJ2_getChar_3b067_6 : decode cJ2_getChar_3b067 6 = .ok (.iload_n 1, 1) := by decide +kernel
theorem dJ2_getChar_3b067_7 : decode cJ2_getChar_3b067 7 = .ok (.ifCond .lt 11, 3) := by decide +kernel
theorem dJ2_getChar_3b067_10 : decode cJ2_getChar_3b067 10 = .ok (.iload_n 1, 1) := by decide +kernel
theorem dJ2_getChar_3b067_11 : decode cJ2_getChar_3b067 11 = .ok (.aload_n 0, 1) := by decide +kernel
theorem dJ2_getChar_3b067_12 : decode cJ2_getChar_3b067 12 = .ok (.invokestatic 48, 3) := by decide +kernel
theorem dJ2_getChar_3b067_15 : decode cJ2_getChar_3b067 15 = .ok (.if_icmp .lt 13, 3) := by decide +kernel
theorem dJ2_getChar_3b067_18 : decode cJ2_getChar_3b067 18 = .ok (.new 52, 3) := by decide +kernel
theorem dJ2_getChar_3b067_21 : decode cJ2_getChar_3b067 21 = .ok (.dup, 1) := by decide +kernel
theorem dJ2_getChar_3b067_22 : decode cJ2_getChar_3b067 22 = .ok (.ldc 54, 2) := by decide +kernel
theorem dJ2_getChar_3b067_24 : decode cJ2_getChar_3b067 24 = .ok (.invokespecial 56, 3) := by decide +kernel
theorem dJ2_getChar_3b067_27 : decode cJ2_getChar_3b067 27 = .ok (.athrow, 1) := by decide +kernel
theorem dJ2_getChar_3b067_28 : decode cJ2_getChar_3b067 28 = .ok (.iload_n 1, 1) := by decide +kernel
theorem dJ2_getChar_3b067_29 : decode cJ2_getChar_3b067 29 = .ok (.iconst 1, 1) := by decide +kernel
theorem dJ2_getChar_3b067_30 : decode cJ2_getChar_3b067 30 = .ok (.ishl, 1) := by decide +kernel
theorem dJ2_getChar_3b067_31 : decode cJ2_getChar_3b067 31 = .ok (.istore_n 1, 1) := by decide +kernel
theorem dJ2_getChar_3b067_32 : decode cJ2_getChar_3b067 32 = .ok (.aload_n 0, 1) := by decide +kernel
theorem dJ2_getChar_3b067_33 : decode cJ2_getChar_3b067 33 = .ok (.iload_n 1, 1) := by decide +kernel
theorem dJ2_getChar_3b067_34 : decode cJ2_getChar_3b067 34 = .ok (.iinc 1 1, 3) := by decide +kernel
theorem dJ2_getChar_3b067_37 : decode cJ2_getChar_3b067 37 = .ok (.baload, 1) := by decide +kernel
theorem dJ2_getChar_3b067_38 : decode cJ2_getChar_3b067 38 = .ok (.sipush 255, 3) := by decide +kernel
theorem dJ2_getChar_3b067_41 : decode cJ2_getChar_3b067 41 = .ok (.iand, 1) := by decide +kernel
theorem dJ2_getChar_3b067_42 : decode cJ2_getChar_3b067 42 = .ok (.getstatic 59, 3) := by decide +kernel
theorem dJ2_getChar_3b067_45 : decode cJ2_getChar_3b067 45 = .ok (.ishl, 1) := by decide +kernel
theorem dJ2_getChar_3b067_46 : decode cJ2_getChar_3b067 46 = .ok (.aload_n 0, 1) := by decide +kernel
theorem dJ2_getChar_3b067_47 : decode cJ2_getChar_3b067 47 = .ok (.iload_n 1, 1) := by decide +kernel
theorem dJ2_getChar_3b067_48 : decode cJ2_getChar_3b067 48 = .ok (.baload, 1) := by decide +kernel
theorem dJ2_getChar_3b067_49 : decode cJ2_getChar_3b067 49 = .ok (.sipush 255, 3) := by decide +kernel
theorem dJ2_getChar_3b067_52 : decode cJ2_getChar_3b067 52 = .ok (.iand, 1) := by decide +kernel
theorem dJ2_getChar_3b067_53 : decode cJ2_getChar_3b067 53 = .ok (.getstatic 63, 3) := by decide +kernel
theorem dJ2_getChar_3b067_56 : decode cJ2_getChar_3b067 56 = .ok (.ishl, 1) := by decide +kernel
theorem dJ2_getChar_3b067_57 : decode cJ2_getChar_3b067 57 = .ok (.ior, 1) := by decide +kernel
theorem dJ2_getChar_3b067_58 : decode cJ2_getChar_3b067 58 = .ok (.i2c, 1) := by decide +kernel
theorem dJ2_getChar_3b067_59 : decode cJ2_getChar_3b067 59 = .ok (.ireturn, 1) := by decide +kernel
theorem dJ2_length_9d52b_0 : decode cJ2_length_9d52b 0 = .ok (.aload_n 0, 1) := by decide +kernel
theorem dJ2_length_9d52b_1 : decode cJ2_length_9d52b 1 = .ok (.arraylength, 1) := by decide +kernel
theorem dJ2_length_9d52b_2 : decode cJ2_length_9d52b 2 = .ok (.iconst 1, 1) := by decide +kernel
theorem dJ2_length_9d52b_3 : decode cJ2_length_9d52b 3 = .ok (.ishr, 1) := by decide +kernel
theorem dJ2_length_9d52b_4 : decode cJ2_length_9d52b 4 = .ok (.ireturn, 1) := by decide +kernel
theorem dJ2_charAt_3b067_0 : decode cJ2_charAt_3b067 0 = .ok (.iload_n 1, 1) := by decide +kernel
theorem dJ2_charAt_3b067_1 : decode cJ2_charAt_3b067 1 = .ok (.aload_n 0, 1) := by decide +kernel
theorem dJ2_charAt_3b067_2 : decode cJ2_charAt_3b067 2 = .ok (.invokestatic 67, 3) := by decide +kernel
theorem dJ2_charAt_3b067_5 : decode cJ2_charAt_3b067 5 = .ok (.aload_n 0, 1) := by decide +kernel
theorem dJ2_charAt_3b067_6 : decode cJ2_charAt_3b067 6 = .ok (.iload_n 1, 1) := by decide +kernel
theorem dJ2_charAt_3b067_7 : decode cJ2_charAt_3b067 7 = .ok (.invokestatic 71, 3) := by decide +kernel
theorem dJ2_charAt_3b067_10 : decode cJ2_charAt_3b067 10 = .ok (.ireturn, 1) := by decide +kernel
theorem dJ2_checkIndex_2214a_0 : decode cJ2_checkIndex_2214a 0 = .ok (.iload_n 0, 1) := by decide +kernel
theorem dJ2_checkIndex_2214a_1 : decode cJ2_checkIndex_2214a 1 = .ok (.aload_n 1, 1) := by decide +kernel
theorem dJ2_checkIndex_2214a_2 : decode cJ2_checkIndex_2214a 2 = .ok (.invokestatic 48, 3) := by decide +kernel
theorem dJ2_checkIndex_2214a_5 : decode cJ2_checkIndex_2214a 5 = .ok (.invokestatic 414, 3) := by decide +kernel
theorem dJ2_checkIndex_2214a_8 : decode cJ2_checkIndex_2214a 8 = .ok (.return_, 1) := by decide +kernel
theorem dJ7_fill_d0a16_0 : decode cJ7_fill_d0a16 0 = .ok (.iconst 0, 1) := by decide +kernel
theorem dJ7_fill_d0a16_1 : decode cJ7_fill_d0a16 1 = .ok (.istore_n 3, 1) := by decide +kernel
theorem dJ7_fill_d0a16_2 : decode cJ7_fill_d0a16 2 = .ok (.aload_n 0, 1) := by decide +kernel
theorem dJ7_fill_d0a16_3 : decode cJ7_fill_d0a16 3 = .ok (.arraylength, 1) := by decide +kernel
theorem dJ7_fill_d0a16_4 : decode cJ7_fill_d0a16 4 = .ok (.istore 4, 2) := by decide +kernel
theorem dJ7_fill_d0a16_6 : decode cJ7_fill_d0a16 6 = .ok (.iload_n 3, 1) := by decide +kernel
theorem dJ7_fill_d0a16_7 : decode cJ7_fill_d0a16 7 = .ok (.iload 4, 2) := by decide +kernel
theorem dJ7_fill_d0a16_9 : decode cJ7_fill_d0a16 9 = .ok (.if_icmp .ge 13, 3) := by decide +kernel
theorem dJ7_fill_d0a16_12 : decode cJ7_fill_d0a16 12 = .ok (.aload_n 0, 1) := by decide +kernel
theorem dJ7_fill_d0a16_13 : decode cJ7_fill_d0a16 13 = .ok (.iload_n 3, 1) := by decide +kernel
theorem dJ7_fill_d0a16_14 : decode cJ7_fill_d0a16 14 = .ok (.lload_n 1, 1) := by decide +kernel
theorem dJ7_fill_d0a16_15 : decode cJ7_fill_d0a16 15 = .ok (.lastore, 1) := by decide +kernel
theorem dJ7_fill_d0a16_16 : decode cJ7_fill_d0a16 16 = .ok (.iinc 3 1, 3) := by decide +kernel
theorem dJ7_fill_d0a16_19 : decode cJ7_fill_d0a16 19 = .ok (.goto (-13), 3) := by decide +kernel
theorem dJ7_fill_d0a16_22 : decode cJ7_fill_d0a16 22 = .ok (.return_, 1) := by decide +kernel
theorem dJ3_checkIndex_8e157_0 : decode cJ3_checkIndex_8e157 0 = .ok (.iload_n 0, 1) := by decide +kernel
theorem dJ3_checkIndex_8e157_1 : decode cJ3_checkIndex_8e157 1 = .ok (.ifCond .lt 8, 3) := by decide +kernel
theorem dJ3_checkIndex_8e157_4 : decode cJ3_checkIndex_8e157 4 = .ok (.iload_n 0, 1) := by decide +kernel
theorem dJ3_checkIndex_8e157_5 : decode cJ3_checkIndex_8e157 5 = .ok (.iload_n 1, 1) := by decide +kernel
theorem dJ3_checkIndex_8e157_6 : decode cJ3_checkIndex_8e157 6 = .ok (.if_icmp .lt 10, 3) := by decide +kernel
theorem dJ3_checkIndex_8e157_9 : decode cJ3_checkIndex_8e157 9 = .ok (.aload_n 2, 1) := by decide +kernel
theorem dJ3_checkIndex_8e157_10 : decode cJ3_checkIndex_8e157 10 = .ok (.iload_n 0, 1) := by decide +kernel
theorem dJ3_checkIndex_8e157_11 : decode cJ3_checkIndex_8e157 11 = .ok (.iload_n 1, 1) := by decide +kernel
theorem dJ3_checkIndex_8e157_12 : decode cJ3_checkIndex_8e157 12 = .ok (.invokestatic 95, 3) := by decide +kernel
theorem dJ3_checkIndex_8e157_15 : decode cJ3_checkIndex_8e157 15 = .ok (.athrow, 1) := by decide +kernel
theorem dJ3_checkIndex_8e157_16 : decode cJ3_checkIndex_8e157 16 = .ok (.iload_n 0, 1) := by decide +kernel
theorem dJ3_checkIndex_8e157_17 : decode cJ3_checkIndex_8e157 17 = .ok (.ireturn, 1) := by decide +kernel
theorem dL_reason_0 : decode cL_reason 0 = .ok (.aload 5, 2) := by decide +kernel
theorem dL_reason_2 : decode cL_reason 2 = .ok (.iconst 0, 1) := by decide +kernel
theorem dL_reason_3 : decode cL_reason 3 = .ok (.aload_n 0, 1) := by decide +kernel
theorem dL_reason_4 : decode cL_reason 4 = .ok (.iload_n 1, 1) := by decide +kernel
theorem dL_reason_5 : decode cL_reason 5 = .ok (.iload_n 2, 1) := by decide +kernel
theorem dL_reason_6 : decode cL_reason 6 = .ok (.iload_n 3, 1) := by decide +kernel
theorem dL_reason_7 : decode cL_reason 7 = .ok (.iload 4, 2) := by decide +kernel
theorem dL_reason_9 : decode cL_reason 9 = .ok (.invokevirtual 7, 3) := by decide +kernel
theorem dL_reason_12 : decode cL_reason 12 = .ok (.i2l, 1) := by decide +kernel
theorem dL_reason_13 : decode cL_reason 13 = .ok (.lastore, 1) := by decide +kernel
theorem dL_reason_14 : decode cL_reason 14 = .ok (.goto 7, 3) := by decide +kernel
theorem dL_reason_17 : decode cL_reason 17 = .ok (.astore 6, 2) := by decide +kernel
theorem dL_reason_19 : decode cL_reason 19 = .ok (.iconst 1, 1) := by decide +kernel
theorem dL_reason_20 : decode cL_reason 20 = .ok (.ireturn, 1) := by decide +kernel
theorem dL_reason_21 : decode cL_reason 21 = .ok (.iconst 0, 1) := by decide +kernel
theorem dL_reason_22 : decode cL_reason 22 = .ok (.ireturn, 1) := by decide +kernel
theorem dL_led_0 : decode cL_led 0 = .ok (.aload_n 2, 1) := by decide +kernel
theorem dL_led_1 : decode cL_led 1 = .ok (.iconst 0, 1) := by decide +kernel
theorem dL_led_2 : decode cL_led 2 = .ok (.aload_n 0, 1) := by decide +kernel
theorem dL_led_3 : decode cL_led 3 = .ok (.iload_n 1, 1) := by decide +kernel
theorem dL_led_4 : decode cL_led 4 = .ok (.invokevirtual 15, 3) := by decide +kernel
theorem dL_led_7 : decode cL_led 7 = .ok (.i2l, 1) := by decide +kernel
theorem dL_led_8 : decode cL_led 8 = .ok (.lastore, 1) := by decide +kernel
theorem dL_led_9 : decode cL_led 9 = .ok (.goto 6, 3) := by decide +kernel
theorem dL_led_12 : decode cL_led 12 = .ok (.astore_n 3, 1) := by decide +kernel
theorem dL_led_13 : decode cL_led 13 = .ok (.iconst 1, 1) := by decide +kernel
theorem dL_led_14 : decode cL_led 14 = .ok (.ireturn, 1) := by decide +kernel
theorem dL_led_15 : decode cL_led 15 = .ok (.iconst 0, 1) := by decide +kernel
theorem dL_led_16 : decode cL_led 16 = .ok (.ireturn, 1) := by decide +kernel
theorem dL_law_0 : decode cL_law 0 = .ok (.new 8, 3) := by decide +kernel
theorem dL_law_3 : decode cL_law 3 = .ok (.dup, 1) := by decide +kernel
theorem dL_law_4 : decode cL_law 4 = .ok (.invokespecial 19, 3) := by decide +kernel
theorem dL_law_7 : decode cL_law 7 = .ok (.astore_n 1, 1) := by decide +kernel
theorem dL_law_8 : decode cL_law 8 = .ok (.new 20, 3) := by decide +kernel
theorem dL_law_11 : decode cL_law 11 = .ok (.dup, 1) := by decide +kernel
theorem dL_law_12 : decode cL_law 12 = .ok (.invokespecial 22, 3) := by decide +kernel
theorem dL_law_15 : decode cL_law 15 = .ok (.astore_n 2, 1) := by decide +kernel
theorem dL_law_16 : decode cL_law 16 = .ok (.iconst 1, 1) := by decide +kernel
theorem dL_law_17 : decode cL_law 17 = .ok (.newarray .long, 2) := by decide +kernel
theorem dL_law_19 : decode cL_law 19 = .ok (.astore_n 3, 1) := by decide +kernel
theorem dL_law_20 : decode cL_law 20 = .ok (.iconst 0, 1) := by decide +kernel
theorem dL_law_21 : decode cL_law 21 = .ok (.istore 4, 2) := by decide +kernel
theorem dL_law_23 : decode cL_law 23 = .ok (.iload 4, 2) := by decide +kernel
theorem dL_law_25 : decode cL_law 25 = .ok (.aload_n 0, 1) := by decide +kernel
theorem dL_law_26 : decode cL_law 26 = .ok (.arraylength, 1) := by decide +kernel
theorem dL_law_27 : decode cL_law 27 = .ok (.bipush 6, 2) := by decide +kernel
theorem dL_law_29 : decode cL_law 29 = .ok (.isub, 1) := by decide +kernel
theorem dL_law_30 : decode cL_law 30 = .ok (.if_icmp .gt 1157, 3) := by decide +kernel
theorem dL_law_33 : decode cL_law 33 = .ok (.aload_n 0, 1) := by decide +kernel
theorem dL_law_34 : decode cL_law 34 = .ok (.iload 4, 2) := by decide +kernel
theorem dL_law_36 : decode cL_law 36 = .ok (.iaload, 1) := by decide +kernel
theorem dL_law_37 : decode cL_law 37 = .ok (.bipush 63, 2) := by decide +kernel
theorem dL_law_39 : decode cL_law 39 = .ok (.iand, 1) := by decide +kernel
theorem dL_law_40 : decode cL_law 40 = .ok (.tableswitch 1141 0 34 #[156, 229, 254, 267, 280, 305, 342, 391, 404, 417, 466, 515, 607, 644, 669, 682, 731, 756, 769, 782, 807, 820, 845, 858, 883, 908, 921, 934, 990, 1027, 1040, 1065, 1078, 1103, 1128], 156) := by decide +kernel
theorem dL_law_196 : decode cL_law 196 = .ok (.aload_n 1, 1) := by decide +kernel
theorem dL_law_197 : decode cL_law 197 = .ok (.aload_n 0, 1) := by decide +kernel
theorem dL_law_198 : decode cL_law 198 = .ok (.iload 4, 2) := by decide +kernel
theorem dL_law_200 : decode cL_law 200 = .ok (.iconst 1, 1) := by decide +kernel
theorem dL_law_201 : decode cL_law 201 = .ok (.iadd, 1) := by decide +kernel
theorem dL_law_202 : decode cL_law 202 = .ok (.iaload, 1) := by decide +kernel
theorem dL_law_203 : decode cL_law 203 = .ok (.aload_n 0, 1) := by decide +kernel
theorem dL_law_204 : decode cL_law 204 = .ok (.iload 4, 2) := by decide +kernel
theorem dL_law_206 : decode cL_law 206 = .ok (.iconst 2, 1) := by decide +kernel
theorem dL_law_207 : decode cL_law 207 = .ok (.iadd, 1) := by decide +kernel
theorem dL_law_208 : decode cL_law 208 = .ok (.iaload, 1) := by decide +kernel
theorem dL_law_209 : decode cL_law 209 = .ok (.aload_n 0, 1) := by decide +kernel
theorem dL_law_210 : decode cL_law 210 = .ok (.iload 4, 2) := by decide +kernel
theorem dL_law_212 : decode cL_law 212 = .ok (.iconst 3, 1) := by decide +kernel
theorem dL_law_213 : decode cL_law 213 = .ok (.iadd, 1) := by decide +kernel
theorem dL_law_214 : decode cL_law 214 = .ok (.iaload, 1) := by decide +kernel
theorem dL_law_215 : decode cL_law 215 = .ok (.aload_n 0, 1) := by decide +kernel
theorem dL_law_216 : decode cL_law 216 = .ok (.iload 4, 2) := by decide +kernel
theorem dL_law_218 : decode cL_law 218 = .ok (.iconst 4, 1) := by decide +kernel
theorem dL_law_219 : decode cL_law 219 = .ok (.iadd, 1) := by decide +kernel
theorem dL_law_220 : decode cL_law 220 = .ok (.iaload, 1) := by decide +kernel
theorem dL_law_221 : decode cL_law 221 = .ok (.aload_n 0, 1) := by decide +kernel
theorem dL_law_222 : decode cL_law 222 = .ok (.iload 4, 2) := by decide +kernel
theorem dL_law_224 : decode cL_law 224 = .ok (.iconst 5, 1) := by decide +kernel
theorem dL_law_225 : decode cL_law 225 = .ok (.iadd, 1) := by decide +kernel
theorem dL_law_226 : decode cL_law 226 = .ok (.iaload, 1) := by decide +kernel
theorem dL_law_227 : decode cL_law 227 = .ok (.invokevirtual 23, 3) := by decide +kernel
theorem dL_law_230 : decode cL_law 230 = .ok (.aload_n 2, 1) := by decide +kernel
theorem dL_law_231 : decode cL_law 231 = .ok (.aload_n 0, 1) := by decide +kernel
theorem dL_law_232 : decode cL_law 232 = .ok (.iload 4, 2) := by decide +kernel
theorem dL_law_234 : decode cL_law 234 = .ok (.iconst 1, 1) := by decide +kernel
theorem dL_law_235 : decode cL_law 235 = .ok (.iadd, 1) := by decide +kernel
theorem dL_law_236 : decode cL_law 236 = .ok (.iaload, 1) := by decide +kernel
theorem dL_law_237 : decode cL_law 237 = .ok (.aload_n 0, 1) := by decide +kernel
theorem dL_law_238 : decode cL_law 238 = .ok (.iload 4, 2) := by decide +kernel
theorem dL_law_240 : decode cL_law 240 = .ok (.iconst 2, 1) := by decide +kernel
theorem dL_law_241 : decode cL_law 241 = .ok (.iadd, 1) := by decide +kernel
theorem dL_law_242 : decode cL_law 242 = .ok (.iaload, 1) := by decide +kernel
theorem dL_law_243 : decode cL_law 243 = .ok (.aload_n 0, 1) := by decide +kernel
theorem dL_law_244 : decode cL_law 244 = .ok (.iload 4, 2) := by decide +kernel
theorem dL_law_246 : decode cL_law 246 = .ok (.iconst 3, 1) := by decide +kernel
theorem dL_law_247 : decode cL_law 247 = .ok (.iadd, 1) := by decide +kernel
theorem dL_law_248 : decode cL_law 248 = .ok (.iaload, 1) := by decide +kernel
theorem dL_law_249 : decode cL_law 249 = .ok (.aload_n 0, 1) := by decide +kernel
theorem dL_law_250 : decode cL_law 250 = .ok (.iload 4, 2) := by decide +kernel
theorem dL_law_252 : decode cL_law 252 = .ok (.iconst 4, 1) := by decide +kernel
theorem dL_law_253 : decode cL_law 253 = .ok (.iadd, 1) := by decide +kernel
theorem dL_law_254 : decode cL_law 254 = .ok (.iaload, 1) := by decide +kernel
theorem dL_law_255 : decode cL_law 255 = .ok (.aload_n 0, 1) := by decide +kernel
theorem dL_law_256 : decode cL_law 256 = .ok (.iload 4, 2) := by decide +kernel
theorem dL_law_258 : decode cL_law 258 = .ok (.iconst 5, 1) := by decide +kernel
theorem dL_law_259 : decode cL_law 259 = .ok (.iadd, 1) := by decide +kernel
theorem dL_law_260 : decode cL_law 260 = .ok (.iaload, 1) := by decide +kernel
theorem dL_law_261 : decode cL_law 261 = .ok (.invokevirtual 27, 3) := by decide +kernel
theorem dL_law_264 : decode cL_law 264 = .ok (.if_icmp .eq 917, 3) := by decide +kernel
theorem dL_law_267 : decode cL_law 267 = .ok (.iconst 0, 1) := by decide +kernel
theorem dL_law_268 : decode cL_law 268 = .ok (.ireturn, 1) := by decide +kernel
theorem dL_law_269 : decode cL_law 269 = .ok (.aload_n 1, 1) := by decide +kernel
theorem dL_law_270 : decode cL_law 270 = .ok (.aload_n 0, 1) := by decide +kernel
theorem dL_law_271 : decode cL_law 271 = .ok (.iload 4, 2) := by decide +kernel
theorem dL_law_273 : decode cL_law 273 = .ok (.iconst 1, 1) := by decide +kernel
theorem dL_law_274 : decode cL_law 274 = .ok (.iadd, 1) := by decide +kernel
theorem dL_law_275 : decode cL_law 275 = .ok (.iaload, 1) := by decide +kernel
theorem dL_law_276 : decode cL_law 276 = .ok (.invokevirtual 28, 3) := by decide +kernel
theorem dL_law_279 : decode cL_law 279 = .ok (.aload_n 2, 1) := by decide +kernel
theorem dL_law_280 : decode cL_law 280 = .ok (.aload_n 0, 1) := by decide +kernel
theorem dL_law_281 : decode cL_law 281 = .ok (.iload 4, 2) := by decide +kernel
theorem dL_law_283 : decode cL_law 283 = .ok (.iconst 1, 1) := by decide +kernel
theorem dL_law_284 : decode cL_law 284 = .ok (.iadd, 1) := by decide +kernel
theorem dL_law_285 : decode cL_law 285 = .ok (.iaload, 1) := by decide +kernel
theorem dL_law_286 : decode cL_law 286 = .ok (.invokevirtual 31, 3) := by decide +kernel
theorem dL_law_289 : decode cL_law 289 = .ok (.if_icmp .eq 892, 3) := by decide +kernel
theorem dL_law_292 : decode cL_law 292 = .ok (.iconst 0, 1) := by decide +kernel
theorem dL_law_293 : decode cL_law 293 = .ok (.ireturn, 1) := by decide +kernel
theorem dL_law_294 : decode cL_law 294 = .ok (.aload_n 1, 1) := by decide +kernel
theorem dL_law_295 : decode cL_law 295 = .ok (.invokevirtual 32, 3) := by decide +kernel
theorem dL_law_298 : decode cL_law 298 = .ok (.aload_n 2, 1) := by decide +kernel
theorem dL_law_299 : decode cL_law 299 = .ok (.invokevirtual 36, 3) := by decide +kernel
theorem dL_law_302 : decode cL_law 302 = .ok (.if_icmp .eq 879, 3) := by decide +kernel
theorem dL_law_305 : decode cL_law 305 = .ok (.iconst 0, 1) := by decide +kernel
theorem dL_law_306 : decode cL_law 306 = .ok (.ireturn, 1) := by decide +kernel
theorem dL_law_307 : decode cL_law 307 = .ok (.aload_n 1, 1) := by decide +kernel
theorem dL_law_308 : decode cL_law 308 = .ok (.invokevirtual 37, 3) := by decide +kernel
theorem dL_law_311 : decode cL_law 311 = .ok (.aload_n 2, 1) := by decide +kernel
theorem dL_law_312 : decode cL_law 312 = .ok (.invokevirtual 40, 3) := by decide +kernel
theorem dL_law_315 : decode cL_law 315 = .ok (.if_icmp .eq 866, 3) := by decide +kernel
theorem dL_law_318 : decode cL_law 318 = .ok (.iconst 0, 1) := by decide +kernel
theorem dL_law_319 : decode cL_law 319 = .ok (.ireturn, 1) := by decide +kernel
theorem dL_law_320 : decode cL_law 320 = .ok (.aload_n 1, 1) := by decide +kernel
theorem dL_law_321 : decode cL_law 321 = .ok (.aload_n 0, 1) := by decide +kernel
theorem dL_law_322 : decode cL_law 322 = .ok (.iload 4, 2) := by decide +kernel
theorem dL_law_324 : decode cL_law 324 = .ok (.iconst 1, 1) := by decide +kernel
theorem dL_law_325 : decode cL_law 325 = .ok (.iadd, 1) := by decide +kernel
theorem dL_law_326 : decode cL_law 326 = .ok (.iaload, 1) := by decide +kernel
theorem dL_law_327 : decode cL_law 327 = .ok (.invokevirtual 41, 3) := by decide +kernel
theorem dL_law_330 : decode cL_law 330 = .ok (.aload_n 2, 1) := by decide +kernel
theorem dL_law_331 : decode cL_law 331 = .ok (.aload_n 0, 1) := by decide +kernel
theorem dL_law_332 : decode cL_law 332 = .ok (.iload 4, 2) := by decide +kernel
theorem dL_law_334 : decode cL_law 334 = .ok (.iconst 1, 1) := by decide +kernel
theorem dL_law_335 : decode cL_law 335 = .ok (.iadd, 1) := by decide +kernel
theorem dL_law_336 : decode cL_law 336 = .ok (.iaload, 1) := by decide +kernel
theorem dL_law_337 : decode cL_law 337 = .ok (.invokevirtual 45, 3) := by decide +kernel
theorem dL_law_340 : decode cL_law 340 = .ok (.if_icmp .eq 841, 3) := by decide +kernel
theorem dL_law_343 : decode cL_law 343 = .ok (.iconst 0, 1) := by decide +kernel
theorem dL_law_344 : decode cL_law 344 = .ok (.ireturn, 1) := by decide +kernel
theorem dL_law_345 : decode cL_law 345 = .ok (.aload_n 1, 1) := by decide +kernel
theorem dL_law_346 : decode cL_law 346 = .ok (.aload_n 0, 1) := by decide +kernel
theorem dL_law_347 : decode cL_law 347 = .ok (.iload 4, 2) := by decide +kernel
theorem dL_law_349 : decode cL_law 349 = .ok (.iconst 1, 1) := by decide +kernel
theorem dL_law_350 : decode cL_law 350 = .ok (.iadd, 1) := by decide +kernel
theorem dL_law_351 : decode cL_law 351 = .ok (.iaload, 1) := by decide +kernel
theorem dL_law_352 : decode cL_law 352 = .ok (.aload_n 0, 1) := by decide +kernel
theorem dL_law_353 : decode cL_law 353 = .ok (.iload 4, 2) := by decide +kernel
theorem dL_law_355 : decode cL_law 355 = .ok (.iconst 2, 1) := by decide +kernel
theorem dL_law_356 : decode cL_law 356 = .ok (.iadd, 1) := by decide +kernel
theorem dL_law_357 : decode cL_law 357 = .ok (.iaload, 1) := by decide +kernel
theorem dL_law_358 : decode cL_law 358 = .ok (.invokevirtual 46, 3) := by decide +kernel
theorem dL_law_361 : decode cL_law 361 = .ok (.aload_n 2, 1) := by decide +kernel
theorem dL_law_362 : decode cL_law 362 = .ok (.aload_n 0, 1) := by decide +kernel
theorem dL_law_363 : decode cL_law 363 = .ok (.iload 4, 2) := by decide +kernel
theorem dL_law_365 : decode cL_law 365 = .ok (.iconst 1, 1) := by decide +kernel
theorem dL_law_366 : decode cL_law 366 = .ok (.iadd, 1) := by decide +kernel
theorem dL_law_367 : decode cL_law 367 = .ok (.iaload, 1) := by decide +kernel
theorem dL_law_368 : decode cL_law 368 = .ok (.aload_n 0, 1) := by decide +kernel
theorem dL_law_369 : decode cL_law 369 = .ok (.iload 4, 2) := by decide +kernel
theorem dL_law_371 : decode cL_law 371 = .ok (.iconst 2, 1) := by decide +kernel
theorem dL_law_372 : decode cL_law 372 = .ok (.iadd, 1) := by decide +kernel
theorem dL_law_373 : decode cL_law 373 = .ok (.iaload, 1) := by decide +kernel
theorem dL_law_374 : decode cL_law 374 = .ok (.invokevirtual 50, 3) := by decide +kernel
theorem dL_law_377 : decode cL_law 377 = .ok (.if_icmp .eq 804, 3) := by decide +kernel
theorem dL_law_380 : decode cL_law 380 = .ok (.iconst 0, 1) := by decide +kernel
theorem dL_law_381 : decode cL_law 381 = .ok (.ireturn, 1) := by decide +kernel
theorem dL_law_382 : decode cL_law 382 = .ok (.aload_n 1, 1) := by decide +kernel
theorem dL_law_383 : decode cL_law 383 = .ok (.aload_n 0, 1) := by decide +kernel
theorem dL_law_384 : decode cL_law 384 = .ok (.iload 4, 2) := by decide +kernel
theorem dL_law_386 : decode cL_law 386 = .ok (.iconst 1, 1) := by decide +kernel
theorem dL_law_387 : decode cL_law 387 = .ok (.iadd, 1) := by decide +kernel
theorem dL_law_388 : decode cL_law 388 = .ok (.iaload, 1) := by decide +kernel
theorem dL_law_389 : decode cL_law 389 = .ok (.aload_n 0, 1) := by decide +kernel
theorem dL_law_390 : decode cL_law 390 = .ok (.iload 4, 2) := by decide +kernel
theorem dL_law_392 : decode cL_law 392 = .ok (.iconst 2, 1) := by decide +kernel
theorem dL_law_393 : decode cL_law 393 = .ok (.iadd, 1) := by decide +kernel
theorem dL_law_394 : decode cL_law 394 = .ok (.iaload, 1) := by decide +kernel
theorem dL_law_395 : decode cL_law 395 = .ok (.aload_n 0, 1) := by decide +kernel
theorem dL_law_396 : decode cL_law 396 = .ok (.iload 4, 2) := by decide +kernel
theorem dL_law_398 : decode cL_law 398 = .ok (.iconst 3, 1) := by decide +kernel
theorem dL_law_399 : decode cL_law 399 = .ok (.iadd, 1) := by decide +kernel
theorem dL_law_400 : decode cL_law 400 = .ok (.iaload, 1) := by decide +kernel
theorem dL_law_401 : decode cL_law 401 = .ok (.invokevirtual 51, 3) := by decide +kernel
theorem dL_law_404 : decode cL_law 404 = .ok (.aload_n 2, 1) := by decide +kernel
theorem dL_law_405 : decode cL_law 405 = .ok (.aload_n 0, 1) := by decide +kernel
theorem dL_law_406 : decode cL_law 406 = .ok (.iload 4, 2) := by decide +kernel
theorem dL_law_408 : decode cL_law 408 = .ok (.iconst 1, 1) := by decide +kernel
theorem dL_law_409 : decode cL_law 409 = .ok (.iadd, 1) := by decide +kernel
theorem dL_law_410 : decode cL_law 410 = .ok (.iaload, 1) := by decide +kernel
theorem dL_law_411 : decode cL_law 411 = .ok (.aload_n 0, 1) := by decide +kernel
theorem dL_law_412 : decode cL_law 412 = .ok (.iload 4, 2) := by decide +kernel
theorem dL_law_414 : decode cL_law 414 = .ok (.iconst 2, 1) := by decide +kernel
theorem dL_law_415 : decode cL_law 415 = .ok (.iadd, 1) := by decide +kernel
theorem dL_law_416 : decode cL_law 416 = .ok (.iaload, 1) := by decide +kernel
theorem dL_law_417 : decode cL_law 417 = .ok (.aload_n 0, 1) := by decide +kernel
theorem dL_law_418 : decode cL_law 418 = .ok (.iload 4, 2) := by decide +kernel
theorem dL_law_420 : decode cL_law 420 = .ok (.iconst 3, 1) := by decide +kernel
theorem dL_law_421 : decode cL_law 421 = .ok (.iadd, 1) := by decide +kernel
theorem dL_law_422 : decode cL_law 422 = .ok (.iaload, 1) := by decide +kernel
theorem dL_law_423 : decode cL_law 423 = .ok (.invokevirtual 55, 3) := by decide +kernel
theorem dL_law_426 : decode cL_law 426 = .ok (.if_icmp .eq 755, 3) := by decide +kernel
theorem dL_law_429 : decode cL_law 429 = .ok (.iconst 0, 1) := by decide +kernel
theorem dL_law_430 : decode cL_law 430 = .ok (.ireturn, 1) := by decide +kernel
theorem dL_law_431 : decode cL_law 431 = .ok (.aload_n 1, 1) := by decide +kernel
theorem dL_law_432 : decode cL_law 432 = .ok (.invokevirtual 56, 3) := by decide +kernel
theorem dL_law_435 : decode cL_law 435 = .ok (.aload_n 2, 1) := by decide +kernel
theorem dL_law_436 : decode cL_law 436 = .ok (.invokevirtual 59, 3) := by decide +kernel
theorem dL_law_439 : decode cL_law 439 = .ok (.if_icmp .eq 742, 3) := by decide +kernel
theorem dL_law_442 : decode cL_law 442 = .ok (.iconst 0, 1) := by decide +kernel
theorem dL_law_443 : decode cL_law 443 = .ok (.ireturn, 1) := by decide +kernel
theorem dL_law_444 : decode cL_law 444 = .ok (.aload_n 1, 1) := by decide +kernel
theorem dL_law_445 : decode cL_law 445 = .ok (.invokevirtual 60, 3) := by decide +kernel
theorem dL_law_448 : decode cL_law 448 = .ok (.aload_n 2, 1) := by decide +kernel
theorem dL_law_449 : decode cL_law 449 = .ok (.invokevirtual 63, 3) := by decide +kernel
theorem dL_law_452 : decode cL_law 452 = .ok (.if_icmp .eq 729, 3) := by decide +kernel
theorem dL_law_455 : decode cL_law 455 = .ok (.iconst 0, 1) := by decide +kernel
theorem dL_law_456 : decode cL_law 456 = .ok (.ireturn, 1) := by decide +kernel
theorem dL_law_457 : decode cL_law 457 = .ok (.aload_n 1, 1) := by decide +kernel
theorem dL_law_458 : decode cL_law 458 = .ok (.aload_n 0, 1) := by decide +kernel
theorem dL_law_459 : decode cL_law 459 = .ok (.iload 4, 2) := by decide +kernel
theorem dL_law_461 : decode cL_law 461 = .ok (.iconst 1, 1) := by decide +kernel
theorem dL_law_462 : decode cL_law 462 = .ok (.iadd, 1) := by decide +kernel
theorem dL_law_463 : decode cL_law 463 = .ok (.iaload, 1) := by decide +kernel
theorem dL_law_464 : decode cL_law 464 = .ok (.aload_n 0, 1) := by decide +kernel
theorem dL_law_465 : decode cL_law 465 = .ok (.iload 4, 2) := by decide +kernel
theorem dL_law_467 : decode cL_law 467 = .ok (.iconst 2, 1) := by decide +kernel
theorem dL_law_468 : decode cL_law 468 = .ok (.iadd, 1) := by decide +kernel
theorem dL_law_469 : decode cL_law 469 = .ok (.iaload, 1) := by decide +kernel
theorem dL_law_470 : decode cL_law 470 = .ok (.aload_n 0, 1) := by decide +kernel
theorem dL_law_471 : decode cL_law 471 = .ok (.iload 4, 2) := by decide +kernel
theorem dL_law_473 : decode cL_law 473 = .ok (.iconst 3, 1) := by decide +kernel
theorem dL_law_474 : decode cL_law 474 = .ok (.iadd, 1) := by decide +kernel
theorem dL_law_475 : decode cL_law 475 = .ok (.iaload, 1) := by decide +kernel
theorem dL_law_476 : decode cL_law 476 = .ok (.invokevirtual 64, 3) := by decide +kernel
theorem dL_law_479 : decode cL_law 479 = .ok (.aload_n 2, 1) := by decide +kernel
theorem dL_law_480 : decode cL_law 480 = .ok (.aload_n 0, 1) := by decide +kernel
theorem dL_law_481 : decode cL_law 481 = .ok (.iload 4, 2) := by decide +kernel
theorem dL_law_483 : decode cL_law 483 = .ok (.iconst 1, 1) := by decide +kernel
theorem dL_law_484 : decode cL_law 484 = .ok (.iadd, 1) := by decide +kernel
theorem dL_law_485 : decode cL_law 485 = .ok (.iaload, 1) := by decide +kernel
theorem dL_law_486 : decode cL_law 486 = .ok (.aload_n 0, 1) := by decide +kernel
theorem dL_law_487 : decode cL_law 487 = .ok (.iload 4, 2) := by decide +kernel
theorem dL_law_489 : decode cL_law 489 = .ok (.iconst 2, 1) := by decide +kernel
theorem dL_law_490 : decode cL_law 490 = .ok (.iadd, 1) := by decide +kernel
theorem dL_law_491 : decode cL_law 491 = .ok (.iaload, 1) := by decide +kernel
theorem dL_law_492 : decode cL_law 492 = .ok (.aload_n 0, 1) := by decide +kernel
theorem dL_law_493 : decode cL_law 493 = .ok (.iload 4, 2) := by decide +kernel
theorem dL_law_495 : decode cL_law 495 = .ok (.iconst 3, 1) := by decide +kernel
theorem dL_law_496 : decode cL_law 496 = .ok (.iadd, 1) := by decide +kernel
theorem dL_law_497 : decode cL_law 497 = .ok (.iaload, 1) := by decide +kernel
theorem dL_law_498 : decode cL_law 498 = .ok (.invokevirtual 67, 3) := by decide +kernel
theorem dL_law_501 : decode cL_law 501 = .ok (.if_icmp .eq 680, 3) := by decide +kernel
theorem dL_law_504 : decode cL_law 504 = .ok (.iconst 0, 1) := by decide +kernel
theorem dL_law_505 : decode cL_law 505 = .ok (.ireturn, 1) := by decide +kernel
theorem dL_law_506 : decode cL_law 506 = .ok (.aload_n 1, 1) := by decide +kernel
theorem dL_law_507 : decode cL_law 507 = .ok (.aload_n 0, 1) := by decide +kernel
theorem dL_law_508 : decode cL_law 508 = .ok (.iload 4, 2) := by decide +kernel
theorem dL_law_510 : decode cL_law 510 = .ok (.iconst 1, 1) := by decide +kernel
theorem dL_law_511 : decode cL_law 511 = .ok (.iadd, 1) := by decide +kernel
theorem dL_law_512 : decode cL_law 512 = .ok (.iaload, 1) := by decide +kernel
theorem dL_law_513 : decode cL_law 513 = .ok (.aload_n 0, 1) := by decide +kernel
theorem dL_law_514 : decode cL_law 514 = .ok (.iload 4, 2) := by decide +kernel
theorem dL_law_516 : decode cL_law 516 = .ok (.iconst 2, 1) := by decide +kernel
theorem dL_law_517 : decode cL_law 517 = .ok (.iadd, 1) := by decide +kernel
theorem dL_law_518 : decode cL_law 518 = .ok (.iaload, 1) := by decide +kernel
theorem dL_law_519 : decode cL_law 519 = .ok (.aload_n 0, 1) := by decide +kernel
theorem dL_law_520 : decode cL_law 520 = .ok (.iload 4, 2) := by decide +kernel
theorem dL_law_522 : decode cL_law 522 = .ok (.iconst 3, 1) := by decide +kernel
theorem dL_law_523 : decode cL_law 523 = .ok (.iadd, 1) := by decide +kernel
theorem dL_law_524 : decode cL_law 524 = .ok (.iaload, 1) := by decide +kernel
theorem dL_law_525 : decode cL_law 525 = .ok (.invokevirtual 68, 3) := by decide +kernel
theorem dL_law_528 : decode cL_law 528 = .ok (.aload_n 2, 1) := by decide +kernel
theorem dL_law_529 : decode cL_law 529 = .ok (.aload_n 0, 1) := by decide +kernel
theorem dL_law_530 : decode cL_law 530 = .ok (.iload 4, 2) := by decide +kernel
theorem dL_law_532 : decode cL_law 532 = .ok (.iconst 1, 1) := by decide +kernel
theorem dL_law_533 : decode cL_law 533 = .ok (.iadd, 1) := by decide +kernel
theorem dL_law_534 : decode cL_law 534 = .ok (.iaload, 1) := by decide +kernel
theorem dL_law_535 : decode cL_law 535 = .ok (.aload_n 0, 1) := by decide +kernel
theorem dL_law_536 : decode cL_law 536 = .ok (.iload 4, 2) := by decide +kernel
theorem dL_law_538 : decode cL_law 538 = .ok (.iconst 2, 1) := by decide +kernel
theorem dL_law_539 : decode cL_law 539 = .ok (.iadd, 1) := by decide +kernel
theorem dL_law_540 : decode cL_law 540 = .ok (.iaload, 1) := by decide +kernel
theorem dL_law_541 : decode cL_law 541 = .ok (.aload_n 0, 1) := by decide +kernel
theorem dL_law_542 : decode cL_law 542 = .ok (.iload 4, 2) := by decide +kernel
theorem dL_law_544 : decode cL_law 544 = .ok (.iconst 3, 1) := by decide +kernel
theorem dL_law_545 : decode cL_law 545 = .ok (.iadd, 1) := by decide +kernel
theorem dL_law_546 : decode cL_law 546 = .ok (.iaload, 1) := by decide +kernel
theorem dL_law_547 : decode cL_law 547 = .ok (.invokevirtual 71, 3) := by decide +kernel
theorem dL_law_550 : decode cL_law 550 = .ok (.if_icmp .eq 631, 3) := by decide +kernel
theorem dL_law_553 : decode cL_law 553 = .ok (.iconst 0, 1) := by decide +kernel
theorem dL_law_554 : decode cL_law 554 = .ok (.ireturn, 1) := by decide +kernel
theorem dL_law_555 : decode cL_law 555 = .ok (.aload_n 1, 1) := by decide +kernel
theorem dL_law_556 : decode cL_law 556 = .ok (.aload_n 0, 1) := by decide +kernel
theorem dL_law_557 : decode cL_law 557 = .ok (.iload 4, 2) := by decide +kernel
theorem dL_law_559 : decode cL_law 559 = .ok (.iconst 1, 1) := by decide +kernel
theorem dL_law_560 : decode cL_law 560 = .ok (.iadd, 1) := by decide +kernel
theorem dL_law_561 : decode cL_law 561 = .ok (.iaload, 1) := by decide +kernel
theorem dL_law_562 : decode cL_law 562 = .ok (.aload_n 0, 1) := by decide +kernel
theorem dL_law_563 : decode cL_law 563 = .ok (.iload 4, 2) := by decide +kernel
theorem dL_law_565 : decode cL_law 565 = .ok (.iconst 2, 1) := by decide +kernel
theorem dL_law_566 : decode cL_law 566 = .ok (.iadd, 1) := by decide +kernel
theorem dL_law_567 : decode cL_law 567 = .ok (.iaload, 1) := by decide +kernel
theorem dL_law_568 : decode cL_law 568 = .ok (.aload_n 0, 1) := by decide +kernel
theorem dL_law_569 : decode cL_law 569 = .ok (.iload 4, 2) := by decide +kernel
theorem dL_law_571 : decode cL_law 571 = .ok (.iconst 3, 1) := by decide +kernel
theorem dL_law_572 : decode cL_law 572 = .ok (.iadd, 1) := by decide +kernel
theorem dL_law_573 : decode cL_law 573 = .ok (.iaload, 1) := by decide +kernel
theorem dL_law_574 : decode cL_law 574 = .ok (.aload_n 0, 1) := by decide +kernel
theorem dL_law_575 : decode cL_law 575 = .ok (.iload 4, 2) := by decide +kernel
theorem dL_law_577 : decode cL_law 577 = .ok (.iconst 4, 1) := by decide +kernel
theorem dL_law_578 : decode cL_law 578 = .ok (.iadd, 1) := by decide +kernel
theorem dL_law_579 : decode cL_law 579 = .ok (.iaload, 1) := by decide +kernel
theorem dL_law_580 : decode cL_law 580 = .ok (.aload_n 3, 1) := by decide +kernel
theorem dL_law_581 : decode cL_law 581 = .ok (.invokestatic 72, 3) := by decide +kernel
theorem dL_law_584 : decode cL_law 584 = .ok (.istore 5, 2) := by decide +kernel
theorem dL_law_586 : decode cL_law 586 = .ok (.aload_n 2, 1) := by decide +kernel
theorem dL_law_587 : decode cL_law 587 = .ok (.aload_n 0, 1) := by decide +kernel
theorem dL_law_588 : decode cL_law 588 = .ok (.iload 4, 2) := by decide +kernel
theorem dL_law_590 : decode cL_law 590 = .ok (.iconst 1, 1) := by decide +kernel
theorem dL_law_591 : decode cL_law 591 = .ok (.iadd, 1) := by decide +kernel
theorem dL_law_592 : decode cL_law 592 = .ok (.iaload, 1) := by decide +kernel
theorem dL_law_593 : decode cL_law 593 = .ok (.aload_n 0, 1) := by decide +kernel
theorem dL_law_594 : decode cL_law 594 = .ok (.iload 4, 2) := by decide +kernel
theorem dL_law_596 : decode cL_law 596 = .ok (.iconst 2, 1) := by decide +kernel
theorem dL_law_597 : decode cL_law 597 = .ok (.iadd, 1) := by decide +kernel
theorem dL_law_598 : decode cL_law 598 = .ok (.iaload, 1) := by decide +kernel
theorem dL_law_599 : decode cL_law 599 = .ok (.aload_n 0, 1) := by decide +kernel
theorem dL_law_600 : decode cL_law 600 = .ok (.iload 4, 2) := by decide +kernel
theorem dL_law_602 : decode cL_law 602 = .ok (.iconst 3, 1) := by decide +kernel
theorem dL_law_603 : decode cL_law 603 = .ok (.iadd, 1) := by decide +kernel
theorem dL_law_604 : decode cL_law 604 = .ok (.iaload, 1) := by decide +kernel
theorem dL_law_605 : decode cL_law 605 = .ok (.aload_n 0, 1) := by decide +kernel
theorem dL_law_606 : decode cL_law 606 = .ok (.iload 4, 2) := by decide +kernel
theorem dL_law_608 : decode cL_law 608 = .ok (.iconst 4, 1) := by decide +kernel
theorem dL_law_609 : decode cL_law 609 = .ok (.iadd, 1) := by decide +kernel
theorem dL_law_610 : decode cL_law 610 = .ok (.iaload, 1) := by decide +kernel
theorem dL_law_611 : decode cL_law 611 = .ok (.invokevirtual 77, 3) := by decide +kernel
theorem dL_law_614 : decode cL_law 614 = .ok (.istore 6, 2) := by decide +kernel
theorem dL_law_616 : decode cL_law 616 = .ok (.aload_n 2, 1) := by decide +kernel
theorem dL_law_617 : decode cL_law 617 = .ok (.invokevirtual 78, 3) := by decide +kernel
theorem dL_law_620 : decode cL_law 620 = .ok (.iload 5, 2) := by decide +kernel
theorem dL_law_622 : decode cL_law 622 = .ok (.if_icmp .eq 5, 3) := by decide +kernel
theorem dL_law_625 : decode cL_law 625 = .ok (.iconst 0, 1) := by decide +kernel
theorem dL_law_626 : decode cL_law 626 = .ok (.ireturn, 1) := by decide +kernel
theorem dL_law_627 : decode cL_law 627 = .ok (.iload 5, 2) := by decide +kernel
theorem dL_law_629 : decode cL_law 629 = .ok (.ifCond .ne 15, 3) := by decide +kernel
theorem dL_law_632 : decode cL_law 632 = .ok (.aload_n 3, 1) := by decide +kernel
theorem dL_law_633 : decode cL_law 633 = .ok (.iconst 0, 1) := by decide +kernel
theorem dL_law_634 : decode cL_law 634 = .ok (.laload, 1) := by decide +kernel
theorem dL_law_635 : decode cL_law 635 = .ok (.iload 6, 2) := by decide +kernel
theorem dL_law_637 : decode cL_law 637 = .ok (.i2l, 1) := by decide +kernel
theorem dL_law_638 : decode cL_law 638 = .ok (.lcmp, 1) := by decide +kernel
theorem dL_law_639 : decode cL_law 639 = .ok (.ifCond .eq 5, 3) := by decide +kernel
theorem dL_law_642 : decode cL_law 642 = .ok (.iconst 0, 1) := by decide +kernel
theorem dL_law_643 : decode cL_law 643 = .ok (.ireturn, 1) := by decide +kernel
theorem dL_law_644 : decode cL_law 644 = .ok (.goto 537, 3) := by decide +kernel
theorem dL_law_647 : decode cL_law 647 = .ok (.aload_n 1, 1) := by decide +kernel
theorem dL_law_648 : decode cL_law 648 = .ok (.aload_n 0, 1) := by decide +kernel
theorem dL_law_649 : decode cL_law 649 = .ok (.iload 4, 2) := by decide +kernel
theorem dL_law_651 : decode cL_law 651 = .ok (.iconst 1, 1) := by decide +kernel
theorem dL_law_652 : decode cL_law 652 = .ok (.iadd, 1) := by decide +kernel
theorem dL_law_653 : decode cL_law 653 = .ok (.iaload, 1) := by decide +kernel
theorem dL_law_654 : decode cL_law 654 = .ok (.aload_n 0, 1) := by decide +kernel
theorem dL_law_655 : decode cL_law 655 = .ok (.iload 4, 2) := by decide +kernel
theorem dL_law_657 : decode cL_law 657 = .ok (.iconst 2, 1) := by decide +kernel
theorem dL_law_658 : decode cL_law 658 = .ok (.iadd, 1) := by decide +kernel
theorem dL_law_659 : decode cL_law 659 = .ok (.iaload, 1) := by decide +kernel
theorem dL_law_660 : decode cL_law 660 = .ok (.invokevirtual 81, 3) := by decide +kernel
theorem dL_law_663 : decode cL_law 663 = .ok (.aload_n 2, 1) := by decide +kernel
theorem dL_law_664 : decode cL_law 664 = .ok (.aload_n 0, 1) := by decide +kernel
theorem dL_law_665 : decode cL_law 665 = .ok (.iload 4, 2) := by decide +kernel
theorem dL_law_667 : decode cL_law 667 = .ok (.iconst 1, 1) := by decide +kernel
theorem dL_law_668 : decode cL_law 668 = .ok (.iadd, 1) := by decide +kernel
theorem dL_law_669 : decode cL_law 669 = .ok (.iaload, 1) := by decide +kernel
theorem dL_law_670 : decode cL_law 670 = .ok (.aload_n 0, 1) := by decide +kernel
theorem dL_law_671 : decode cL_law 671 = .ok (.iload 4, 2) := by decide +kernel
theorem dL_law_673 : decode cL_law 673 = .ok (.iconst 2, 1) := by decide +kernel
theorem dL_law_674 : decode cL_law 674 = .ok (.iadd, 1) := by decide +kernel
theorem dL_law_675 : decode cL_law 675 = .ok (.iaload, 1) := by decide +kernel
theorem dL_law_676 : decode cL_law 676 = .ok (.invokevirtual 85, 3) := by decide +kernel
theorem dL_law_679 : decode cL_law 679 = .ok (.if_icmp .eq 502, 3) := by decide +kernel
theorem dL_law_682 : decode cL_law 682 = .ok (.iconst 0, 1) := by decide +kernel
theorem dL_law_683 : decode cL_law 683 = .ok (.ireturn, 1) := by decide +kernel
theorem dL_law_684 : decode cL_law 684 = .ok (.aload_n 1, 1) := by decide +kernel
theorem dL_law_685 : decode cL_law 685 = .ok (.aload_n 0, 1) := by decide +kernel
theorem dL_law_686 : decode cL_law 686 = .ok (.iload 4, 2) := by decide +kernel
theorem dL_law_688 : decode cL_law 688 = .ok (.iconst 1, 1) := by decide +kernel
theorem dL_law_689 : decode cL_law 689 = .ok (.iadd, 1) := by decide +kernel
theorem dL_law_690 : decode cL_law 690 = .ok (.iaload, 1) := by decide +kernel
theorem dL_law_691 : decode cL_law 691 = .ok (.invokevirtual 86, 3) := by decide +kernel
theorem dL_law_694 : decode cL_law 694 = .ok (.aload_n 2, 1) := by decide +kernel
theorem dL_law_695 : decode cL_law 695 = .ok (.aload_n 0, 1) := by decide +kernel
theorem dL_law_696 : decode cL_law 696 = .ok (.iload 4, 2) := by decide +kernel
theorem dL_law_698 : decode cL_law 698 = .ok (.iconst 1, 1) := by decide +kernel
theorem dL_law_699 : decode cL_law 699 = .ok (.iadd, 1) := by decide +kernel
theorem dL_law_700 : decode cL_law 700 = .ok (.iaload, 1) := by decide +kernel
theorem dL_law_701 : decode cL_law 701 = .ok (.invokevirtual 89, 3) := by decide +kernel
theorem dL_law_704 : decode cL_law 704 = .ok (.if_icmp .eq 477, 3) := by decide +kernel
theorem dL_law_707 : decode cL_law 707 = .ok (.iconst 0, 1) := by decide +kernel
theorem dL_law_708 : decode cL_law 708 = .ok (.ireturn, 1) := by decide +kernel
theorem dL_law_709 : decode cL_law 709 = .ok (.aload_n 1, 1) := by decide +kernel
theorem dL_law_710 : decode cL_law 710 = .ok (.invokevirtual 90, 3) := by decide +kernel
theorem dL_law_713 : decode cL_law 713 = .ok (.aload_n 2, 1) := by decide +kernel
theorem dL_law_714 : decode cL_law 714 = .ok (.invokevirtual 93, 3) := by decide +kernel
theorem dL_law_717 : decode cL_law 717 = .ok (.if_icmp .eq 464, 3) := by decide +kernel
theorem dL_law_720 : decode cL_law 720 = .ok (.iconst 0, 1) := by decide +kernel
theorem dL_law_721 : decode cL_law 721 = .ok (.ireturn, 1) := by decide +kernel
theorem dL_law_722 : decode cL_law 722 = .ok (.aload_n 1, 1) := by decide +kernel
theorem dL_law_723 : decode cL_law 723 = .ok (.aload_n 0, 1) := by decide +kernel
theorem dL_law_724 : decode cL_law 724 = .ok (.iload 4, 2) := by decide +kernel
theorem dL_law_726 : decode cL_law 726 = .ok (.iconst 1, 1) := by decide +kernel
theorem dL_law_727 : decode cL_law 727 = .ok (.iadd, 1) := by decide +kernel
theorem dL_law_728 : decode cL_law 728 = .ok (.iaload, 1) := by decide +kernel
theorem dL_law_729 : decode cL_law 729 = .ok (.aload_n 0, 1) := by decide +kernel
theorem dL_law_730 : decode cL_law 730 = .ok (.iload 4, 2) := by decide +kernel
theorem dL_law_732 : decode cL_law 732 = .ok (.iconst 2, 1) := by decide +kernel
theorem dL_law_733 : decode cL_law 733 = .ok (.iadd, 1) := by decide +kernel
theorem dL_law_734 : decode cL_law 734 = .ok (.iaload, 1) := by decide +kernel
theorem dL_law_735 : decode cL_law 735 = .ok (.aload_n 0, 1) := by decide +kernel
theorem dL_law_736 : decode cL_law 736 = .ok (.iload 4, 2) := by decide +kernel
theorem dL_law_738 : decode cL_law 738 = .ok (.iconst 3, 1) := by decide +kernel
theorem dL_law_739 : decode cL_law 739 = .ok (.iadd, 1) := by decide +kernel
theorem dL_law_740 : decode cL_law 740 = .ok (.iaload, 1) := by decide +kernel
theorem dL_law_741 : decode cL_law 741 = .ok (.invokevirtual 94, 3) := by decide +kernel
theorem dL_law_744 : decode cL_law 744 = .ok (.aload_n 2, 1) := by decide +kernel
theorem dL_law_745 : decode cL_law 745 = .ok (.aload_n 0, 1) := by decide +kernel
theorem dL_law_746 : decode cL_law 746 = .ok (.iload 4, 2) := by decide +kernel
theorem dL_law_748 : decode cL_law 748 = .ok (.iconst 1, 1) := by decide +kernel
theorem dL_law_749 : decode cL_law 749 = .ok (.iadd, 1) := by decide +kernel
theorem dL_law_750 : decode cL_law 750 = .ok (.iaload, 1) := by decide +kernel
theorem dL_law_751 : decode cL_law 751 = .ok (.aload_n 0, 1) := by decide +kernel
theorem dL_law_752 : decode cL_law 752 = .ok (.iload 4, 2) := by decide +kernel
theorem dL_law_754 : decode cL_law 754 = .ok (.iconst 2, 1) := by decide +kernel
theorem dL_law_755 : decode cL_law 755 = .ok (.iadd, 1) := by decide +kernel
theorem dL_law_756 : decode cL_law 756 = .ok (.iaload, 1) := by decide +kernel
theorem dL_law_757 : decode cL_law 757 = .ok (.aload_n 0, 1) := by decide +kernel
theorem dL_law_758 : decode cL_law 758 = .ok (.iload 4, 2) := by decide +kernel
theorem dL_law_760 : decode cL_law 760 = .ok (.iconst 3, 1) := by decide +kernel
theorem dL_law_761 : decode cL_law 761 = .ok (.iadd, 1) := by decide +kernel
theorem dL_law_762 : decode cL_law 762 = .ok (.iaload, 1) := by decide +kernel
theorem dL_law_763 : decode cL_law 763 = .ok (.invokevirtual 97, 3) := by decide +kernel
theorem dL_law_766 : decode cL_law 766 = .ok (.if_icmp .eq 415, 3) := by decide +kernel
theorem dL_law_769 : decode cL_law 769 = .ok (.iconst 0, 1) := by decide +kernel
theorem dL_law_770 : decode cL_law 770 = .ok (.ireturn, 1) := by decide +kernel
theorem dL_law_771 : decode cL_law 771 = .ok (.aload_n 1, 1) := by decide +kernel
theorem dL_law_772 : decode cL_law 772 = .ok (.aload_n 0, 1) := by decide +kernel
theorem dL_law_773 : decode cL_law 773 = .ok (.iload 4, 2) := by decide +kernel
theorem dL_law_775 : decode cL_law 775 = .ok (.iconst 1, 1) := by decide +kernel
theorem dL_law_776 : decode cL_law 776 = .ok (.iadd, 1) := by decide +kernel
theorem dL_law_777 : decode cL_law 777 = .ok (.iaload, 1) := by decide +kernel
theorem dL_law_778 : decode cL_law 778 = .ok (.invokevirtual 98, 3) := by decide +kernel
theorem dL_law_781 : decode cL_law 781 = .ok (.aload_n 2, 1) := by decide +kernel
theorem dL_law_782 : decode cL_law 782 = .ok (.aload_n 0, 1) := by decide +kernel
theorem dL_law_783 : decode cL_law 783 = .ok (.iload 4, 2) := by decide +kernel
theorem dL_law_785 : decode cL_law 785 = .ok (.iconst 1, 1) := by decide +kernel
theorem dL_law_786 : decode cL_law 786 = .ok (.iadd, 1) := by decide +kernel
theorem dL_law_787 : decode cL_law 787 = .ok (.iaload, 1) := by decide +kernel
theorem dL_law_788 : decode cL_law 788 = .ok (.invokevirtual 101, 3) := by decide +kernel
theorem dL_law_791 : decode cL_law 791 = .ok (.if_icmp .eq 390, 3) := by decide +kernel
theorem dL_law_794 : decode cL_law 794 = .ok (.iconst 0, 1) := by decide +kernel
theorem dL_law_795 : decode cL_law 795 = .ok (.ireturn, 1) := by decide +kernel
theorem dL_law_796 : decode cL_law 796 = .ok (.aload_n 1, 1) := by decide +kernel
theorem dL_law_797 : decode cL_law 797 = .ok (.invokevirtual 102, 3) := by decide +kernel
theorem dL_law_800 : decode cL_law 800 = .ok (.aload_n 2, 1) := by decide +kernel
theorem dL_law_801 : decode cL_law 801 = .ok (.invokevirtual 105, 3) := by decide +kernel
theorem dL_law_804 : decode cL_law 804 = .ok (.if_icmp .eq 377, 3) := by decide +kernel
theorem dL_law_807 : decode cL_law 807 = .ok (.iconst 0, 1) := by decide +kernel
theorem dL_law_808 : decode cL_law 808 = .ok (.ireturn, 1) := by decide +kernel
theorem dL_law_809 : decode cL_law 809 = .ok (.aload_n 1, 1) := by decide +kernel
theorem dL_law_810 : decode cL_law 810 = .ok (.invokevirtual 106, 3) := by decide +kernel
theorem dL_law_813 : decode cL_law 813 = .ok (.aload_n 2, 1) := by decide +kernel
theorem dL_law_814 : decode cL_law 814 = .ok (.invokevirtual 109, 3) := by decide +kernel
theorem dL_law_817 : decode cL_law 817 = .ok (.if_icmp .eq 364, 3) := by decide +kernel
theorem dL_law_820 : decode cL_law 820 = .ok (.iconst 0, 1) := by decide +kernel
theorem dL_law_821 : decode cL_law 821 = .ok (.ireturn, 1) := by decide +kernel
theorem dL_law_822 : decode cL_law 822 = .ok (.aload_n 1, 1) := by decide +kernel
theorem dL_law_823 : decode cL_law 823 = .ok (.aload_n 0, 1) := by decide +kernel
theorem dL_law_824 : decode cL_law 824 = .ok (.iload 4, 2) := by decide +kernel
theorem dL_law_826 : decode cL_law 826 = .ok (.iconst 1, 1) := by decide +kernel
theorem dL_law_827 : decode cL_law 827 = .ok (.iadd, 1) := by decide +kernel
theorem dL_law_828 : decode cL_law 828 = .ok (.iaload, 1) := by decide +kernel
theorem dL_law_829 : decode cL_law 829 = .ok (.invokevirtual 110, 3) := by decide +kernel
theorem dL_law_832 : decode cL_law 832 = .ok (.aload_n 2, 1) := by decide +kernel
theorem dL_law_833 : decode cL_law 833 = .ok (.aload_n 0, 1) := by decide +kernel
theorem dL_law_834 : decode cL_law 834 = .ok (.iload 4, 2) := by decide +kernel
theorem dL_law_836 : decode cL_law 836 = .ok (.iconst 1, 1) := by decide +kernel
theorem dL_law_837 : decode cL_law 837 = .ok (.iadd, 1) := by decide +kernel
theorem dL_law_838 : decode cL_law 838 = .ok (.iaload, 1) := by decide +kernel
theorem dL_law_839 : decode cL_law 839 = .ok (.invokevirtual 113, 3) := by decide +kernel
theorem dL_law_842 : decode cL_law 842 = .ok (.if_icmp .eq 339, 3) := by decide +kernel
theorem dL_law_845 : decode cL_law 845 = .ok (.iconst 0, 1) := by decide +kernel
theorem dL_law_846 : decode cL_law 846 = .ok (.ireturn, 1) := by decide +kernel
theorem dL_law_847 : decode cL_law 847 = .ok (.aload_n 1, 1) := by decide +kernel
theorem dL_law_848 : decode cL_law 848 = .ok (.invokevirtual 114, 3) := by decide +kernel
theorem dL_law_851 : decode cL_law 851 = .ok (.aload_n 2, 1) := by decide +kernel
theorem dL_law_852 : decode cL_law 852 = .ok (.invokevirtual 117, 3) := by decide +kernel
theorem dL_law_855 : decode cL_law 855 = .ok (.if_icmp .eq 326, 3) := by decide +kernel
theorem dL_law_858 : decode cL_law 858 = .ok (.iconst 0, 1) := by decide +kernel
theorem dL_law_859 : decode cL_law 859 = .ok (.ireturn, 1) := by decide +kernel
theorem dL_law_860 : decode cL_law 860 = .ok (.aload_n 1, 1) := by decide +kernel
theorem dL_law_861 : decode cL_law 861 = .ok (.aload_n 0, 1) := by decide +kernel
theorem dL_law_862 : decode cL_law 862 = .ok (.iload 4, 2) := by decide +kernel
theorem dL_law_864 : decode cL_law 864 = .ok (.iconst 1, 1) := by decide +kernel
theorem dL_law_865 : decode cL_law 865 = .ok (.iadd, 1) := by decide +kernel
theorem dL_law_866 : decode cL_law 866 = .ok (.iaload, 1) := by decide +kernel
theorem dL_law_867 : decode cL_law 867 = .ok (.invokevirtual 118, 3) := by decide +kernel
theorem dL_law_870 : decode cL_law 870 = .ok (.aload_n 2, 1) := by decide +kernel
theorem dL_law_871 : decode cL_law 871 = .ok (.aload_n 0, 1) := by decide +kernel
theorem dL_law_872 : decode cL_law 872 = .ok (.iload 4, 2) := by decide +kernel
theorem dL_law_874 : decode cL_law 874 = .ok (.iconst 1, 1) := by decide +kernel
theorem dL_law_875 : decode cL_law 875 = .ok (.iadd, 1) := by decide +kernel
theorem dL_law_876 : decode cL_law 876 = .ok (.iaload, 1) := by decide +kernel
theorem dL_law_877 : decode cL_law 877 = .ok (.invokevirtual 121, 3) := by decide +kernel
theorem dL_law_880 : decode cL_law 880 = .ok (.if_icmp .eq 301, 3) := by decide +kernel
theorem dL_law_883 : decode cL_law 883 = .ok (.iconst 0, 1) := by decide +kernel
theorem dL_law_884 : decode cL_law 884 = .ok (.ireturn, 1) := by decide +kernel
theorem dL_law_885 : decode cL_law 885 = .ok (.aload_n 1, 1) := by decide +kernel
theorem dL_law_886 : decode cL_law 886 = .ok (.invokevirtual 122, 3) := by decide +kernel
theorem dL_law_889 : decode cL_law 889 = .ok (.aload_n 2, 1) := by decide +kernel
theorem dL_law_890 : decode cL_law 890 = .ok (.invokevirtual 125, 3) := by decide +kernel
theorem dL_law_893 : decode cL_law 893 = .ok (.if_icmp .eq 288, 3) := by decide +kernel
theorem dL_law_896 : decode cL_law 896 = .ok (.iconst 0, 1) := by decide +kernel
theorem dL_law_897 : decode cL_law 897 = .ok (.ireturn, 1) := by decide +kernel
theorem dL_law_898 : decode cL_law 898 = .ok (.aload_n 1, 1) := by decide +kernel
theorem dL_law_899 : decode cL_law 899 = .ok (.aload_n 0, 1) := by decide +kernel
theorem dL_law_900 : decode cL_law 900 = .ok (.iload 4, 2) := by decide +kernel
theorem dL_law_902 : decode cL_law 902 = .ok (.iconst 1, 1) := by decide +kernel
theorem dL_law_903 : decode cL_law 903 = .ok (.iadd, 1) := by decide +kernel
theorem dL_law_904 : decode cL_law 904 = .ok (.iaload, 1) := by decide +kernel
theorem dL_law_905 : decode cL_law 905 = .ok (.invokevirtual 126, 3) := by decide +kernel
theorem dL_law_908 : decode cL_law 908 = .ok (.aload_n 2, 1) := by decide +kernel
theorem dL_law_909 : decode cL_law 909 = .ok (.aload_n 0, 1) := by decide +kernel
theorem dL_law_910 : decode cL_law 910 = .ok (.iload 4, 2) := by decide +kernel
theorem dL_law_912 : decode cL_law 912 = .ok (.iconst 1, 1) := by decide +kernel
theorem dL_law_913 : decode cL_law 913 = .ok (.iadd, 1) := by decide +kernel
theorem dL_law_914 : decode cL_law 914 = .ok (.iaload, 1) := by decide +kernel
theorem dL_law_915 : decode cL_law 915 = .ok (.invokevirtual 129, 3) := by decide +kernel
theorem dL_law_918 : decode cL_law 918 = .ok (.if_icmp .eq 263, 3) := by decide +kernel
theorem dL_law_921 : decode cL_law 921 = .ok (.iconst 0, 1) := by decide +kernel
theorem dL_law_922 : decode cL_law 922 = .ok (.ireturn, 1) := by decide +kernel
theorem dL_law_923 : decode cL_law 923 = .ok (.aload_n 1, 1) := by decide +kernel
theorem dL_law_924 : decode cL_law 924 = .ok (.aload_n 0, 1) := by decide +kernel
theorem dL_law_925 : decode cL_law 925 = .ok (.iload 4, 2) := by decide +kernel
theorem dL_law_927 : decode cL_law 927 = .ok (.iconst 1, 1) := by decide +kernel
theorem dL_law_928 : decode cL_law 928 = .ok (.iadd, 1) := by decide +kernel
theorem dL_law_929 : decode cL_law 929 = .ok (.iaload, 1) := by decide +kernel
theorem dL_law_930 : decode cL_law 930 = .ok (.invokevirtual 130, 3) := by decide +kernel
theorem dL_law_933 : decode cL_law 933 = .ok (.aload_n 2, 1) := by decide +kernel
theorem dL_law_934 : decode cL_law 934 = .ok (.aload_n 0, 1) := by decide +kernel
theorem dL_law_935 : decode cL_law 935 = .ok (.iload 4, 2) := by decide +kernel
theorem dL_law_937 : decode cL_law 937 = .ok (.iconst 1, 1) := by decide +kernel
theorem dL_law_938 : decode cL_law 938 = .ok (.iadd, 1) := by decide +kernel
theorem dL_law_939 : decode cL_law 939 = .ok (.iaload, 1) := by decide +kernel
theorem dL_law_940 : decode cL_law 940 = .ok (.invokevirtual 133, 3) := by decide +kernel
theorem dL_law_943 : decode cL_law 943 = .ok (.if_icmp .eq 238, 3) := by decide +kernel
theorem dL_law_946 : decode cL_law 946 = .ok (.iconst 0, 1) := by decide +kernel
theorem dL_law_947 : decode cL_law 947 = .ok (.ireturn, 1) := by decide +kernel
theorem dL_law_948 : decode cL_law 948 = .ok (.aload_n 1, 1) := by decide +kernel
theorem dL_law_949 : decode cL_law 949 = .ok (.invokevirtual 134, 3) := by decide +kernel
theorem dL_law_952 : decode cL_law 952 = .ok (.aload_n 2, 1) := by decide +kernel
theorem dL_law_953 : decode cL_law 953 = .ok (.invokevirtual 137, 3) := by decide +kernel
theorem dL_law_956 : decode cL_law 956 = .ok (.if_icmp .eq 225, 3) := by decide +kernel
theorem dL_law_959 : decode cL_law 959 = .ok (.iconst 0, 1) := by decide +kernel
theorem dL_law_960 : decode cL_law 960 = .ok (.ireturn, 1) := by decide +kernel
theorem dL_law_961 : decode cL_law 961 = .ok (.aload_n 1, 1) := by decide +kernel
theorem dL_law_962 : decode cL_law 962 = .ok (.invokevirtual 138, 3) := by decide +kernel
theorem dL_law_965 : decode cL_law 965 = .ok (.aload_n 2, 1) := by decide +kernel
theorem dL_law_966 : decode cL_law 966 = .ok (.invokevirtual 141, 3) := by decide +kernel
theorem dL_law_969 : decode cL_law 969 = .ok (.if_icmp .eq 212, 3) := by decide +kernel
theorem dL_law_972 : decode cL_law 972 = .ok (.iconst 0, 1) := by decide +kernel
theorem dL_law_973 : decode cL_law 973 = .ok (.ireturn, 1) := by decide +kernel
theorem dL_law_974 : decode cL_law 974 = .ok (.aload_n 1, 1) := by decide +kernel
theorem dL_law_975 : decode cL_law 975 = .ok (.aload_n 0, 1) := by decide +kernel
theorem dL_law_976 : decode cL_law 976 = .ok (.iload 4, 2) := by decide +kernel
theorem dL_law_978 : decode cL_law 978 = .ok (.iconst 1, 1) := by decide +kernel
theorem dL_law_979 : decode cL_law 979 = .ok (.iadd, 1) := by decide +kernel
theorem dL_law_980 : decode cL_law 980 = .ok (.iaload, 1) := by decide +kernel
theorem dL_law_981 : decode cL_law 981 = .ok (.aload_n 3, 1) := by decide +kernel
theorem dL_law_982 : decode cL_law 982 = .ok (.invokestatic 142, 3) := by decide +kernel
theorem dL_law_985 : decode cL_law 985 = .ok (.istore 5, 2) := by decide +kernel
theorem dL_law_987 : decode cL_law 987 = .ok (.aload_n 2, 1) := by decide +kernel
theorem dL_law_988 : decode cL_law 988 = .ok (.aload_n 0, 1) := by decide +kernel
theorem dL_law_989 : decode cL_law 989 = .ok (.iload 4, 2) := by decide +kernel
theorem dL_law_991 : decode cL_law 991 = .ok (.iconst 1, 1) := by decide +kernel
theorem dL_law_992 : decode cL_law 992 = .ok (.iadd, 1) := by decide +kernel
theorem dL_law_993 : decode cL_law 993 = .ok (.iaload, 1) := by decide +kernel
theorem dL_law_994 : decode cL_law 994 = .ok (.invokevirtual 145, 3) := by decide +kernel
theorem dL_law_997 : decode cL_law 997 = .ok (.istore 6, 2) := by decide +kernel
theorem dL_law_999 : decode cL_law 999 = .ok (.aload_n 2, 1) := by decide +kernel
theorem dL_law_1000 : decode cL_law 1000 = .ok (.invokevirtual 78, 3) := by decide +kernel
theorem dL_law_1003 : decode cL_law 1003 = .ok (.iload 5, 2) := by decide +kernel
theorem dL_law_1005 : decode cL_law 1005 = .ok (.if_icmp .eq 5, 3) := by decide +kernel
theorem dL_law_1008 : decode cL_law 1008 = .ok (.iconst 0, 1) := by decide +kernel
theorem dL_law_1009 : decode cL_law 1009 = .ok (.ireturn, 1) := by decide +kernel
theorem dL_law_1010 : decode cL_law 1010 = .ok (.iload 5, 2) := by decide +kernel
theorem dL_law_1012 : decode cL_law 1012 = .ok (.ifCond .ne 15, 3) := by decide +kernel
theorem dL_law_1015 : decode cL_law 1015 = .ok (.aload_n 3, 1) := by decide +kernel
theorem dL_law_1016 : decode cL_law 1016 = .ok (.iconst 0, 1) := by decide +kernel
theorem dL_law_1017 : decode cL_law 1017 = .ok (.laload, 1) := by decide +kernel
theorem dL_law_1018 : decode cL_law 1018 = .ok (.iload 6, 2) := by decide +kernel
theorem dL_law_1020 : decode cL_law 1020 = .ok (.i2l, 1) := by decide +kernel
theorem dL_law_1021 : decode cL_law 1021 = .ok (.lcmp, 1) := by decide +kernel
theorem dL_law_1022 : decode cL_law 1022 = .ok (.ifCond .eq 5, 3) := by decide +kernel
theorem dL_law_1025 : decode cL_law 1025 = .ok (.iconst 0, 1) := by decide +kernel
theorem dL_law_1026 : decode cL_law 1026 = .ok (.ireturn, 1) := by decide +kernel
theorem dL_law_1027 : decode cL_law 1027 = .ok (.goto 154, 3) := by decide +kernel
theorem dL_law_1030 : decode cL_law 1030 = .ok (.aload_n 1, 1) := by decide +kernel
theorem dL_law_1031 : decode cL_law 1031 = .ok (.aload_n 0, 1) := by decide +kernel
theorem dL_law_1032 : decode cL_law 1032 = .ok (.iload 4, 2) := by decide +kernel
theorem dL_law_1034 : decode cL_law 1034 = .ok (.iconst 1, 1) := by decide +kernel
theorem dL_law_1035 : decode cL_law 1035 = .ok (.iadd, 1) := by decide +kernel
theorem dL_law_1036 : decode cL_law 1036 = .ok (.iaload, 1) := by decide +kernel
theorem dL_law_1037 : decode cL_law 1037 = .ok (.aload_n 0, 1) := by decide +kernel
theorem dL_law_1038 : decode cL_law 1038 = .ok (.iload 4, 2) := by decide +kernel
theorem dL_law_1040 : decode cL_law 1040 = .ok (.iconst 2, 1) := by decide +kernel
theorem dL_law_1041 : decode cL_law 1041 = .ok (.iadd, 1) := by decide +kernel
theorem dL_law_1042 : decode cL_law 1042 = .ok (.iaload, 1) := by decide +kernel
theorem dL_law_1043 : decode cL_law 1043 = .ok (.invokevirtual 146, 3) := by decide +kernel
theorem dL_law_1046 : decode cL_law 1046 = .ok (.aload_n 2, 1) := by decide +kernel
theorem dL_law_1047 : decode cL_law 1047 = .ok (.aload_n 0, 1) := by decide +kernel
theorem dL_law_1048 : decode cL_law 1048 = .ok (.iload 4, 2) := by decide +kernel
theorem dL_law_1050 : decode cL_law 1050 = .ok (.iconst 1, 1) := by decide +kernel
theorem dL_law_1051 : decode cL_law 1051 = .ok (.iadd, 1) := by decide +kernel
theorem dL_law_1052 : decode cL_law 1052 = .ok (.iaload, 1) := by decide +kernel
theorem dL_law_1053 : decode cL_law 1053 = .ok (.aload_n 0, 1) := by decide +kernel
theorem dL_law_1054 : decode cL_law 1054 = .ok (.iload 4, 2) := by decide +kernel
theorem dL_law_1056 : decode cL_law 1056 = .ok (.iconst 2, 1) := by decide +kernel
theorem dL_law_1057 : decode cL_law 1057 = .ok (.iadd, 1) := by decide +kernel
theorem dL_law_1058 : decode cL_law 1058 = .ok (.iaload, 1) := by decide +kernel
theorem dL_law_1059 : decode cL_law 1059 = .ok (.invokevirtual 149, 3) := by decide +kernel
theorem dL_law_1062 : decode cL_law 1062 = .ok (.if_icmp .eq 119, 3) := by decide +kernel
theorem dL_law_1065 : decode cL_law 1065 = .ok (.iconst 0, 1) := by decide +kernel
theorem dL_law_1066 : decode cL_law 1066 = .ok (.ireturn, 1) := by decide +kernel
theorem dL_law_1067 : decode cL_law 1067 = .ok (.aload_n 1, 1) := by decide +kernel
theorem dL_law_1068 : decode cL_law 1068 = .ok (.invokevirtual 150, 3) := by decide +kernel
theorem dL_law_1071 : decode cL_law 1071 = .ok (.aload_n 2, 1) := by decide +kernel
theorem dL_law_1072 : decode cL_law 1072 = .ok (.invokevirtual 153, 3) := by decide +kernel
theorem dL_law_1075 : decode cL_law 1075 = .ok (.if_icmp .eq 106, 3) := by decide +kernel
theorem dL_law_1078 : decode cL_law 1078 = .ok (.iconst 0, 1) := by decide +kernel
theorem dL_law_1079 : decode cL_law 1079 = .ok (.ireturn, 1) := by decide +kernel
theorem dL_law_1080 : decode cL_law 1080 = .ok (.aload_n 1, 1) := by decide +kernel
theorem dL_law_1081 : decode cL_law 1081 = .ok (.aload_n 0, 1) := by decide +kernel
theorem dL_law_1082 : decode cL_law 1082 = .ok (.iload 4, 2) := by decide +kernel
theorem dL_law_1084 : decode cL_law 1084 = .ok (.iconst 1, 1) := by decide +kernel
theorem dL_law_1085 : decode cL_law 1085 = .ok (.iadd, 1) := by decide +kernel
theorem dL_law_1086 : decode cL_law 1086 = .ok (.iaload, 1) := by decide +kernel
theorem dL_law_1087 : decode cL_law 1087 = .ok (.invokevirtual 154, 3) := by decide +kernel
theorem dL_law_1090 : decode cL_law 1090 = .ok (.aload_n 2, 1) := by decide +kernel
theorem dL_law_1091 : decode cL_law 1091 = .ok (.aload_n 0, 1) := by decide +kernel
theorem dL_law_1092 : decode cL_law 1092 = .ok (.iload 4, 2) := by decide +kernel
theorem dL_law_1094 : decode cL_law 1094 = .ok (.iconst 1, 1) := by decide +kernel
theorem dL_law_1095 : decode cL_law 1095 = .ok (.iadd, 1) := by decide +kernel
theorem dL_law_1096 : decode cL_law 1096 = .ok (.iaload, 1) := by decide +kernel
theorem dL_law_1097 : decode cL_law 1097 = .ok (.invokevirtual 157, 3) := by decide +kernel
theorem dL_law_1100 : decode cL_law 1100 = .ok (.if_icmp .eq 81, 3) := by decide +kernel
theorem dL_law_1103 : decode cL_law 1103 = .ok (.iconst 0, 1) := by decide +kernel
theorem dL_law_1104 : decode cL_law 1104 = .ok (.ireturn, 1) := by decide +kernel
theorem dL_law_1105 : decode cL_law 1105 = .ok (.aload_n 1, 1) := by decide +kernel
theorem dL_law_1106 : decode cL_law 1106 = .ok (.invokevirtual 158, 3) := by decide +kernel
theorem dL_law_1109 : decode cL_law 1109 = .ok (.aload_n 2, 1) := by decide +kernel
theorem dL_law_1110 : decode cL_law 1110 = .ok (.invokevirtual 161, 3) := by decide +kernel
theorem dL_law_1113 : decode cL_law 1113 = .ok (.if_icmp .eq 68, 3) := by decide +kernel
theorem dL_law_1116 : decode cL_law 1116 = .ok (.iconst 0, 1) := by decide +kernel
theorem dL_law_1117 : decode cL_law 1117 = .ok (.ireturn, 1) := by decide +kernel
theorem dL_law_1118 : decode cL_law 1118 = .ok (.aload_n 1, 1) := by decide +kernel
theorem dL_law_1119 : decode cL_law 1119 = .ok (.aload_n 0, 1) := by decide +kernel
theorem dL_law_1120 : decode cL_law 1120 = .ok (.iload 4, 2) := by decide +kernel
theorem dL_law_1122 : decode cL_law 1122 = .ok (.iconst 1, 1) := by decide +kernel
theorem dL_law_1123 : decode cL_law 1123 = .ok (.iadd, 1) := by decide +kernel
theorem dL_law_1124 : decode cL_law 1124 = .ok (.iaload, 1) := by decide +kernel
theorem dL_law_1125 : decode cL_law 1125 = .ok (.invokevirtual 162, 3) := by decide +kernel
theorem dL_law_1128 : decode cL_law 1128 = .ok (.aload_n 2, 1) := by decide +kernel
theorem dL_law_1129 : decode cL_law 1129 = .ok (.aload_n 0, 1) := by decide +kernel
theorem dL_law_1130 : decode cL_law 1130 = .ok (.iload 4, 2) := by decide +kernel
theorem dL_law_1132 : decode cL_law 1132 = .ok (.iconst 1, 1) := by decide +kernel
theorem dL_law_1133 : decode cL_law 1133 = .ok (.iadd, 1) := by decide +kernel
theorem dL_law_1134 : decode cL_law 1134 = .ok (.iaload, 1) := by decide +kernel
theorem dL_law_1135 : decode cL_law 1135 = .ok (.invokevirtual 165, 3) := by decide +kernel
theorem dL_law_1138 : decode cL_law 1138 = .ok (.if_icmp .eq 43, 3) := by decide +kernel
theorem dL_law_1141 : decode cL_law 1141 = .ok (.iconst 0, 1) := by decide +kernel
theorem dL_law_1142 : decode cL_law 1142 = .ok (.ireturn, 1) := by decide +kernel
theorem dL_law_1143 : decode cL_law 1143 = .ok (.aload_n 1, 1) := by decide +kernel
theorem dL_law_1144 : decode cL_law 1144 = .ok (.aload_n 0, 1) := by decide +kernel
theorem dL_law_1145 : decode cL_law 1145 = .ok (.iload 4, 2) := by decide +kernel
theorem dL_law_1147 : decode cL_law 1147 = .ok (.iconst 1, 1) := by decide +kernel
theorem dL_law_1148 : decode cL_law 1148 = .ok (.iadd, 1) := by decide +kernel
theorem dL_law_1149 : decode cL_law 1149 = .ok (.iaload, 1) := by decide +kernel
theorem dL_law_1150 : decode cL_law 1150 = .ok (.invokevirtual 166, 3) := by decide +kernel
theorem dL_law_1153 : decode cL_law 1153 = .ok (.aload_n 2, 1) := by decide +kernel
theorem dL_law_1154 : decode cL_law 1154 = .ok (.aload_n 0, 1) := by decide +kernel
theorem dL_law_1155 : decode cL_law 1155 = .ok (.iload 4, 2) := by decide +kernel
theorem dL_law_1157 : decode cL_law 1157 = .ok (.iconst 1, 1) := by decide +kernel
theorem dL_law_1158 : decode cL_law 1158 = .ok (.iadd, 1) := by decide +kernel
theorem dL_law_1159 : decode cL_law 1159 = .ok (.iaload, 1) := by decide +kernel
theorem dL_law_1160 : decode cL_law 1160 = .ok (.invokevirtual 169, 3) := by decide +kernel
theorem dL_law_1163 : decode cL_law 1163 = .ok (.if_icmp .eq 18, 3) := by decide +kernel
theorem dL_law_1166 : decode cL_law 1166 = .ok (.iconst 0, 1) := by decide +kernel
theorem dL_law_1167 : decode cL_law 1167 = .ok (.ireturn, 1) := by decide +kernel
theorem dL_law_1168 : decode cL_law 1168 = .ok (.aload_n 1, 1) := by decide +kernel
theorem dL_law_1169 : decode cL_law 1169 = .ok (.invokevirtual 170, 3) := by decide +kernel
theorem dL_law_1172 : decode cL_law 1172 = .ok (.aload_n 2, 1) := by decide +kernel
theorem dL_law_1173 : decode cL_law 1173 = .ok (.invokevirtual 173, 3) := by decide +kernel
theorem dL_law_1176 : decode cL_law 1176 = .ok (.if_icmp .eq 5, 3) := by decide +kernel
theorem dL_law_1179 : decode cL_law 1179 = .ok (.iconst 0, 1) := by decide +kernel
theorem dL_law_1180 : decode cL_law 1180 = .ok (.ireturn, 1) := by decide +kernel
theorem dL_law_1181 : decode cL_law 1181 = .ok (.iinc 4 6, 3) := by decide +kernel
theorem dL_law_1184 : decode cL_law 1184 = .ok (.goto (-1161), 3) := by decide +kernel
theorem dL_law_1187 : decode cL_law 1187 = .ok (.iconst 1, 1) := by decide +kernel
theorem dL_law_1188 : decode cL_law 1188 = .ok (.ireturn, 1) := by decide +kernel
abbrev vwCl : List vw_C := [(RX0, TX0, 16), (RX1, TX1, 9), (RX2, TX2, 10), (RX3, TX3, 3), (RX4, TX4, 2), (RX5, TX5, 8), (RX6, TX6, 11), (RX7, TX7, 5), (RX8, TX8, 7), (RX9, TX9, 13), (RX10, TX10, 6), (RX11, TX11, 18), (RX12, TX12, 28), (RX13, TX13, 3), (RX14, TX14, 8), (RX15, TX15, 51)]
