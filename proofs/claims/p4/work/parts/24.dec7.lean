theorem dX8_year_73 : decode cX8_year 73 = .ok (.iload_n 1, 1) := by decide +kernel
theorem dX8_year_74 : decode cX8_year 74 = .ok (.if_icmp .ge 44, 3) := by decide +kernel
theorem dX8_year_77 : decode cX8_year 77 = .ok (.aload_n 0, 1) := by decide +kernel
theorem dX8_year_78 : decode cX8_year 78 = .ok (.aload_n 0, 1) := by decide +kernel
theorem dX8_year_79 : decode cX8_year 79 = .ok (.getfield 64, 3) := by decide +kernel
theorem dX8_year_82 : decode cX8_year 82 = .ok (.iconst 3, 1) := by decide +kernel
theorem dX8_year_83 : decode cX8_year 83 = .ok (.iload_n 2, 1) := by decide +kernel
theorem dX8_year_84 : decode cX8_year 84 = .ok (.imul, 1) := by decide +kernel
theorem dX8_year_85 : decode cX8_year 85 = .ok (.iaload, 1) := by decide +kernel
theorem dX8_year_86 : decode cX8_year 86 = .ok (.aload_n 0, 1) := by decide +kernel
theorem dX8_year_87 : decode cX8_year 87 = .ok (.getfield 64, 3) := by decide +kernel
theorem dX8_year_90 : decode cX8_year 90 = .ok (.iconst 3, 1) := by decide +kernel
theorem dX8_year_91 : decode cX8_year 91 = .ok (.iload_n 2, 1) := by decide +kernel
theorem dX8_year_92 : decode cX8_year 92 = .ok (.imul, 1) := by decide +kernel
theorem dX8_year_93 : decode cX8_year 93 = .ok (.iconst 1, 1) := by decide +kernel
theorem dX8_year_94 : decode cX8_year 94 = .ok (.iadd, 1) := by decide +kernel
theorem dX8_year_95 : decode cX8_year 95 = .ok (.iaload, 1) := by decide +kernel
theorem dX8_year_96 : decode cX8_year 96 = .ok (.aload_n 0, 1) := by decide +kernel
theorem dX8_year_97 : decode cX8_year 97 = .ok (.getfield 64, 3) := by decide +kernel
theorem dX8_year_100 : decode cX8_year 100 = .ok (.iconst 3, 1) := by decide +kernel
theorem dX8_year_101 : decode cX8_year 101 = .ok (.iload_n 2, 1) := by decide +kernel
theorem dX8_year_102 : decode cX8_year 102 = .ok (.imul, 1) := by decide +kernel
theorem dX8_year_103 : decode cX8_year 103 = .ok (.iconst 2, 1) := by decide +kernel
theorem dX8_year_104 : decode cX8_year 104 = .ok (.iadd, 1) := by decide +kernel
theorem dX8_year_105 : decode cX8_year 105 = .ok (.iaload, 1) := by decide +kernel
theorem dX8_year_106 : decode cX8_year 106 = .ok (.invokevirtual 294, 3) := by decide +kernel
theorem dX8_year_109 : decode cX8_year 109 = .ok (.ifCond .eq 9, 3) := by decide +kernel
theorem dX8_year_112 : decode cX8_year 112 = .ok (.iinc 2 1, 3) := by decide +kernel
theorem dX8_year_115 : decode cX8_year 115 = .ok (.goto (-43), 3) := by decide +kernel
theorem dX8_year_118 : decode cX8_year 118 = .ok (.iload_n 2, 1) := by decide +kernel
theorem dX8_year_119 : decode cX8_year 119 = .ok (.ifCond .le 11, 3) := by decide +kernel
theorem dX8_year_122 : decode cX8_year 122 = .ok (.aload_n 0, 1) := by decide +kernel
theorem dX8_year_123 : decode cX8_year 123 = .ok (.aload_n 0, 1) := by decide +kernel
theorem dX8_year_124 : decode cX8_year 124 = .ok (.getfield 52, 3) := by decide +kernel
theorem dX8_year_127 : decode cX8_year 127 = .ok (.invokevirtual 253, 3) := by decide +kernel
theorem dX8_year_130 : decode cX8_year 130 = .ok (.aload_n 0, 1) := by decide +kernel
theorem dX8_year_131 : decode cX8_year 131 = .ok (.iconst 0, 1) := by decide +kernel
theorem dX8_year_132 : decode cX8_year 132 = .ok (.putfield 117, 3) := by decide +kernel
theorem dX8_year_135 : decode cX8_year 135 = .ok (.aload_n 0, 1) := by decide +kernel
theorem dX8_year_136 : decode cX8_year 136 = .ok (.iload_n 2, 1) := by decide +kernel
theorem dX8_year_137 : decode cX8_year 137 = .ok (.iload_n 1, 1) := by decide +kernel
theorem dX8_year_138 : decode cX8_year 138 = .ok (.if_icmp .ge 7, 3) := by decide +kernel
theorem dX8_year_141 : decode cX8_year 141 = .ok (.lconst 1, 1) := by decide +kernel
theorem dX8_year_142 : decode cX8_year 142 = .ok (.goto 4, 3) := by decide +kernel
theorem dX8_year_145 : decode cX8_year 145 = .ok (.lconst 0, 1) := by decide +kernel
theorem dX8_year_146 : decode cX8_year 146 = .ok (.invokevirtual 284, 3) := by decide +kernel
theorem dX8_year_149 : decode cX8_year 149 = .ok (.aload_n 0, 1) := by decide +kernel
theorem dX8_year_150 : decode cX8_year 150 = .ok (.aload_n 0, 1) := by decide +kernel
theorem dX8_year_151 : decode cX8_year 151 = .ok (.getfield 9, 3) := by decide +kernel
theorem dX8_year_154 : decode cX8_year 154 = .ok (.bipush 25, 2) := by decide +kernel
theorem dX8_year_156 : decode cX8_year 156 = .ok (.iaload, 1) := by decide +kernel
theorem dX8_year_157 : decode cX8_year 157 = .ok (.i2l, 1) := by decide +kernel
theorem dX8_year_158 : decode cX8_year 158 = .ok (.invokevirtual 284, 3) := by decide +kernel
theorem dX8_year_161 : decode cX8_year 161 = .ok (.iload_n 2, 1) := by decide +kernel
theorem dX8_year_162 : decode cX8_year 162 = .ok (.ireturn, 1) := by decide +kernel
theorem dX8_years_0 : decode cX8_years 0 = .ok (.aload_n 0, 1) := by decide +kernel
theorem dX8_years_1 : decode cX8_years 1 = .ok (.iconst 0, 1) := by decide +kernel
theorem dX8_years_2 : decode cX8_years 2 = .ok (.putfield 114, 3) := by decide +kernel
theorem dX8_years_5 : decode cX8_years 5 = .ok (.iload_n 2, 1) := by decide +kernel
theorem dX8_years_6 : decode cX8_years 6 = .ok (.iconst 1, 1) := by decide +kernel
theorem dX8_years_7 : decode cX8_years 7 = .ok (.bipush 60, 2) := by decide +kernel
theorem dX8_years_9 : decode cX8_years 9 = .ok (.invokestatic 123, 3) := by decide +kernel
theorem dX8_years_12 : decode cX8_years 12 = .ok (.ifCond .ne 5, 3) := by decide +kernel
theorem dX8_years_15 : decode cX8_years 15 = .ok (.iconst (-1), 1) := by decide +kernel
theorem dX8_years_16 : decode cX8_years 16 = .ok (.ireturn, 1) := by decide +kernel
theorem dX8_years_17 : decode cX8_years 17 = .ok (.aload_n 0, 1) := by decide +kernel
theorem dX8_years_18 : decode cX8_years 18 = .ok (.iload_n 1, 1) := by decide +kernel
theorem dX8_years_19 : decode cX8_years 19 = .ok (.putfield 408, 3) := by decide +kernel
theorem dX8_years_22 : decode cX8_years 22 = .ok (.aload_n 0, 1) := by decide +kernel
theorem dX8_years_23 : decode cX8_years 23 = .ok (.getfield 9, 3) := by decide +kernel
theorem dX8_years_26 : decode cX8_years 26 = .ok (.aload_n 0, 1) := by decide +kernel
theorem dX8_years_27 : decode cX8_years 27 = .ok (.getfield 55, 3) := by decide +kernel
theorem dX8_years_30 : decode cX8_years 30 = .ok (.iconst 0, 1) := by decide +kernel
theorem dX8_years_31 : decode cX8_years 31 = .ok (.invokestatic 249, 3) := by decide +kernel
theorem dX8_years_34 : decode cX8_years 34 = .ok (.iconst 0, 1) := by decide +kernel
theorem dX8_years_35 : decode cX8_years 35 = .ok (.istore_n 3, 1) := by decide +kernel
theorem dX8_years_36 : decode cX8_years 36 = .ok (.iload_n 3, 1) := by decide +kernel
theorem dX8_years_37 : decode cX8_years 37 = .ok (.iload_n 2, 1) := by decide +kernel
theorem dX8_years_38 : decode cX8_years 38 = .ok (.if_icmp .ge 110, 3) := by decide +kernel
theorem dX8_years_41 : decode cX8_years 41 = .ok (.aload_n 0, 1) := by decide +kernel
theorem dX8_years_42 : decode cX8_years 42 = .ok (.iconst 4, 1) := by decide +kernel
theorem dX8_years_43 : decode cX8_years 43 = .ok (.invokevirtual 412, 3) := by decide +kernel
theorem dX8_years_46 : decode cX8_years 46 = .ok (.istore 4, 2) := by decide +kernel
theorem dX8_years_48 : decode cX8_years 48 = .ok (.iload 4, 2) := by decide +kernel
theorem dX8_years_50 : decode cX8_years 50 = .ok (.iconst 2, 1) := by decide +kernel
theorem dX8_years_51 : decode cX8_years 51 = .ok (.if_icmp .ge 11, 3) := by decide +kernel
theorem dX8_years_54 : decode cX8_years 54 = .ok (.aload_n 0, 1) := by decide +kernel
theorem dX8_years_55 : decode cX8_years 55 = .ok (.aload_n 0, 1) := by decide +kernel
theorem dX8_years_56 : decode cX8_years 56 = .ok (.getfield 55, 3) := by decide +kernel
theorem dX8_years_59 : decode cX8_years 59 = .ok (.invokevirtual 277, 3) := by decide +kernel
theorem dX8_years_62 : decode cX8_years 62 = .ok (.iload 4, 2) := by decide +kernel
theorem dX8_years_64 : decode cX8_years 64 = .ok (.iconst 2, 1) := by decide +kernel
theorem dX8_years_65 : decode cX8_years 65 = .ok (.if_icmp .lt 77, 3) := by decide +kernel
theorem dX8_years_68 : decode cX8_years 68 = .ok (.aload_n 0, 1) := by decide +kernel
theorem dX8_years_69 : decode cX8_years 69 = .ok (.getfield 120, 3) := by decide +kernel
theorem dX8_years_72 : decode cX8_years 72 = .ok (.ifCond .ne 6, 3) := by decide +kernel
theorem dX8_years_75 : decode cX8_years 75 = .ok (.goto 67, 3) := by decide +kernel
theorem dX8_years_78 : decode cX8_years 78 = .ok (.iload 4, 2) := by decide +kernel
theorem dX8_years_80 : decode cX8_years 80 = .ok (.iconst 2, 1) := by decide +kernel
theorem dX8_years_81 : decode cX8_years 81 = .ok (.if_icmp .ne 38, 3) := by decide +kernel
theorem dX8_years_84 : decode cX8_years 84 = .ok (.aload_n 0, 1) := by decide +kernel
theorem dX8_years_85 : decode cX8_years 85 = .ok (.aload_n 0, 1) := by decide +kernel
theorem dX8_years_86 : decode cX8_years 86 = .ok (.getfield 120, 3) := by decide +kernel
theorem dX8_years_89 : decode cX8_years 89 = .ok (.invokevirtual 412, 3) := by decide +kernel
theorem dX8_years_92 : decode cX8_years 92 = .ok (.istore 5, 2) := by decide +kernel
theorem dX8_years_94 : decode cX8_years 94 = .ok (.aload_n 0, 1) := by decide +kernel
theorem dX8_years_95 : decode cX8_years 95 = .ok (.getfield 55, 3) := by decide +kernel
theorem dX8_years_98 : decode cX8_years 98 = .ok (.bipush 16, 2) := by decide +kernel
theorem dX8_years_100 : decode cX8_years 100 = .ok (.iload 5, 2) := by decide +kernel
theorem dX8_years_102 : decode cX8_years 102 = .ok (.iadd, 1) := by decide +kernel
theorem dX8_years_103 : decode cX8_years 103 = .ok (.iconst 1, 1) := by decide +kernel
theorem dX8_years_104 : decode cX8_years 104 = .ok (.aload_n 0, 1) := by decide +kernel
theorem dX8_years_105 : decode cX8_years 105 = .ok (.getfield 55, 3) := by decide +kernel
theorem dX8_years_108 : decode cX8_years 108 = .ok (.bipush 16, 2) := by decide +kernel
theorem dX8_years_110 : decode cX8_years 110 = .ok (.iload 5, 2) := by decide +kernel
theorem dX8_years_112 : decode cX8_years 112 = .ok (.iadd, 1) := by decide +kernel
theorem dX8_years_113 : decode cX8_years 113 = .ok (.iaload, 1) := by decide +kernel
theorem dX8_years_114 : decode cX8_years 114 = .ok (.isub, 1) := by decide +kernel
theorem dX8_years_115 : decode cX8_years 115 = .ok (.iastore, 1) := by decide +kernel
theorem dX8_years_116 : decode cX8_years 116 = .ok (.goto 26, 3) := by decide +kernel
theorem dX8_years_119 : decode cX8_years 119 = .ok (.aload_n 0, 1) := by decide +kernel
theorem dX8_years_120 : decode cX8_years 120 = .ok (.bipush 8, 2) := by decide +kernel
theorem dX8_years_122 : decode cX8_years 122 = .ok (.invokevirtual 412, 3) := by decide +kernel
theorem dX8_years_125 : decode cX8_years 125 = .ok (.istore 5, 2) := by decide +kernel
theorem dX8_years_127 : decode cX8_years 127 = .ok (.aload_n 0, 1) := by decide +kernel
theorem dX8_years_128 : decode cX8_years 128 = .ok (.getfield 55, 3) := by decide +kernel
theorem dX8_years_131 : decode cX8_years 131 = .ok (.iload 5, 2) := by decide +kernel
theorem dX8_years_133 : decode cX8_years 133 = .ok (.aload_n 0, 1) := by decide +kernel
theorem dX8_years_134 : decode cX8_years 134 = .ok (.aload_n 0, 1) := by decide +kernel
theorem dX8_years_135 : decode cX8_years 135 = .ok (.getfield 120, 3) := by decide +kernel
theorem dX8_years_138 : decode cX8_years 138 = .ok (.invokevirtual 412, 3) := by decide +kernel
theorem dX8_years_141 : decode cX8_years 141 = .ok (.iastore, 1) := by decide +kernel
theorem dX8_years_142 : decode cX8_years 142 = .ok (.iinc 3 1, 3) := by decide +kernel
theorem dX8_years_145 : decode cX8_years 145 = .ok (.goto (-109), 3) := by decide +kernel
theorem dX8_years_148 : decode cX8_years 148 = .ok (.aload_n 0, 1) := by decide +kernel
theorem dX8_years_149 : decode cX8_years 149 = .ok (.iconst 0, 1) := by decide +kernel
theorem dX8_years_150 : decode cX8_years 150 = .ok (.putfield 117, 3) := by decide +kernel
theorem dX8_years_153 : decode cX8_years 153 = .ok (.aload_n 0, 1) := by decide +kernel
theorem dX8_years_154 : decode cX8_years 154 = .ok (.aload_n 0, 1) := by decide +kernel
theorem dX8_years_155 : decode cX8_years 155 = .ok (.getfield 55, 3) := by decide +kernel
theorem dX8_years_158 : decode cX8_years 158 = .ok (.bipush 26, 2) := by decide +kernel
theorem dX8_years_160 : decode cX8_years 160 = .ok (.iaload, 1) := by decide +kernel
theorem dX8_years_161 : decode cX8_years 161 = .ok (.aload_n 0, 1) := by decide +kernel
theorem dX8_years_162 : decode cX8_years 162 = .ok (.getfield 9, 3) := by decide +kernel
theorem dX8_years_165 : decode cX8_years 165 = .ok (.bipush 26, 2) := by decide +kernel
theorem dX8_years_167 : decode cX8_years 167 = .ok (.iaload, 1) := by decide +kernel
theorem dX8_years_168 : decode cX8_years 168 = .ok (.isub, 1) := by decide +kernel
theorem dX8_years_169 : decode cX8_years 169 = .ok (.i2l, 1) := by decide +kernel
theorem dX8_years_170 : decode cX8_years 170 = .ok (.invokevirtual 284, 3) := by decide +kernel
theorem dX8_years_173 : decode cX8_years 173 = .ok (.aload_n 0, 1) := by decide +kernel
theorem dX8_years_174 : decode cX8_years 174 = .ok (.aload_n 0, 1) := by decide +kernel
theorem dX8_years_175 : decode cX8_years 175 = .ok (.aload_n 0, 1) := by decide +kernel
theorem dX8_years_176 : decode cX8_years 176 = .ok (.getfield 55, 3) := by decide +kernel
theorem dX8_years_179 : decode cX8_years 179 = .ok (.invokevirtual 288, 3) := by decide +kernel
theorem dX8_years_182 : decode cX8_years 182 = .ok (.i2l, 1) := by decide +kernel
theorem dX8_years_183 : decode cX8_years 183 = .ok (.invokevirtual 284, 3) := by decide +kernel
theorem dX8_years_186 : decode cX8_years 186 = .ok (.aload_n 0, 1) := by decide +kernel
theorem dX8_years_187 : decode cX8_years 187 = .ok (.getfield 55, 3) := by decide +kernel
theorem dX8_years_190 : decode cX8_years 190 = .ok (.bipush 25, 2) := by decide +kernel
theorem dX8_years_192 : decode cX8_years 192 = .ok (.iaload, 1) := by decide +kernel
theorem dX8_years_193 : decode cX8_years 193 = .ok (.aload_n 0, 1) := by decide +kernel
theorem dX8_years_194 : decode cX8_years 194 = .ok (.getfield 9, 3) := by decide +kernel
theorem dX8_years_197 : decode cX8_years 197 = .ok (.bipush 25, 2) := by decide +kernel
theorem dX8_years_199 : decode cX8_years 199 = .ok (.iaload, 1) := by decide +kernel
theorem dX8_years_200 : decode cX8_years 200 = .ok (.isub, 1) := by decide +kernel
theorem dX8_years_201 : decode cX8_years 201 = .ok (.ireturn, 1) := by decide +kernel
