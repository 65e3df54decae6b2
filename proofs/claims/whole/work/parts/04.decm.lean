theorem dX6_init_0 : decode cX6_init 0 = .ok (.aload_n 0, 1) := by decide +kernel
theorem dX6_init_1 : decode cX6_init 1 = .ok (.invokespecial 3, 3) := by decide +kernel
theorem dX6_init_4 : decode cX6_init 4 = .ok (.aload_n 0, 1) := by decide +kernel
theorem dX6_init_5 : decode cX6_init 5 = .ok (.bipush 8, 2) := by decide +kernel
theorem dX6_init_7 : decode cX6_init 7 = .ok (.newarray .int, 2) := by decide +kernel
theorem dX6_init_9 : decode cX6_init 9 = .ok (.putfield 9, 3) := by decide +kernel
theorem dX6_init_12 : decode cX6_init 12 = .ok (.aload_n 0, 1) := by decide +kernel
theorem dX6_init_13 : decode cX6_init 13 = .ok (.bipush 8, 2) := by decide +kernel
theorem dX6_init_15 : decode cX6_init 15 = .ok (.newarray .int, 2) := by decide +kernel
theorem dX6_init_17 : decode cX6_init 17 = .ok (.putfield 13, 3) := by decide +kernel
theorem dX6_init_20 : decode cX6_init 20 = .ok (.aload_n 0, 1) := by decide +kernel
theorem dX6_init_21 : decode cX6_init 21 = .ok (.bipush 32, 2) := by decide +kernel
theorem dX6_init_23 : decode cX6_init 23 = .ok (.newarray .int, 2) := by decide +kernel
theorem dX6_init_25 : decode cX6_init 25 = .ok (.putfield 16, 3) := by decide +kernel
theorem dX6_init_28 : decode cX6_init 28 = .ok (.aload_n 0, 1) := by decide +kernel
theorem dX6_init_29 : decode cX6_init 29 = .ok (.sipush 250, 3) := by decide +kernel
theorem dX6_init_32 : decode cX6_init 32 = .ok (.newarray .int, 2) := by decide +kernel
theorem dX6_init_34 : decode cX6_init 34 = .ok (.putfield 19, 3) := by decide +kernel
theorem dX6_init_37 : decode cX6_init 37 = .ok (.aload_n 0, 1) := by decide +kernel
theorem dX6_init_38 : decode cX6_init 38 = .ok (.sipush 250, 3) := by decide +kernel
theorem dX6_init_41 : decode cX6_init 41 = .ok (.newarray .int, 2) := by decide +kernel
theorem dX6_init_43 : decode cX6_init 43 = .ok (.putfield 22, 3) := by decide +kernel
theorem dX6_init_46 : decode cX6_init 46 = .ok (.aload_n 0, 1) := by decide +kernel
theorem dX6_init_47 : decode cX6_init 47 = .ok (.sipush 15000, 3) := by decide +kernel
theorem dX6_init_50 : decode cX6_init 50 = .ok (.newarray .byte, 2) := by decide +kernel
theorem dX6_init_52 : decode cX6_init 52 = .ok (.putfield 25, 3) := by decide +kernel
theorem dX6_init_55 : decode cX6_init 55 = .ok (.aload_n 0, 1) := by decide +kernel
theorem dX6_init_56 : decode cX6_init 56 = .ok (.sipush 250, 3) := by decide +kernel
theorem dX6_init_59 : decode cX6_init 59 = .ok (.newarray .int, 2) := by decide +kernel
theorem dX6_init_61 : decode cX6_init 61 = .ok (.putfield 29, 3) := by decide +kernel
theorem dX6_init_64 : decode cX6_init 64 = .ok (.aload_n 0, 1) := by decide +kernel
theorem dX6_init_65 : decode cX6_init 65 = .ok (.sipush 250, 3) := by decide +kernel
theorem dX6_init_68 : decode cX6_init 68 = .ok (.newarray .int, 2) := by decide +kernel
theorem dX6_init_70 : decode cX6_init 70 = .ok (.putfield 32, 3) := by decide +kernel
theorem dX6_init_73 : decode cX6_init 73 = .ok (.aload_n 0, 1) := by decide +kernel
theorem dX6_init_74 : decode cX6_init 74 = .ok (.sipush 250, 3) := by decide +kernel
theorem dX6_init_77 : decode cX6_init 77 = .ok (.newarray .int, 2) := by decide +kernel
theorem dX6_init_79 : decode cX6_init 79 = .ok (.putfield 35, 3) := by decide +kernel
theorem dX6_init_82 : decode cX6_init 82 = .ok (.aload_n 0, 1) := by decide +kernel
theorem dX6_init_83 : decode cX6_init 83 = .ok (.sipush 250, 3) := by decide +kernel
theorem dX6_init_86 : decode cX6_init 86 = .ok (.newarray .int, 2) := by decide +kernel
theorem dX6_init_88 : decode cX6_init 88 = .ok (.putfield 38, 3) := by decide +kernel
theorem dX6_init_91 : decode cX6_init 91 = .ok (.aload_n 0, 1) := by decide +kernel
theorem dX6_init_92 : decode cX6_init 92 = .ok (.sipush 250, 3) := by decide +kernel
theorem dX6_init_95 : decode cX6_init 95 = .ok (.newarray .boolean, 2) := by decide +kernel
theorem dX6_init_97 : decode cX6_init 97 = .ok (.putfield 41, 3) := by decide +kernel
theorem dX6_init_100 : decode cX6_init 100 = .ok (.aload_n 0, 1) := by decide +kernel
theorem dX6_init_101 : decode cX6_init 101 = .ok (.sipush 250, 3) := by decide +kernel
theorem dX6_init_104 : decode cX6_init 104 = .ok (.newarray .boolean, 2) := by decide +kernel
theorem dX6_init_106 : decode cX6_init 106 = .ok (.putfield 45, 3) := by decide +kernel
theorem dX6_init_109 : decode cX6_init 109 = .ok (.aload_n 0, 1) := by decide +kernel
theorem dX6_init_110 : decode cX6_init 110 = .ok (.sipush 32000, 3) := by decide +kernel
theorem dX6_init_113 : decode cX6_init 113 = .ok (.newarray .int, 2) := by decide +kernel
theorem dX6_init_115 : decode cX6_init 115 = .ok (.putfield 48, 3) := by decide +kernel
theorem dX6_init_118 : decode cX6_init 118 = .ok (.aload_n 0, 1) := by decide +kernel
theorem dX6_init_119 : decode cX6_init 119 = .ok (.sipush 32000, 3) := by decide +kernel
theorem dX6_init_122 : decode cX6_init 122 = .ok (.newarray .int, 2) := by decide +kernel
theorem dX6_init_124 : decode cX6_init 124 = .ok (.putfield 51, 3) := by decide +kernel
theorem dX6_init_127 : decode cX6_init 127 = .ok (.aload_n 0, 1) := by decide +kernel
theorem dX6_init_128 : decode cX6_init 128 = .ok (.sipush 32000, 3) := by decide +kernel
theorem dX6_init_131 : decode cX6_init 131 = .ok (.newarray .int, 2) := by decide +kernel
theorem dX6_init_133 : decode cX6_init 133 = .ok (.putfield 54, 3) := by decide +kernel
theorem dX6_init_136 : decode cX6_init 136 = .ok (.aload_n 0, 1) := by decide +kernel
theorem dX6_init_137 : decode cX6_init 137 = .ok (.sipush 32000, 3) := by decide +kernel
theorem dX6_init_140 : decode cX6_init 140 = .ok (.newarray .int, 2) := by decide +kernel
theorem dX6_init_142 : decode cX6_init 142 = .ok (.putfield 57, 3) := by decide +kernel
theorem dX6_init_145 : decode cX6_init 145 = .ok (.aload_n 0, 1) := by decide +kernel
theorem dX6_init_146 : decode cX6_init 146 = .ok (.bipush 8, 2) := by decide +kernel
theorem dX6_init_148 : decode cX6_init 148 = .ok (.newarray .int, 2) := by decide +kernel
theorem dX6_init_150 : decode cX6_init 150 = .ok (.putfield 60, 3) := by decide +kernel
theorem dX6_init_153 : decode cX6_init 153 = .ok (.aload_n 0, 1) := by decide +kernel
theorem dX6_init_154 : decode cX6_init 154 = .ok (.bipush 8, 2) := by decide +kernel
theorem dX6_init_156 : decode cX6_init 156 = .ok (.newarray .int, 2) := by decide +kernel
theorem dX6_init_158 : decode cX6_init 158 = .ok (.putfield 63, 3) := by decide +kernel
theorem dX6_init_161 : decode cX6_init 161 = .ok (.aload_n 0, 1) := by decide +kernel
theorem dX6_init_162 : decode cX6_init 162 = .ok (.bipush 8, 2) := by decide +kernel
theorem dX6_init_164 : decode cX6_init 164 = .ok (.newarray .int, 2) := by decide +kernel
theorem dX6_init_166 : decode cX6_init 166 = .ok (.putfield 66, 3) := by decide +kernel
theorem dX6_init_169 : decode cX6_init 169 = .ok (.aload_n 0, 1) := by decide +kernel
theorem dX6_init_170 : decode cX6_init 170 = .ok (.bipush 8, 2) := by decide +kernel
theorem dX6_init_172 : decode cX6_init 172 = .ok (.newarray .int, 2) := by decide +kernel
theorem dX6_init_174 : decode cX6_init 174 = .ok (.putfield 69, 3) := by decide +kernel
theorem dX6_init_177 : decode cX6_init 177 = .ok (.aload_n 0, 1) := by decide +kernel
theorem dX6_init_178 : decode cX6_init 178 = .ok (.bipush 8, 2) := by decide +kernel
theorem dX6_init_180 : decode cX6_init 180 = .ok (.newarray .int, 2) := by decide +kernel
theorem dX6_init_182 : decode cX6_init 182 = .ok (.putfield 72, 3) := by decide +kernel
theorem dX6_init_185 : decode cX6_init 185 = .ok (.aload_n 0, 1) := by decide +kernel
theorem dX6_init_186 : decode cX6_init 186 = .ok (.bipush 8, 2) := by decide +kernel
theorem dX6_init_188 : decode cX6_init 188 = .ok (.newarray .int, 2) := by decide +kernel
theorem dX6_init_190 : decode cX6_init 190 = .ok (.putfield 75, 3) := by decide +kernel
theorem dX6_init_193 : decode cX6_init 193 = .ok (.aload_n 0, 1) := by decide +kernel
theorem dX6_init_194 : decode cX6_init 194 = .ok (.bipush 60, 2) := by decide +kernel
theorem dX6_init_196 : decode cX6_init 196 = .ok (.newarray .byte, 2) := by decide +kernel
theorem dX6_init_198 : decode cX6_init 198 = .ok (.putfield 78, 3) := by decide +kernel
theorem dX6_init_201 : decode cX6_init 201 = .ok (.aload_n 0, 1) := by decide +kernel
theorem dX6_init_202 : decode cX6_init 202 = .ok (.bipush 60, 2) := by decide +kernel
theorem dX6_init_204 : decode cX6_init 204 = .ok (.newarray .byte, 2) := by decide +kernel
theorem dX6_init_206 : decode cX6_init 206 = .ok (.putfield 81, 3) := by decide +kernel
theorem dX6_init_209 : decode cX6_init 209 = .ok (.aload_n 0, 1) := by decide +kernel
theorem dX6_init_210 : decode cX6_init 210 = .ok (.iconst 4, 1) := by decide +kernel
theorem dX6_init_211 : decode cX6_init 211 = .ok (.iconst 3, 1) := by decide +kernel
theorem dX6_init_212 : decode cX6_init 212 = .ok (.iconst 2, 1) := by decide +kernel
theorem dX6_init_213 : decode cX6_init 213 = .ok (.iconst 4, 1) := by decide +kernel
theorem dX6_init_214 : decode cX6_init 214 = .ok (.invokevirtual 84, 3) := by decide +kernel
theorem dX6_init_217 : decode cX6_init 217 = .ok (.return_, 1) := by decide +kernel
theorem dX6_thrown_0 : decode cX6_thrown 0 = .ok (.aload_n 0, 1) := by decide +kernel
theorem dX6_thrown_1 : decode cX6_thrown 1 = .ok (.getfield 88, 3) := by decide +kernel
theorem dX6_thrown_4 : decode cX6_thrown 4 = .ok (.ireturn, 1) := by decide +kernel
theorem dX6_isIn_0 : decode cX6_isIn 0 = .ok (.iload_n 0, 1) := by decide +kernel
theorem dX6_isIn_1 : decode cX6_isIn 1 = .ok (.iload_n 1, 1) := by decide +kernel
theorem dX6_isIn_2 : decode cX6_isIn 2 = .ok (.if_icmp .lt 12, 3) := by decide +kernel
theorem dX6_isIn_5 : decode cX6_isIn 5 = .ok (.iload_n 0, 1) := by decide +kernel
theorem dX6_isIn_6 : decode cX6_isIn 6 = .ok (.iload_n 2, 1) := by decide +kernel
theorem dX6_isIn_7 : decode cX6_isIn 7 = .ok (.if_icmp .gt 7, 3) := by decide +kernel
theorem dX6_isIn_10 : decode cX6_isIn 10 = .ok (.iconst 1, 1) := by decide +kernel
theorem dX6_isIn_11 : decode cX6_isIn 11 = .ok (.goto 4, 3) := by decide +kernel
theorem dX6_isIn_14 : decode cX6_isIn 14 = .ok (.iconst 0, 1) := by decide +kernel
theorem dX6_isIn_15 : decode cX6_isIn 15 = .ok (.ireturn, 1) := by decide +kernel
theorem dX6_link_0 : decode cX6_link 0 = .ok (.aload_n 0, 1) := by decide +kernel
theorem dX6_link_1 : decode cX6_link 1 = .ok (.iload_n 1, 1) := by decide +kernel
theorem dX6_link_2 : decode cX6_link 2 = .ok (.iconst 1, 1) := by decide +kernel
theorem dX6_link_3 : decode cX6_link 3 = .ok (.bipush 8, 2) := by decide +kernel
theorem dX6_link_5 : decode cX6_link 5 = .ok (.invokestatic 92, 3) := by decide +kernel
theorem dX6_link_8 : decode cX6_link 8 = .ok (.ifCond .eq 38, 3) := by decide +kernel
theorem dX6_link_11 : decode cX6_link 11 = .ok (.iload_n 2, 1) := by decide +kernel
theorem dX6_link_12 : decode cX6_link 12 = .ok (.iconst 1, 1) := by decide +kernel
theorem dX6_link_13 : decode cX6_link 13 = .ok (.bipush 16, 2) := by decide +kernel
theorem dX6_link_15 : decode cX6_link 15 = .ok (.invokestatic 92, 3) := by decide +kernel
theorem dX6_link_18 : decode cX6_link 18 = .ok (.ifCond .eq 28, 3) := by decide +kernel
theorem dX6_link_21 : decode cX6_link 21 = .ok (.iload_n 3, 1) := by decide +kernel
theorem dX6_link_22 : decode cX6_link 22 = .ok (.iconst 1, 1) := by decide +kernel
theorem dX6_link_23 : decode cX6_link 23 = .ok (.bipush 16, 2) := by decide +kernel
theorem dX6_link_25 : decode cX6_link 25 = .ok (.invokestatic 92, 3) := by decide +kernel
theorem dX6_link_28 : decode cX6_link 28 = .ok (.ifCond .eq 18, 3) := by decide +kernel
theorem dX6_link_31 : decode cX6_link 31 = .ok (.iload 4, 2) := by decide +kernel
theorem dX6_link_33 : decode cX6_link 33 = .ok (.iconst 1, 1) := by decide +kernel
theorem dX6_link_34 : decode cX6_link 34 = .ok (.bipush 16, 2) := by decide +kernel
theorem dX6_link_36 : decode cX6_link 36 = .ok (.invokestatic 92, 3) := by decide +kernel
theorem dX6_link_39 : decode cX6_link 39 = .ok (.ifCond .eq 7, 3) := by decide +kernel
theorem dX6_link_42 : decode cX6_link 42 = .ok (.iconst 0, 1) := by decide +kernel
theorem dX6_link_43 : decode cX6_link 43 = .ok (.goto 4, 3) := by decide +kernel
theorem dX6_link_46 : decode cX6_link 46 = .ok (.iconst 1, 1) := by decide +kernel
theorem dX6_link_47 : decode cX6_link 47 = .ok (.putfield 88, 3) := by decide +kernel
theorem dX6_link_50 : decode cX6_link 50 = .ok (.aload_n 0, 1) := by decide +kernel
theorem dX6_link_51 : decode cX6_link 51 = .ok (.getfield 88, 3) := by decide +kernel
theorem dX6_link_54 : decode cX6_link 54 = .ok (.ifCond .le 4, 3) := by decide +kernel
theorem dX6_link_57 : decode cX6_link 57 = .ok (.return_, 1) := by decide +kernel
theorem dX6_link_58 : decode cX6_link 58 = .ok (.aload_n 0, 1) := by decide +kernel
theorem dX6_link_59 : decode cX6_link 59 = .ok (.iload_n 1, 1) := by decide +kernel
theorem dX6_link_60 : decode cX6_link 60 = .ok (.putfield 96, 3) := by decide +kernel
theorem dX6_link_63 : decode cX6_link 63 = .ok (.aload_n 0, 1) := by decide +kernel
theorem dX6_link_64 : decode cX6_link 64 = .ok (.iload_n 2, 1) := by decide +kernel
theorem dX6_link_65 : decode cX6_link 65 = .ok (.putfield 99, 3) := by decide +kernel
theorem dX6_link_68 : decode cX6_link 68 = .ok (.aload_n 0, 1) := by decide +kernel
theorem dX6_link_69 : decode cX6_link 69 = .ok (.iload_n 3, 1) := by decide +kernel
theorem dX6_link_70 : decode cX6_link 70 = .ok (.putfield 102, 3) := by decide +kernel
theorem dX6_link_73 : decode cX6_link 73 = .ok (.aload_n 0, 1) := by decide +kernel
theorem dX6_link_74 : decode cX6_link 74 = .ok (.iconst 0, 1) := by decide +kernel
theorem dX6_link_75 : decode cX6_link 75 = .ok (.putfield 105, 3) := by decide +kernel
theorem dX6_link_78 : decode cX6_link 78 = .ok (.aload_n 0, 1) := by decide +kernel
theorem dX6_link_79 : decode cX6_link 79 = .ok (.iconst 0, 1) := by decide +kernel
theorem dX6_link_80 : decode cX6_link 80 = .ok (.putfield 108, 3) := by decide +kernel
theorem dX6_link_83 : decode cX6_link 83 = .ok (.aload_n 0, 1) := by decide +kernel
theorem dX6_link_84 : decode cX6_link 84 = .ok (.iconst 0, 1) := by decide +kernel
theorem dX6_link_85 : decode cX6_link 85 = .ok (.putfield 111, 3) := by decide +kernel
theorem dX6_link_88 : decode cX6_link 88 = .ok (.aload_n 0, 1) := by decide +kernel
theorem dX6_link_89 : decode cX6_link 89 = .ok (.iconst 0, 1) := by decide +kernel
theorem dX6_link_90 : decode cX6_link 90 = .ok (.putfield 114, 3) := by decide +kernel
theorem dX6_link_93 : decode cX6_link 93 = .ok (.aload_n 0, 1) := by decide +kernel
theorem dX6_link_94 : decode cX6_link 94 = .ok (.iconst (-1), 1) := by decide +kernel
theorem dX6_link_95 : decode cX6_link 95 = .ok (.putfield 117, 3) := by decide +kernel
theorem dX6_link_98 : decode cX6_link 98 = .ok (.aload_n 0, 1) := by decide +kernel
theorem dX6_link_99 : decode cX6_link 99 = .ok (.iconst 0, 1) := by decide +kernel
theorem dX6_link_100 : decode cX6_link 100 = .ok (.putfield 120, 3) := by decide +kernel
theorem dX6_link_103 : decode cX6_link 103 = .ok (.aload_n 0, 1) := by decide +kernel
theorem dX6_link_104 : decode cX6_link 104 = .ok (.iconst 0, 1) := by decide +kernel
theorem dX6_link_105 : decode cX6_link 105 = .ok (.putfield 123, 3) := by decide +kernel
theorem dX6_link_108 : decode cX6_link 108 = .ok (.aload_n 0, 1) := by decide +kernel
theorem dX6_link_109 : decode cX6_link 109 = .ok (.iconst 0, 1) := by decide +kernel
theorem dX6_link_110 : decode cX6_link 110 = .ok (.putfield 126, 3) := by decide +kernel
theorem dX6_link_113 : decode cX6_link 113 = .ok (.aload_n 0, 1) := by decide +kernel
theorem dX6_link_114 : decode cX6_link 114 = .ok (.iconst 0, 1) := by decide +kernel
theorem dX6_link_115 : decode cX6_link 115 = .ok (.putfield 129, 3) := by decide +kernel
theorem dX6_link_118 : decode cX6_link 118 = .ok (.iconst 0, 1) := by decide +kernel
theorem dX6_link_119 : decode cX6_link 119 = .ok (.istore 5, 2) := by decide +kernel
theorem dX6_link_121 : decode cX6_link 121 = .ok (.iload 5, 2) := by decide +kernel
theorem dX6_link_123 : decode cX6_link 123 = .ok (.bipush 8, 2) := by decide +kernel
theorem dX6_link_125 : decode cX6_link 125 = .ok (.if_icmp .ge 74, 3) := by decide +kernel
theorem dX6_link_128 : decode cX6_link 128 = .ok (.aload_n 0, 1) := by decide +kernel
theorem dX6_link_129 : decode cX6_link 129 = .ok (.getfield 9, 3) := by decide +kernel
theorem dX6_link_132 : decode cX6_link 132 = .ok (.iload 5, 2) := by decide +kernel
theorem dX6_link_134 : decode cX6_link 134 = .ok (.iload 4, 2) := by decide +kernel
theorem dX6_link_136 : decode cX6_link 136 = .ok (.iastore, 1) := by decide +kernel
theorem dX6_link_137 : decode cX6_link 137 = .ok (.aload_n 0, 1) := by decide +kernel
theorem dX6_link_138 : decode cX6_link 138 = .ok (.getfield 13, 3) := by decide +kernel
theorem dX6_link_141 : decode cX6_link 141 = .ok (.iload 5, 2) := by decide +kernel
theorem dX6_link_143 : decode cX6_link 143 = .ok (.iconst 1, 1) := by decide +kernel
theorem dX6_link_144 : decode cX6_link 144 = .ok (.iastore, 1) := by decide +kernel
theorem dX6_link_145 : decode cX6_link 145 = .ok (.aload_n 0, 1) := by decide +kernel
theorem dX6_link_146 : decode cX6_link 146 = .ok (.getfield 60, 3) := by decide +kernel
theorem dX6_link_149 : decode cX6_link 149 = .ok (.iload 5, 2) := by decide +kernel
theorem dX6_link_151 : decode cX6_link 151 = .ok (.iconst 0, 1) := by decide +kernel
theorem dX6_link_152 : decode cX6_link 152 = .ok (.iastore, 1) := by decide +kernel
theorem dX6_link_153 : decode cX6_link 153 = .ok (.aload_n 0, 1) := by decide +kernel
theorem dX6_link_154 : decode cX6_link 154 = .ok (.getfield 63, 3) := by decide +kernel
theorem dX6_link_157 : decode cX6_link 157 = .ok (.iload 5, 2) := by decide +kernel
theorem dX6_link_159 : decode cX6_link 159 = .ok (.iconst 0, 1) := by decide +kernel
theorem dX6_link_160 : decode cX6_link 160 = .ok (.iastore, 1) := by decide +kernel
theorem dX6_link_161 : decode cX6_link 161 = .ok (.aload_n 0, 1) := by decide +kernel
theorem dX6_link_162 : decode cX6_link 162 = .ok (.getfield 66, 3) := by decide +kernel
theorem dX6_link_165 : decode cX6_link 165 = .ok (.iload 5, 2) := by decide +kernel
theorem dX6_link_167 : decode cX6_link 167 = .ok (.iconst 0, 1) := by decide +kernel
theorem dX6_link_168 : decode cX6_link 168 = .ok (.iastore, 1) := by decide +kernel
theorem dX6_link_169 : decode cX6_link 169 = .ok (.aload_n 0, 1) := by decide +kernel
theorem dX6_link_170 : decode cX6_link 170 = .ok (.getfield 69, 3) := by decide +kernel
theorem dX6_link_173 : decode cX6_link 173 = .ok (.iload 5, 2) := by decide +kernel
theorem dX6_link_175 : decode cX6_link 175 = .ok (.iconst 0, 1) := by decide +kernel
theorem dX6_link_176 : decode cX6_link 176 = .ok (.iastore, 1) := by decide +kernel
theorem dX6_link_177 : decode cX6_link 177 = .ok (.aload_n 0, 1) := by decide +kernel
theorem dX6_link_178 : decode cX6_link 178 = .ok (.getfield 72, 3) := by decide +kernel
theorem dX6_link_181 : decode cX6_link 181 = .ok (.iload 5, 2) := by decide +kernel
theorem dX6_link_183 : decode cX6_link 183 = .ok (.iconst 0, 1) := by decide +kernel
theorem dX6_link_184 : decode cX6_link 184 = .ok (.iastore, 1) := by decide +kernel
theorem dX6_link_185 : decode cX6_link 185 = .ok (.aload_n 0, 1) := by decide +kernel
theorem dX6_link_186 : decode cX6_link 186 = .ok (.getfield 75, 3) := by decide +kernel
theorem dX6_link_189 : decode cX6_link 189 = .ok (.iload 5, 2) := by decide +kernel
theorem dX6_link_191 : decode cX6_link 191 = .ok (.iconst 0, 1) := by decide +kernel
theorem dX6_link_192 : decode cX6_link 192 = .ok (.iastore, 1) := by decide +kernel
theorem dX6_link_193 : decode cX6_link 193 = .ok (.iinc 5 1, 3) := by decide +kernel
theorem dX6_link_196 : decode cX6_link 196 = .ok (.goto (-75), 3) := by decide +kernel
theorem dX6_link_199 : decode cX6_link 199 = .ok (.return_, 1) := by decide +kernel
theorem dX6_isChannel_0 : decode cX6_isChannel 0 = .ok (.iload_n 1, 1) := by decide +kernel
theorem dX6_isChannel_1 : decode cX6_isChannel 1 = .ok (.ifCond .lt 15, 3) := by decide +kernel
theorem dX6_isChannel_4 : decode cX6_isChannel 4 = .ok (.iload_n 1, 1) := by decide +kernel
theorem dX6_isChannel_5 : decode cX6_isChannel 5 = .ok (.aload_n 0, 1) := by decide +kernel
theorem dX6_isChannel_6 : decode cX6_isChannel 6 = .ok (.getfield 96, 3) := by decide +kernel
theorem dX6_isChannel_9 : decode cX6_isChannel 9 = .ok (.if_icmp .ge 7, 3) := by decide +kernel
theorem dX6_isChannel_12 : decode cX6_isChannel 12 = .ok (.iconst 1, 1) := by decide +kernel
theorem dX6_isChannel_13 : decode cX6_isChannel 13 = .ok (.goto 4, 3) := by decide +kernel
theorem dX6_isChannel_16 : decode cX6_isChannel 16 = .ok (.iconst 0, 1) := by decide +kernel
theorem dX6_isChannel_17 : decode cX6_isChannel 17 = .ok (.ireturn, 1) := by decide +kernel
theorem dX6_depth_0 : decode cX6_depth 0 = .ok (.aload_n 0, 1) := by decide +kernel
theorem dX6_depth_1 : decode cX6_depth 1 = .ok (.aload_n 0, 1) := by decide +kernel
theorem dX6_depth_2 : decode cX6_depth 2 = .ok (.iload_n 1, 1) := by decide +kernel
theorem dX6_depth_3 : decode cX6_depth 3 = .ok (.invokevirtual 132, 3) := by decide +kernel
theorem dX6_depth_6 : decode cX6_depth 6 = .ok (.ifCond .eq 13, 3) := by decide +kernel
theorem dX6_depth_9 : decode cX6_depth 9 = .ok (.iload_n 2, 1) := by decide +kernel
theorem dX6_depth_10 : decode cX6_depth 10 = .ok (.iconst 1, 1) := by decide +kernel
theorem dX6_depth_11 : decode cX6_depth 11 = .ok (.bipush 16, 2) := by decide +kernel
theorem dX6_depth_13 : decode cX6_depth 13 = .ok (.invokestatic 92, 3) := by decide +kernel
theorem dX6_depth_16 : decode cX6_depth 16 = .ok (.ifCond .ne 7, 3) := by decide +kernel
theorem dX6_depth_19 : decode cX6_depth 19 = .ok (.iconst 1, 1) := by decide +kernel
theorem dX6_depth_20 : decode cX6_depth 20 = .ok (.goto 15, 3) := by decide +kernel
theorem dX6_depth_23 : decode cX6_depth 23 = .ok (.aload_n 0, 1) := by decide +kernel
theorem dX6_depth_24 : decode cX6_depth 24 = .ok (.getfield 114, 3) := by decide +kernel
theorem dX6_depth_27 : decode cX6_depth 27 = .ok (.ifCond .eq 7, 3) := by decide +kernel
theorem dX6_depth_30 : decode cX6_depth 30 = .ok (.iconst 2, 1) := by decide +kernel
theorem dX6_depth_31 : decode cX6_depth 31 = .ok (.goto 4, 3) := by decide +kernel
theorem dX6_depth_34 : decode cX6_depth 34 = .ok (.iconst 0, 1) := by decide +kernel
theorem dX6_depth_35 : decode cX6_depth 35 = .ok (.putfield 88, 3) := by decide +kernel
theorem dX6_depth_38 : decode cX6_depth 38 = .ok (.aload_n 0, 1) := by decide +kernel
theorem dX6_depth_39 : decode cX6_depth 39 = .ok (.getfield 88, 3) := by decide +kernel
theorem dX6_depth_42 : decode cX6_depth 42 = .ok (.ifCond .le 5, 3) := by decide +kernel
theorem dX6_depth_45 : decode cX6_depth 45 = .ok (.iconst 0, 1) := by decide +kernel
theorem dX6_depth_46 : decode cX6_depth 46 = .ok (.ireturn, 1) := by decide +kernel
theorem dX6_depth_47 : decode cX6_depth 47 = .ok (.aload_n 0, 1) := by decide +kernel
theorem dX6_depth_48 : decode cX6_depth 48 = .ok (.getfield 9, 3) := by decide +kernel
theorem dX6_depth_51 : decode cX6_depth 51 = .ok (.iload_n 1, 1) := by decide +kernel
theorem dX6_depth_52 : decode cX6_depth 52 = .ok (.iaload, 1) := by decide +kernel
theorem dX6_depth_53 : decode cX6_depth 53 = .ok (.istore_n 3, 1) := by decide +kernel
theorem dX6_depth_54 : decode cX6_depth 54 = .ok (.aload_n 0, 1) := by decide +kernel
theorem dX6_depth_55 : decode cX6_depth 55 = .ok (.getfield 9, 3) := by decide +kernel
theorem dX6_depth_58 : decode cX6_depth 58 = .ok (.iload_n 1, 1) := by decide +kernel
theorem dX6_depth_59 : decode cX6_depth 59 = .ok (.iload_n 2, 1) := by decide +kernel
theorem dX6_depth_60 : decode cX6_depth 60 = .ok (.iastore, 1) := by decide +kernel
theorem dX6_depth_61 : decode cX6_depth 61 = .ok (.iload_n 3, 1) := by decide +kernel
theorem dX6_depth_62 : decode cX6_depth 62 = .ok (.ireturn, 1) := by decide +kernel
theorem dX6_weight_0 : decode cX6_weight 0 = .ok (.aload_n 0, 1) := by decide +kernel
theorem dX6_weight_1 : decode cX6_weight 1 = .ok (.aload_n 0, 1) := by decide +kernel
theorem dX6_weight_2 : decode cX6_weight 2 = .ok (.iload_n 1, 1) := by decide +kernel
theorem dX6_weight_3 : decode cX6_weight 3 = .ok (.invokevirtual 132, 3) := by decide +kernel
theorem dX6_weight_6 : decode cX6_weight 6 = .ok (.ifCond .eq 13, 3) := by decide +kernel
theorem dX6_weight_9 : decode cX6_weight 9 = .ok (.iload_n 2, 1) := by decide +kernel
theorem dX6_weight_10 : decode cX6_weight 10 = .ok (.iconst 1, 1) := by decide +kernel
theorem dX6_weight_11 : decode cX6_weight 11 = .ok (.bipush 15, 2) := by decide +kernel
theorem dX6_weight_13 : decode cX6_weight 13 = .ok (.invokestatic 92, 3) := by decide +kernel
theorem dX6_weight_16 : decode cX6_weight 16 = .ok (.ifCond .ne 7, 3) := by decide +kernel
theorem dX6_weight_19 : decode cX6_weight 19 = .ok (.iconst 1, 1) := by decide +kernel
theorem dX6_weight_20 : decode cX6_weight 20 = .ok (.goto 4, 3) := by decide +kernel
theorem dX6_weight_23 : decode cX6_weight 23 = .ok (.iconst 0, 1) := by decide +kernel
theorem dX6_weight_24 : decode cX6_weight 24 = .ok (.putfield 88, 3) := by decide +kernel
theorem dX6_weight_27 : decode cX6_weight 27 = .ok (.aload_n 0, 1) := by decide +kernel
theorem dX6_weight_28 : decode cX6_weight 28 = .ok (.getfield 88, 3) := by decide +kernel
theorem dX6_weight_31 : decode cX6_weight 31 = .ok (.ifCond .le 5, 3) := by decide +kernel
theorem dX6_weight_34 : decode cX6_weight 34 = .ok (.iconst 0, 1) := by decide +kernel
theorem dX6_weight_35 : decode cX6_weight 35 = .ok (.ireturn, 1) := by decide +kernel
theorem dX6_weight_36 : decode cX6_weight 36 = .ok (.aload_n 0, 1) := by decide +kernel
theorem dX6_weight_37 : decode cX6_weight 37 = .ok (.getfield 13, 3) := by decide +kernel
theorem dX6_weight_40 : decode cX6_weight 40 = .ok (.iload_n 1, 1) := by decide +kernel
theorem dX6_weight_41 : decode cX6_weight 41 = .ok (.iaload, 1) := by decide +kernel
theorem dX6_weight_42 : decode cX6_weight 42 = .ok (.istore_n 3, 1) := by decide +kernel
theorem dX6_weight_43 : decode cX6_weight 43 = .ok (.aload_n 0, 1) := by decide +kernel
theorem dX6_weight_44 : decode cX6_weight 44 = .ok (.getfield 13, 3) := by decide +kernel
theorem dX6_weight_47 : decode cX6_weight 47 = .ok (.iload_n 1, 1) := by decide +kernel
theorem dX6_weight_48 : decode cX6_weight 48 = .ok (.iload_n 2, 1) := by decide +kernel
theorem dX6_weight_49 : decode cX6_weight 49 = .ok (.iastore, 1) := by decide +kernel
theorem dX6_weight_50 : decode cX6_weight 50 = .ok (.iload_n 3, 1) := by decide +kernel
theorem dX6_weight_51 : decode cX6_weight 51 = .ok (.ireturn, 1) := by decide +kernel
theorem dX6_arbiter_0 : decode cX6_arbiter 0 = .ok (.aload_n 0, 1) := by decide +kernel
theorem dX6_arbiter_1 : decode cX6_arbiter 1 = .ok (.iload_n 1, 1) := by decide +kernel
theorem dX6_arbiter_2 : decode cX6_arbiter 2 = .ok (.iconst 0, 1) := by decide +kernel
theorem dX6_arbiter_3 : decode cX6_arbiter 3 = .ok (.iconst 3, 1) := by decide +kernel
theorem dX6_arbiter_4 : decode cX6_arbiter 4 = .ok (.invokestatic 92, 3) := by decide +kernel
theorem dX6_arbiter_7 : decode cX6_arbiter 7 = .ok (.ifCond .eq 7, 3) := by decide +kernel
theorem dX6_arbiter_10 : decode cX6_arbiter 10 = .ok (.iconst 0, 1) := by decide +kernel
theorem dX6_arbiter_11 : decode cX6_arbiter 11 = .ok (.goto 4, 3) := by decide +kernel
theorem dX6_arbiter_14 : decode cX6_arbiter 14 = .ok (.iconst 1, 1) := by decide +kernel
theorem dX6_arbiter_15 : decode cX6_arbiter 15 = .ok (.putfield 88, 3) := by decide +kernel
theorem dX6_arbiter_18 : decode cX6_arbiter 18 = .ok (.aload_n 0, 1) := by decide +kernel
theorem dX6_arbiter_19 : decode cX6_arbiter 19 = .ok (.getfield 88, 3) := by decide +kernel
theorem dX6_arbiter_22 : decode cX6_arbiter 22 = .ok (.ifCond .le 5, 3) := by decide +kernel
theorem dX6_arbiter_25 : decode cX6_arbiter 25 = .ok (.iconst 0, 1) := by decide +kernel
theorem dX6_arbiter_26 : decode cX6_arbiter 26 = .ok (.ireturn, 1) := by decide +kernel
theorem dX6_arbiter_27 : decode cX6_arbiter 27 = .ok (.aload_n 0, 1) := by decide +kernel
theorem dX6_arbiter_28 : decode cX6_arbiter 28 = .ok (.getfield 105, 3) := by decide +kernel
theorem dX6_arbiter_31 : decode cX6_arbiter 31 = .ok (.istore_n 2, 1) := by decide +kernel
theorem dX6_arbiter_32 : decode cX6_arbiter 32 = .ok (.aload_n 0, 1) := by decide +kernel
theorem dX6_arbiter_33 : decode cX6_arbiter 33 = .ok (.iload_n 1, 1) := by decide +kernel
theorem dX6_arbiter_34 : decode cX6_arbiter 34 = .ok (.putfield 105, 3) := by decide +kernel
theorem dX6_arbiter_37 : decode cX6_arbiter 37 = .ok (.iload_n 2, 1) := by decide +kernel
theorem dX6_arbiter_38 : decode cX6_arbiter 38 = .ok (.ireturn, 1) := by decide +kernel
theorem dX6_mask_0 : decode cX6_mask 0 = .ok (.aload_n 0, 1) := by decide +kernel
theorem dX6_mask_1 : decode cX6_mask 1 = .ok (.aload_n 0, 1) := by decide +kernel
theorem dX6_mask_2 : decode cX6_mask 2 = .ok (.getfield 108, 3) := by decide +kernel
theorem dX6_mask_5 : decode cX6_mask 5 = .ok (.bipush 32, 2) := by decide +kernel
theorem dX6_mask_7 : decode cX6_mask 7 = .ok (.if_icmp .ne 7, 3) := by decide +kernel
theorem dX6_mask_10 : decode cX6_mask 10 = .ok (.iconst 1, 1) := by decide +kernel
theorem dX6_mask_11 : decode cX6_mask 11 = .ok (.goto 4, 3) := by decide +kernel
theorem dX6_mask_14 : decode cX6_mask 14 = .ok (.iconst 0, 1) := by decide +kernel
theorem dX6_mask_15 : decode cX6_mask 15 = .ok (.putfield 88, 3) := by decide +kernel
theorem dX6_mask_18 : decode cX6_mask 18 = .ok (.aload_n 0, 1) := by decide +kernel
theorem dX6_mask_19 : decode cX6_mask 19 = .ok (.getfield 88, 3) := by decide +kernel
theorem dX6_mask_22 : decode cX6_mask 22 = .ok (.ifCond .le 5, 3) := by decide +kernel
theorem dX6_mask_25 : decode cX6_mask 25 = .ok (.iconst 0, 1) := by decide +kernel
theorem dX6_mask_26 : decode cX6_mask 26 = .ok (.ireturn, 1) := by decide +kernel
theorem dX6_mask_27 : decode cX6_mask 27 = .ok (.aload_n 0, 1) := by decide +kernel
theorem dX6_mask_28 : decode cX6_mask 28 = .ok (.getfield 16, 3) := by decide +kernel
theorem dX6_mask_31 : decode cX6_mask 31 = .ok (.aload_n 0, 1) := by decide +kernel
theorem dX6_mask_32 : decode cX6_mask 32 = .ok (.getfield 108, 3) := by decide +kernel
theorem dX6_mask_35 : decode cX6_mask 35 = .ok (.iload_n 1, 1) := by decide +kernel
theorem dX6_mask_36 : decode cX6_mask 36 = .ok (.iastore, 1) := by decide +kernel
theorem dX6_mask_37 : decode cX6_mask 37 = .ok (.aload_n 0, 1) := by decide +kernel
theorem dX6_mask_38 : decode cX6_mask 38 = .ok (.dup, 1) := by decide +kernel
theorem dX6_mask_39 : decode cX6_mask 39 = .ok (.getfield 108, 3) := by decide +kernel
theorem dX6_mask_42 : decode cX6_mask 42 = .ok (.iconst 1, 1) := by decide +kernel
theorem dX6_mask_43 : decode cX6_mask 43 = .ok (.iadd, 1) := by decide +kernel
theorem dX6_mask_44 : decode cX6_mask 44 = .ok (.putfield 108, 3) := by decide +kernel
theorem dX6_mask_47 : decode cX6_mask 47 = .ok (.aload_n 0, 1) := by decide +kernel
theorem dX6_mask_48 : decode cX6_mask 48 = .ok (.getfield 108, 3) := by decide +kernel
theorem dX6_mask_51 : decode cX6_mask 51 = .ok (.ireturn, 1) := by decide +kernel
theorem dX6_free_0 : decode cX6_free 0 = .ok (.aload_n 0, 1) := by decide +kernel
theorem dX6_free_1 : decode cX6_free 1 = .ok (.iconst 0, 1) := by decide +kernel
theorem dX6_free_2 : decode cX6_free 2 = .ok (.putfield 88, 3) := by decide +kernel
theorem dX6_free_5 : decode cX6_free 5 = .ok (.aload_n 0, 1) := by decide +kernel
theorem dX6_free_6 : decode cX6_free 6 = .ok (.getfield 108, 3) := by decide +kernel
theorem dX6_free_9 : decode cX6_free 9 = .ok (.istore_n 1, 1) := by decide +kernel
theorem dX6_free_10 : decode cX6_free 10 = .ok (.aload_n 0, 1) := by decide +kernel
theorem dX6_free_11 : decode cX6_free 11 = .ok (.iconst 0, 1) := by decide +kernel
theorem dX6_free_12 : decode cX6_free 12 = .ok (.putfield 108, 3) := by decide +kernel
theorem dX6_free_15 : decode cX6_free 15 = .ok (.iload_n 1, 1) := by decide +kernel
theorem dX6_free_16 : decode cX6_free 16 = .ok (.ireturn, 1) := by decide +kernel
theorem dX6_feed_0 : decode cX6_feed 0 = .ok (.aload_n 0, 1) := by decide +kernel
theorem dX6_feed_1 : decode cX6_feed 1 = .ok (.iload_n 1, 1) := by decide +kernel
theorem dX6_feed_2 : decode cX6_feed 2 = .ok (.iconst 1, 1) := by decide +kernel
theorem dX6_feed_3 : decode cX6_feed 3 = .ok (.bipush 16, 2) := by decide +kernel
theorem dX6_feed_5 : decode cX6_feed 5 = .ok (.invokestatic 92, 3) := by decide +kernel
theorem dX6_feed_8 : decode cX6_feed 8 = .ok (.ifCond .ne 7, 3) := by decide +kernel
theorem dX6_feed_11 : decode cX6_feed 11 = .ok (.iconst 1, 1) := by decide +kernel
theorem dX6_feed_12 : decode cX6_feed 12 = .ok (.goto 19, 3) := by decide +kernel
theorem dX6_feed_15 : decode cX6_feed 15 = .ok (.aload_n 0, 1) := by decide +kernel
theorem dX6_feed_16 : decode cX6_feed 16 = .ok (.getfield 136, 3) := by decide +kernel
theorem dX6_feed_19 : decode cX6_feed 19 = .ok (.iload_n 1, 1) := by decide +kernel
theorem dX6_feed_20 : decode cX6_feed 20 = .ok (.iadd, 1) := by decide +kernel
theorem dX6_feed_21 : decode cX6_feed 21 = .ok (.bipush 60, 2) := by decide +kernel
theorem dX6_feed_23 : decode cX6_feed 23 = .ok (.if_icmp .le 7, 3) := by decide +kernel
theorem dX6_feed_26 : decode cX6_feed 26 = .ok (.iconst 2, 1) := by decide +kernel
theorem dX6_feed_27 : decode cX6_feed 27 = .ok (.goto 4, 3) := by decide +kernel
theorem dX6_feed_30 : decode cX6_feed 30 = .ok (.iconst 0, 1) := by decide +kernel
theorem dX6_feed_31 : decode cX6_feed 31 = .ok (.putfield 88, 3) := by decide +kernel
theorem dX6_feed_34 : decode cX6_feed 34 = .ok (.aload_n 0, 1) := by decide +kernel
theorem dX6_feed_35 : decode cX6_feed 35 = .ok (.getfield 88, 3) := by decide +kernel
theorem dX6_feed_38 : decode cX6_feed 38 = .ok (.ifCond .le 5, 3) := by decide +kernel
theorem dX6_feed_41 : decode cX6_feed 41 = .ok (.iconst 0, 1) := by decide +kernel
theorem dX6_feed_42 : decode cX6_feed 42 = .ok (.ireturn, 1) := by decide +kernel
theorem dX6_feed_43 : decode cX6_feed 43 = .ok (.iconst 0, 1) := by decide +kernel
theorem dX6_feed_44 : decode cX6_feed 44 = .ok (.istore 6, 2) := by decide +kernel
theorem dX6_feed_46 : decode cX6_feed 46 = .ok (.iload 6, 2) := by decide +kernel
theorem dX6_feed_48 : decode cX6_feed 48 = .ok (.iload_n 1, 1) := by decide +kernel
theorem dX6_feed_49 : decode cX6_feed 49 = .ok (.if_icmp .ge 58, 3) := by decide +kernel
theorem dX6_feed_52 : decode cX6_feed 52 = .ok (.aload_n 0, 1) := by decide +kernel
theorem dX6_feed_53 : decode cX6_feed 53 = .ok (.getfield 78, 3) := by decide +kernel
theorem dX6_feed_56 : decode cX6_feed 56 = .ok (.aload_n 0, 1) := by decide +kernel
theorem dX6_feed_57 : decode cX6_feed 57 = .ok (.getfield 136, 3) := by decide +kernel
theorem dX6_feed_60 : decode cX6_feed 60 = .ok (.iload 6, 2) := by decide +kernel
theorem dX6_feed_62 : decode cX6_feed 62 = .ok (.bipush 8, 2) := by decide +kernel
theorem dX6_feed_64 : decode cX6_feed 64 = .ok (.if_icmp .ge 13, 3) := by decide +kernel
theorem dX6_feed_67 : decode cX6_feed 67 = .ok (.lload_n 2, 1) := by decide +kernel
theorem dX6_feed_68 : decode cX6_feed 68 = .ok (.bipush 8, 2) := by decide +kernel
theorem dX6_feed_70 : decode cX6_feed 70 = .ok (.iload 6, 2) := by decide +kernel
theorem dX6_feed_72 : decode cX6_feed 72 = .ok (.imul, 1) := by decide +kernel
theorem dX6_feed_73 : decode cX6_feed 73 = .ok (.lshr, 1) := by decide +kernel
theorem dX6_feed_74 : decode cX6_feed 74 = .ok (.goto 14, 3) := by decide +kernel
theorem dX6_feed_77 : decode cX6_feed 77 = .ok (.lload 4, 2) := by decide +kernel
theorem dX6_feed_79 : decode cX6_feed 79 = .ok (.bipush 8, 2) := by decide +kernel
theorem dX6_feed_81 : decode cX6_feed 81 = .ok (.iload 6, 2) := by decide +kernel
theorem dX6_feed_83 : decode cX6_feed 83 = .ok (.bipush 8, 2) := by decide +kernel
theorem dX6_feed_85 : decode cX6_feed 85 = .ok (.isub, 1) := by decide +kernel
theorem dX6_feed_86 : decode cX6_feed 86 = .ok (.imul, 1) := by decide +kernel
theorem dX6_feed_87 : decode cX6_feed 87 = .ok (.lshr, 1) := by decide +kernel
theorem dX6_feed_88 : decode cX6_feed 88 = .ok (.l2i, 1) := by decide +kernel
theorem dX6_feed_89 : decode cX6_feed 89 = .ok (.i2b, 1) := by decide +kernel
theorem dX6_feed_90 : decode cX6_feed 90 = .ok (.bastore, 1) := by decide +kernel
theorem dX6_feed_91 : decode cX6_feed 91 = .ok (.aload_n 0, 1) := by decide +kernel
theorem dX6_feed_92 : decode cX6_feed 92 = .ok (.dup, 1) := by decide +kernel
theorem dX6_feed_93 : decode cX6_feed 93 = .ok (.getfield 136, 3) := by decide +kernel
theorem dX6_feed_96 : decode cX6_feed 96 = .ok (.iconst 1, 1) := by decide +kernel
theorem dX6_feed_97 : decode cX6_feed 97 = .ok (.iadd, 1) := by decide +kernel
theorem dX6_feed_98 : decode cX6_feed 98 = .ok (.putfield 136, 3) := by decide +kernel
theorem dX6_feed_101 : decode cX6_feed 101 = .ok (.iinc 6 1, 3) := by decide +kernel
theorem dX6_feed_104 : decode cX6_feed 104 = .ok (.goto (-58), 3) := by decide +kernel
theorem dX6_feed_107 : decode cX6_feed 107 = .ok (.aload_n 0, 1) := by decide +kernel
theorem dX6_feed_108 : decode cX6_feed 108 = .ok (.getfield 136, 3) := by decide +kernel
theorem dX6_feed_111 : decode cX6_feed 111 = .ok (.ireturn, 1) := by decide +kernel
theorem dX6_flitsOf_0 : decode cX6_flitsOf 0 = .ok (.iload_n 0, 1) := by decide +kernel
theorem dX6_flitsOf_1 : decode cX6_flitsOf 1 = .ok (.ifCond .ne 7, 3) := by decide +kernel
theorem dX6_flitsOf_4 : decode cX6_flitsOf 4 = .ok (.iconst 1, 1) := by decide +kernel
theorem dX6_flitsOf_5 : decode cX6_flitsOf 5 = .ok (.goto 8, 3) := by decide +kernel
theorem dX6_flitsOf_8 : decode cX6_flitsOf 8 = .ok (.iload_n 0, 1) := by decide +kernel
theorem dX6_flitsOf_9 : decode cX6_flitsOf 9 = .ok (.iconst 3, 1) := by decide +kernel
theorem dX6_flitsOf_10 : decode cX6_flitsOf 10 = .ok (.iadd, 1) := by decide +kernel
theorem dX6_flitsOf_11 : decode cX6_flitsOf 11 = .ok (.iconst 4, 1) := by decide +kernel
theorem dX6_flitsOf_12 : decode cX6_flitsOf 12 = .ok (.idiv, 1) := by decide +kernel
theorem dX6_flitsOf_13 : decode cX6_flitsOf 13 = .ok (.ireturn, 1) := by decide +kernel
theorem dX6_flitBytes_0 : decode cX6_flitBytes 0 = .ok (.iconst 4, 1) := by decide +kernel
theorem dX6_flitBytes_1 : decode cX6_flitBytes 1 = .ok (.aload_n 0, 1) := by decide +kernel
theorem dX6_flitBytes_2 : decode cX6_flitBytes 2 = .ok (.getfield 22, 3) := by decide +kernel
theorem dX6_flitBytes_5 : decode cX6_flitBytes 5 = .ok (.aload_n 0, 1) := by decide +kernel
theorem dX6_flitBytes_6 : decode cX6_flitBytes 6 = .ok (.getfield 48, 3) := by decide +kernel
theorem dX6_flitBytes_9 : decode cX6_flitBytes 9 = .ok (.sipush 4000, 3) := by decide +kernel
theorem dX6_flitBytes_12 : decode cX6_flitBytes 12 = .ok (.iload_n 1, 1) := by decide +kernel
theorem dX6_flitBytes_13 : decode cX6_flitBytes 13 = .ok (.imul, 1) := by decide +kernel
theorem dX6_flitBytes_14 : decode cX6_flitBytes 14 = .ok (.iload_n 2, 1) := by decide +kernel
theorem dX6_flitBytes_15 : decode cX6_flitBytes 15 = .ok (.iadd, 1) := by decide +kernel
theorem dX6_flitBytes_16 : decode cX6_flitBytes 16 = .ok (.iaload, 1) := by decide +kernel
theorem dX6_flitBytes_17 : decode cX6_flitBytes 17 = .ok (.iaload, 1) := by decide +kernel
theorem dX6_flitBytes_18 : decode cX6_flitBytes 18 = .ok (.iconst 4, 1) := by decide +kernel
theorem dX6_flitBytes_19 : decode cX6_flitBytes 19 = .ok (.aload_n 0, 1) := by decide +kernel
theorem dX6_flitBytes_20 : decode cX6_flitBytes 20 = .ok (.getfield 51, 3) := by decide +kernel
theorem dX6_flitBytes_23 : decode cX6_flitBytes 23 = .ok (.sipush 4000, 3) := by decide +kernel
theorem dX6_flitBytes_26 : decode cX6_flitBytes 26 = .ok (.iload_n 1, 1) := by decide +kernel
theorem dX6_flitBytes_27 : decode cX6_flitBytes 27 = .ok (.imul, 1) := by decide +kernel
theorem dX6_flitBytes_28 : decode cX6_flitBytes 28 = .ok (.iload_n 2, 1) := by decide +kernel
theorem dX6_flitBytes_29 : decode cX6_flitBytes 29 = .ok (.iadd, 1) := by decide +kernel
theorem dX6_flitBytes_30 : decode cX6_flitBytes 30 = .ok (.iaload, 1) := by decide +kernel
theorem dX6_flitBytes_31 : decode cX6_flitBytes 31 = .ok (.imul, 1) := by decide +kernel
theorem dX6_flitBytes_32 : decode cX6_flitBytes 32 = .ok (.isub, 1) := by decide +kernel
theorem dX6_flitBytes_33 : decode cX6_flitBytes 33 = .ok (.invokestatic 139, 3) := by decide +kernel
theorem dX6_flitBytes_36 : decode cX6_flitBytes 36 = .ok (.ireturn, 1) := by decide +kernel
theorem dX6_offer_0 : decode cX6_offer 0 = .ok (.aload_n 0, 1) := by decide +kernel
theorem dX6_offer_1 : decode cX6_offer 1 = .ok (.getfield 136, 3) := by decide +kernel
theorem dX6_offer_4 : decode cX6_offer 4 = .ok (.istore_n 2, 1) := by decide +kernel
theorem dX6_offer_5 : decode cX6_offer 5 = .ok (.aload_n 0, 1) := by decide +kernel
theorem dX6_offer_6 : decode cX6_offer 6 = .ok (.iconst 0, 1) := by decide +kernel
theorem dX6_offer_7 : decode cX6_offer 7 = .ok (.putfield 136, 3) := by decide +kernel
theorem dX6_offer_10 : decode cX6_offer 10 = .ok (.aload_n 0, 1) := by decide +kernel
theorem dX6_offer_11 : decode cX6_offer 11 = .ok (.aload_n 0, 1) := by decide +kernel
theorem dX6_offer_12 : decode cX6_offer 12 = .ok (.iload_n 1, 1) := by decide +kernel
theorem dX6_offer_13 : decode cX6_offer 13 = .ok (.invokevirtual 132, 3) := by decide +kernel
theorem dX6_offer_16 : decode cX6_offer 16 = .ok (.ifCond .ne 7, 3) := by decide +kernel
theorem dX6_offer_19 : decode cX6_offer 19 = .ok (.iconst 1, 1) := by decide +kernel
theorem dX6_offer_20 : decode cX6_offer 20 = .ok (.goto 18, 3) := by decide +kernel
theorem dX6_offer_23 : decode cX6_offer 23 = .ok (.aload_n 0, 1) := by decide +kernel
theorem dX6_offer_24 : decode cX6_offer 24 = .ok (.getfield 111, 3) := by decide +kernel
theorem dX6_offer_27 : decode cX6_offer 27 = .ok (.sipush 250, 3) := by decide +kernel
theorem dX6_offer_30 : decode cX6_offer 30 = .ok (.if_icmp .ne 7, 3) := by decide +kernel
theorem dX6_offer_33 : decode cX6_offer 33 = .ok (.iconst 2, 1) := by decide +kernel
theorem dX6_offer_34 : decode cX6_offer 34 = .ok (.goto 4, 3) := by decide +kernel
theorem dX6_offer_37 : decode cX6_offer 37 = .ok (.iconst 0, 1) := by decide +kernel
theorem dX6_offer_38 : decode cX6_offer 38 = .ok (.putfield 88, 3) := by decide +kernel
theorem dX6_offer_41 : decode cX6_offer 41 = .ok (.aload_n 0, 1) := by decide +kernel
theorem dX6_offer_42 : decode cX6_offer 42 = .ok (.getfield 88, 3) := by decide +kernel
theorem dX6_offer_45 : decode cX6_offer 45 = .ok (.ifCond .le 5, 3) := by decide +kernel
theorem dX6_offer_48 : decode cX6_offer 48 = .ok (.iconst 0, 1) := by decide +kernel
theorem dX6_offer_49 : decode cX6_offer 49 = .ok (.ireturn, 1) := by decide +kernel
theorem dX6_offer_50 : decode cX6_offer 50 = .ok (.aload_n 0, 1) := by decide +kernel
theorem dX6_offer_51 : decode cX6_offer 51 = .ok (.getfield 111, 3) := by decide +kernel
theorem dX6_offer_54 : decode cX6_offer 54 = .ok (.istore_n 3, 1) := by decide +kernel
theorem dX6_offer_55 : decode cX6_offer 55 = .ok (.aload_n 0, 1) := by decide +kernel
theorem dX6_offer_56 : decode cX6_offer 56 = .ok (.dup, 1) := by decide +kernel
theorem dX6_offer_57 : decode cX6_offer 57 = .ok (.getfield 111, 3) := by decide +kernel
theorem dX6_offer_60 : decode cX6_offer 60 = .ok (.iconst 1, 1) := by decide +kernel
theorem dX6_offer_61 : decode cX6_offer 61 = .ok (.iadd, 1) := by decide +kernel
theorem dX6_offer_62 : decode cX6_offer 62 = .ok (.putfield 111, 3) := by decide +kernel
theorem dX6_offer_65 : decode cX6_offer 65 = .ok (.aload_n 0, 1) := by decide +kernel
theorem dX6_offer_66 : decode cX6_offer 66 = .ok (.getfield 19, 3) := by decide +kernel
theorem dX6_offer_69 : decode cX6_offer 69 = .ok (.iload_n 3, 1) := by decide +kernel
theorem dX6_offer_70 : decode cX6_offer 70 = .ok (.iload_n 1, 1) := by decide +kernel
theorem dX6_offer_71 : decode cX6_offer 71 = .ok (.iastore, 1) := by decide +kernel
theorem dX6_offer_72 : decode cX6_offer 72 = .ok (.aload_n 0, 1) := by decide +kernel
theorem dX6_offer_73 : decode cX6_offer 73 = .ok (.getfield 22, 3) := by decide +kernel
theorem dX6_offer_76 : decode cX6_offer 76 = .ok (.iload_n 3, 1) := by decide +kernel
theorem dX6_offer_77 : decode cX6_offer 77 = .ok (.iload_n 2, 1) := by decide +kernel
theorem dX6_offer_78 : decode cX6_offer 78 = .ok (.iastore, 1) := by decide +kernel
theorem dX6_offer_79 : decode cX6_offer 79 = .ok (.iconst 0, 1) := by decide +kernel
theorem dX6_offer_80 : decode cX6_offer 80 = .ok (.istore 4, 2) := by decide +kernel
theorem dX6_offer_82 : decode cX6_offer 82 = .ok (.iload 4, 2) := by decide +kernel
theorem dX6_offer_84 : decode cX6_offer 84 = .ok (.iload_n 2, 1) := by decide +kernel
theorem dX6_offer_85 : decode cX6_offer 85 = .ok (.if_icmp .ge 28, 3) := by decide +kernel
theorem dX6_offer_88 : decode cX6_offer 88 = .ok (.aload_n 0, 1) := by decide +kernel
theorem dX6_offer_89 : decode cX6_offer 89 = .ok (.getfield 25, 3) := by decide +kernel
theorem dX6_offer_92 : decode cX6_offer 92 = .ok (.bipush 60, 2) := by decide +kernel
theorem dX6_offer_94 : decode cX6_offer 94 = .ok (.iload_n 3, 1) := by decide +kernel
theorem dX6_offer_95 : decode cX6_offer 95 = .ok (.imul, 1) := by decide +kernel
theorem dX6_offer_96 : decode cX6_offer 96 = .ok (.iload 4, 2) := by decide +kernel
theorem dX6_offer_98 : decode cX6_offer 98 = .ok (.iadd, 1) := by decide +kernel
theorem dX6_offer_99 : decode cX6_offer 99 = .ok (.aload_n 0, 1) := by decide +kernel
theorem dX6_offer_100 : decode cX6_offer 100 = .ok (.getfield 78, 3) := by decide +kernel
theorem dX6_offer_103 : decode cX6_offer 103 = .ok (.iload 4, 2) := by decide +kernel
theorem dX6_offer_105 : decode cX6_offer 105 = .ok (.baload, 1) := by decide +kernel
theorem dX6_offer_106 : decode cX6_offer 106 = .ok (.bastore, 1) := by decide +kernel
theorem dX6_offer_107 : decode cX6_offer 107 = .ok (.iinc 4 1, 3) := by decide +kernel
theorem dX6_offer_110 : decode cX6_offer 110 = .ok (.goto (-28), 3) := by decide +kernel
theorem dX6_offer_113 : decode cX6_offer 113 = .ok (.aload_n 0, 1) := by decide +kernel
theorem dX6_offer_114 : decode cX6_offer 114 = .ok (.getfield 29, 3) := by decide +kernel
theorem dX6_offer_117 : decode cX6_offer 117 = .ok (.iload_n 3, 1) := by decide +kernel
theorem dX6_offer_118 : decode cX6_offer 118 = .ok (.aload_n 0, 1) := by decide +kernel
theorem dX6_offer_119 : decode cX6_offer 119 = .ok (.getfield 114, 3) := by decide +kernel
theorem dX6_offer_122 : decode cX6_offer 122 = .ok (.iastore, 1) := by decide +kernel
theorem dX6_offer_123 : decode cX6_offer 123 = .ok (.aload_n 0, 1) := by decide +kernel
theorem dX6_offer_124 : decode cX6_offer 124 = .ok (.getfield 32, 3) := by decide +kernel
theorem dX6_offer_127 : decode cX6_offer 127 = .ok (.iload_n 3, 1) := by decide +kernel
theorem dX6_offer_128 : decode cX6_offer 128 = .ok (.iconst (-1), 1) := by decide +kernel
theorem dX6_offer_129 : decode cX6_offer 129 = .ok (.iastore, 1) := by decide +kernel
theorem dX6_offer_130 : decode cX6_offer 130 = .ok (.aload_n 0, 1) := by decide +kernel
theorem dX6_offer_131 : decode cX6_offer 131 = .ok (.getfield 35, 3) := by decide +kernel
theorem dX6_offer_134 : decode cX6_offer 134 = .ok (.iload_n 3, 1) := by decide +kernel
theorem dX6_offer_135 : decode cX6_offer 135 = .ok (.iconst (-1), 1) := by decide +kernel
theorem dX6_offer_136 : decode cX6_offer 136 = .ok (.iastore, 1) := by decide +kernel
theorem dX6_offer_137 : decode cX6_offer 137 = .ok (.aload_n 0, 1) := by decide +kernel
theorem dX6_offer_138 : decode cX6_offer 138 = .ok (.getfield 41, 3) := by decide +kernel
theorem dX6_offer_141 : decode cX6_offer 141 = .ok (.iload_n 3, 1) := by decide +kernel
theorem dX6_offer_142 : decode cX6_offer 142 = .ok (.iconst 0, 1) := by decide +kernel
theorem dX6_offer_143 : decode cX6_offer 143 = .ok (.bastore, 1) := by decide +kernel
theorem dX6_offer_144 : decode cX6_offer 144 = .ok (.aload_n 0, 1) := by decide +kernel
theorem dX6_offer_145 : decode cX6_offer 145 = .ok (.getfield 45, 3) := by decide +kernel
theorem dX6_offer_148 : decode cX6_offer 148 = .ok (.iload_n 3, 1) := by decide +kernel
theorem dX6_offer_149 : decode cX6_offer 149 = .ok (.iconst 1, 1) := by decide +kernel
theorem dX6_offer_150 : decode cX6_offer 150 = .ok (.bastore, 1) := by decide +kernel
theorem dX6_offer_151 : decode cX6_offer 151 = .ok (.iconst 0, 1) := by decide +kernel
theorem dX6_offer_152 : decode cX6_offer 152 = .ok (.istore 4, 2) := by decide +kernel
theorem dX6_offer_154 : decode cX6_offer 154 = .ok (.iload 4, 2) := by decide +kernel
theorem dX6_offer_156 : decode cX6_offer 156 = .ok (.iload_n 2, 1) := by decide +kernel
theorem dX6_offer_157 : decode cX6_offer 157 = .ok (.invokestatic 145, 3) := by decide +kernel
theorem dX6_offer_160 : decode cX6_offer 160 = .ok (.if_icmp .ge 50, 3) := by decide +kernel
theorem dX6_offer_163 : decode cX6_offer 163 = .ok (.sipush 4000, 3) := by decide +kernel
theorem dX6_offer_166 : decode cX6_offer 166 = .ok (.iload_n 1, 1) := by decide +kernel
theorem dX6_offer_167 : decode cX6_offer 167 = .ok (.imul, 1) := by decide +kernel
theorem dX6_offer_168 : decode cX6_offer 168 = .ok (.aload_n 0, 1) := by decide +kernel
theorem dX6_offer_169 : decode cX6_offer 169 = .ok (.getfield 60, 3) := by decide +kernel
theorem dX6_offer_172 : decode cX6_offer 172 = .ok (.iload_n 1, 1) := by decide +kernel
theorem dX6_offer_173 : decode cX6_offer 173 = .ok (.iaload, 1) := by decide +kernel
theorem dX6_offer_174 : decode cX6_offer 174 = .ok (.iadd, 1) := by decide +kernel
theorem dX6_offer_175 : decode cX6_offer 175 = .ok (.istore 5, 2) := by decide +kernel
theorem dX6_offer_177 : decode cX6_offer 177 = .ok (.aload_n 0, 1) := by decide +kernel
theorem dX6_offer_178 : decode cX6_offer 178 = .ok (.getfield 48, 3) := by decide +kernel
theorem dX6_offer_181 : decode cX6_offer 181 = .ok (.iload 5, 2) := by decide +kernel
theorem dX6_offer_183 : decode cX6_offer 183 = .ok (.iload_n 3, 1) := by decide +kernel
theorem dX6_offer_184 : decode cX6_offer 184 = .ok (.iastore, 1) := by decide +kernel
theorem dX6_offer_185 : decode cX6_offer 185 = .ok (.aload_n 0, 1) := by decide +kernel
theorem dX6_offer_186 : decode cX6_offer 186 = .ok (.getfield 51, 3) := by decide +kernel
theorem dX6_offer_189 : decode cX6_offer 189 = .ok (.iload 5, 2) := by decide +kernel
theorem dX6_offer_191 : decode cX6_offer 191 = .ok (.iload 4, 2) := by decide +kernel
theorem dX6_offer_193 : decode cX6_offer 193 = .ok (.iastore, 1) := by decide +kernel
theorem dX6_offer_194 : decode cX6_offer 194 = .ok (.aload_n 0, 1) := by decide +kernel
theorem dX6_offer_195 : decode cX6_offer 195 = .ok (.getfield 60, 3) := by decide +kernel
theorem dX6_offer_198 : decode cX6_offer 198 = .ok (.iload_n 1, 1) := by decide +kernel
theorem dX6_offer_199 : decode cX6_offer 199 = .ok (.dup2, 1) := by decide +kernel
theorem dX6_offer_200 : decode cX6_offer 200 = .ok (.iaload, 1) := by decide +kernel
theorem dX6_offer_201 : decode cX6_offer 201 = .ok (.iconst 1, 1) := by decide +kernel
theorem dX6_offer_202 : decode cX6_offer 202 = .ok (.iadd, 1) := by decide +kernel
theorem dX6_offer_203 : decode cX6_offer 203 = .ok (.iastore, 1) := by decide +kernel
theorem dX6_offer_204 : decode cX6_offer 204 = .ok (.iinc 4 1, 3) := by decide +kernel
theorem dX6_offer_207 : decode cX6_offer 207 = .ok (.goto (-53), 3) := by decide +kernel
theorem dX6_offer_210 : decode cX6_offer 210 = .ok (.aload_n 0, 1) := by decide +kernel
theorem dX6_offer_211 : decode cX6_offer 211 = .ok (.getfield 38, 3) := by decide +kernel
theorem dX6_offer_214 : decode cX6_offer 214 = .ok (.iload_n 3, 1) := by decide +kernel
theorem dX6_offer_215 : decode cX6_offer 215 = .ok (.aload_n 0, 1) := by decide +kernel
theorem dX6_offer_216 : decode cX6_offer 216 = .ok (.getfield 114, 3) := by decide +kernel
theorem dX6_offer_219 : decode cX6_offer 219 = .ok (.aload_n 0, 1) := by decide +kernel
theorem dX6_offer_220 : decode cX6_offer 220 = .ok (.getfield 99, 3) := by decide +kernel
theorem dX6_offer_223 : decode cX6_offer 223 = .ok (.iadd, 1) := by decide +kernel
theorem dX6_offer_224 : decode cX6_offer 224 = .ok (.aload_n 0, 1) := by decide +kernel
theorem dX6_offer_225 : decode cX6_offer 225 = .ok (.getfield 9, 3) := by decide +kernel
theorem dX6_offer_228 : decode cX6_offer 228 = .ok (.iload_n 1, 1) := by decide +kernel
theorem dX6_offer_229 : decode cX6_offer 229 = .ok (.iaload, 1) := by decide +kernel
theorem dX6_offer_230 : decode cX6_offer 230 = .ok (.iadd, 1) := by decide +kernel
theorem dX6_offer_231 : decode cX6_offer 231 = .ok (.aload_n 0, 1) := by decide +kernel
theorem dX6_offer_232 : decode cX6_offer 232 = .ok (.getfield 60, 3) := by decide +kernel
theorem dX6_offer_235 : decode cX6_offer 235 = .ok (.iload_n 1, 1) := by decide +kernel
theorem dX6_offer_236 : decode cX6_offer 236 = .ok (.iaload, 1) := by decide +kernel
theorem dX6_offer_237 : decode cX6_offer 237 = .ok (.aload_n 0, 1) := by decide +kernel
theorem dX6_offer_238 : decode cX6_offer 238 = .ok (.getfield 63, 3) := by decide +kernel
theorem dX6_offer_241 : decode cX6_offer 241 = .ok (.iload_n 1, 1) := by decide +kernel
theorem dX6_offer_242 : decode cX6_offer 242 = .ok (.iaload, 1) := by decide +kernel
theorem dX6_offer_243 : decode cX6_offer 243 = .ok (.isub, 1) := by decide +kernel
theorem dX6_offer_244 : decode cX6_offer 244 = .ok (.aload_n 0, 1) := by decide +kernel
theorem dX6_offer_245 : decode cX6_offer 245 = .ok (.getfield 99, 3) := by decide +kernel
theorem dX6_offer_248 : decode cX6_offer 248 = .ok (.aload_n 0, 1) := by decide +kernel
theorem dX6_offer_249 : decode cX6_offer 249 = .ok (.getfield 102, 3) := by decide +kernel
theorem dX6_offer_252 : decode cX6_offer 252 = .ok (.iadd, 1) := by decide +kernel
theorem dX6_offer_253 : decode cX6_offer 253 = .ok (.aload_n 0, 1) := by decide +kernel
theorem dX6_offer_254 : decode cX6_offer 254 = .ok (.getfield 96, 3) := by decide +kernel
theorem dX6_offer_257 : decode cX6_offer 257 = .ok (.iadd, 1) := by decide +kernel
theorem dX6_offer_258 : decode cX6_offer 258 = .ok (.imul, 1) := by decide +kernel
theorem dX6_offer_259 : decode cX6_offer 259 = .ok (.iadd, 1) := by decide +kernel
theorem dX6_offer_260 : decode cX6_offer 260 = .ok (.iastore, 1) := by decide +kernel
theorem dX6_offer_261 : decode cX6_offer 261 = .ok (.iload_n 3, 1) := by decide +kernel
theorem dX6_offer_262 : decode cX6_offer 262 = .ok (.ireturn, 1) := by decide +kernel
theorem dX6_credits_0 : decode cX6_credits 0 = .ok (.aload_n 0, 1) := by decide +kernel
theorem dX6_credits_1 : decode cX6_credits 1 = .ok (.getfield 9, 3) := by decide +kernel
theorem dX6_credits_4 : decode cX6_credits 4 = .ok (.iload_n 1, 1) := by decide +kernel
theorem dX6_credits_5 : decode cX6_credits 5 = .ok (.iaload, 1) := by decide +kernel
theorem dX6_credits_6 : decode cX6_credits 6 = .ok (.aload_n 0, 1) := by decide +kernel
theorem dX6_credits_7 : decode cX6_credits 7 = .ok (.getfield 63, 3) := by decide +kernel
theorem dX6_credits_10 : decode cX6_credits 10 = .ok (.iload_n 1, 1) := by decide +kernel
theorem dX6_credits_11 : decode cX6_credits 11 = .ok (.iaload, 1) := by decide +kernel
theorem dX6_credits_12 : decode cX6_credits 12 = .ok (.isub, 1) := by decide +kernel
theorem dX6_credits_13 : decode cX6_credits 13 = .ok (.aload_n 0, 1) := by decide +kernel
theorem dX6_credits_14 : decode cX6_credits 14 = .ok (.getfield 72, 3) := by decide +kernel
theorem dX6_credits_17 : decode cX6_credits 17 = .ok (.iload_n 1, 1) := by decide +kernel
theorem dX6_credits_18 : decode cX6_credits 18 = .ok (.iaload, 1) := by decide +kernel
theorem dX6_credits_19 : decode cX6_credits 19 = .ok (.iadd, 1) := by decide +kernel
theorem dX6_credits_20 : decode cX6_credits 20 = .ok (.ireturn, 1) := by decide +kernel
theorem dX6_comesBack_0 : decode cX6_comesBack 0 = .ok (.iconst 0, 1) := by decide +kernel
theorem dX6_comesBack_1 : decode cX6_comesBack 1 = .ok (.istore_n 1, 1) := by decide +kernel
theorem dX6_comesBack_2 : decode cX6_comesBack 2 = .ok (.iload_n 1, 1) := by decide +kernel
theorem dX6_comesBack_3 : decode cX6_comesBack 3 = .ok (.aload_n 0, 1) := by decide +kernel
theorem dX6_comesBack_4 : decode cX6_comesBack 4 = .ok (.getfield 96, 3) := by decide +kernel
theorem dX6_comesBack_7 : decode cX6_comesBack 7 = .ok (.if_icmp .ge 63, 3) := by decide +kernel
theorem dX6_comesBack_10 : decode cX6_comesBack 10 = .ok (.aload_n 0, 1) := by decide +kernel
theorem dX6_comesBack_11 : decode cX6_comesBack 11 = .ok (.getfield 72, 3) := by decide +kernel
theorem dX6_comesBack_14 : decode cX6_comesBack 14 = .ok (.iload_n 1, 1) := by decide +kernel
theorem dX6_comesBack_15 : decode cX6_comesBack 15 = .ok (.iaload, 1) := by decide +kernel
theorem dX6_comesBack_16 : decode cX6_comesBack 16 = .ok (.aload_n 0, 1) := by decide +kernel
theorem dX6_comesBack_17 : decode cX6_comesBack 17 = .ok (.getfield 69, 3) := by decide +kernel
theorem dX6_comesBack_20 : decode cX6_comesBack 20 = .ok (.iload_n 1, 1) := by decide +kernel
theorem dX6_comesBack_21 : decode cX6_comesBack 21 = .ok (.iaload, 1) := by decide +kernel
theorem dX6_comesBack_22 : decode cX6_comesBack 22 = .ok (.if_icmp .ge 42, 3) := by decide +kernel
theorem dX6_comesBack_25 : decode cX6_comesBack 25 = .ok (.aload_n 0, 1) := by decide +kernel
theorem dX6_comesBack_26 : decode cX6_comesBack 26 = .ok (.getfield 57, 3) := by decide +kernel
theorem dX6_comesBack_29 : decode cX6_comesBack 29 = .ok (.sipush 4000, 3) := by decide +kernel
theorem dX6_comesBack_32 : decode cX6_comesBack 32 = .ok (.iload_n 1, 1) := by decide +kernel
theorem dX6_comesBack_33 : decode cX6_comesBack 33 = .ok (.imul, 1) := by decide +kernel
theorem dX6_comesBack_34 : decode cX6_comesBack 34 = .ok (.aload_n 0, 1) := by decide +kernel
theorem dX6_comesBack_35 : decode cX6_comesBack 35 = .ok (.getfield 72, 3) := by decide +kernel
theorem dX6_comesBack_38 : decode cX6_comesBack 38 = .ok (.iload_n 1, 1) := by decide +kernel
theorem dX6_comesBack_39 : decode cX6_comesBack 39 = .ok (.iaload, 1) := by decide +kernel
theorem dX6_comesBack_40 : decode cX6_comesBack 40 = .ok (.iadd, 1) := by decide +kernel
theorem dX6_comesBack_41 : decode cX6_comesBack 41 = .ok (.iaload, 1) := by decide +kernel
theorem dX6_comesBack_42 : decode cX6_comesBack 42 = .ok (.aload_n 0, 1) := by decide +kernel
theorem dX6_comesBack_43 : decode cX6_comesBack 43 = .ok (.getfield 102, 3) := by decide +kernel
theorem dX6_comesBack_46 : decode cX6_comesBack 46 = .ok (.iadd, 1) := by decide +kernel
theorem dX6_comesBack_47 : decode cX6_comesBack 47 = .ok (.aload_n 0, 1) := by decide +kernel
theorem dX6_comesBack_48 : decode cX6_comesBack 48 = .ok (.getfield 114, 3) := by decide +kernel
theorem dX6_comesBack_51 : decode cX6_comesBack 51 = .ok (.if_icmp .ne 13, 3) := by decide +kernel
theorem dX6_comesBack_54 : decode cX6_comesBack 54 = .ok (.aload_n 0, 1) := by decide +kernel
theorem dX6_comesBack_55 : decode cX6_comesBack 55 = .ok (.getfield 72, 3) := by decide +kernel
theorem dX6_comesBack_58 : decode cX6_comesBack 58 = .ok (.iload_n 1, 1) := by decide +kernel
theorem dX6_comesBack_59 : decode cX6_comesBack 59 = .ok (.dup2, 1) := by decide +kernel
theorem dX6_comesBack_60 : decode cX6_comesBack 60 = .ok (.iaload, 1) := by decide +kernel
theorem dX6_comesBack_61 : decode cX6_comesBack 61 = .ok (.iconst 1, 1) := by decide +kernel
theorem dX6_comesBack_62 : decode cX6_comesBack 62 = .ok (.iadd, 1) := by decide +kernel
theorem dX6_comesBack_63 : decode cX6_comesBack 63 = .ok (.iastore, 1) := by decide +kernel
theorem dX6_comesBack_64 : decode cX6_comesBack 64 = .ok (.iinc 1 1, 3) := by decide +kernel
theorem dX6_comesBack_67 : decode cX6_comesBack 67 = .ok (.goto (-65), 3) := by decide +kernel
theorem dX6_comesBack_70 : decode cX6_comesBack 70 = .ok (.return_, 1) := by decide +kernel
theorem dX6_comes_0 : decode cX6_comes 0 = .ok (.iconst 0, 1) := by decide +kernel
theorem dX6_comes_1 : decode cX6_comes 1 = .ok (.istore_n 1, 1) := by decide +kernel
theorem dX6_comes_2 : decode cX6_comes 2 = .ok (.iload_n 1, 1) := by decide +kernel
theorem dX6_comes_3 : decode cX6_comes 3 = .ok (.aload_n 0, 1) := by decide +kernel
theorem dX6_comes_4 : decode cX6_comes 4 = .ok (.getfield 96, 3) := by decide +kernel
theorem dX6_comes_7 : decode cX6_comes 7 = .ok (.if_icmp .ge 126, 3) := by decide +kernel
theorem dX6_comes_10 : decode cX6_comes 10 = .ok (.aload_n 0, 1) := by decide +kernel
theorem dX6_comes_11 : decode cX6_comes 11 = .ok (.getfield 66, 3) := by decide +kernel
theorem dX6_comes_14 : decode cX6_comes 14 = .ok (.iload_n 1, 1) := by decide +kernel
theorem dX6_comes_15 : decode cX6_comes 15 = .ok (.iaload, 1) := by decide +kernel
theorem dX6_comes_16 : decode cX6_comes 16 = .ok (.aload_n 0, 1) := by decide +kernel
theorem dX6_comes_17 : decode cX6_comes 17 = .ok (.getfield 63, 3) := by decide +kernel
theorem dX6_comes_20 : decode cX6_comes 20 = .ok (.iload_n 1, 1) := by decide +kernel
theorem dX6_comes_21 : decode cX6_comes 21 = .ok (.iaload, 1) := by decide +kernel
theorem dX6_comes_22 : decode cX6_comes 22 = .ok (.if_icmp .eq 105, 3) := by decide +kernel
theorem dX6_comes_25 : decode cX6_comes 25 = .ok (.aload_n 0, 1) := by decide +kernel
theorem dX6_comes_26 : decode cX6_comes 26 = .ok (.getfield 54, 3) := by decide +kernel
theorem dX6_comes_29 : decode cX6_comes 29 = .ok (.sipush 4000, 3) := by decide +kernel
theorem dX6_comes_32 : decode cX6_comes 32 = .ok (.iload_n 1, 1) := by decide +kernel
theorem dX6_comes_33 : decode cX6_comes 33 = .ok (.imul, 1) := by decide +kernel
theorem dX6_comes_34 : decode cX6_comes 34 = .ok (.aload_n 0, 1) := by decide +kernel
theorem dX6_comes_35 : decode cX6_comes 35 = .ok (.getfield 66, 3) := by decide +kernel
theorem dX6_comes_38 : decode cX6_comes 38 = .ok (.iload_n 1, 1) := by decide +kernel
theorem dX6_comes_39 : decode cX6_comes 39 = .ok (.iaload, 1) := by decide +kernel
theorem dX6_comes_40 : decode cX6_comes 40 = .ok (.iadd, 1) := by decide +kernel
theorem dX6_comes_41 : decode cX6_comes 41 = .ok (.iaload, 1) := by decide +kernel
theorem dX6_comes_42 : decode cX6_comes 42 = .ok (.aload_n 0, 1) := by decide +kernel
theorem dX6_comes_43 : decode cX6_comes 43 = .ok (.getfield 99, 3) := by decide +kernel
theorem dX6_comes_46 : decode cX6_comes 46 = .ok (.iadd, 1) := by decide +kernel
theorem dX6_comes_47 : decode cX6_comes 47 = .ok (.aload_n 0, 1) := by decide +kernel
theorem dX6_comes_48 : decode cX6_comes 48 = .ok (.getfield 114, 3) := by decide +kernel
theorem dX6_comes_51 : decode cX6_comes 51 = .ok (.if_icmp .eq 6, 3) := by decide +kernel
theorem dX6_comes_54 : decode cX6_comes 54 = .ok (.goto 73, 3) := by decide +kernel
theorem dX6_comes_57 : decode cX6_comes 57 = .ok (.aload_n 0, 1) := by decide +kernel
theorem dX6_comes_58 : decode cX6_comes 58 = .ok (.getfield 66, 3) := by decide +kernel
theorem dX6_comes_61 : decode cX6_comes 61 = .ok (.iload_n 1, 1) := by decide +kernel
theorem dX6_comes_62 : decode cX6_comes 62 = .ok (.iaload, 1) := by decide +kernel
theorem dX6_comes_63 : decode cX6_comes 63 = .ok (.aload_n 0, 1) := by decide +kernel
theorem dX6_comes_64 : decode cX6_comes 64 = .ok (.getfield 69, 3) := by decide +kernel
theorem dX6_comes_67 : decode cX6_comes 67 = .ok (.iload_n 1, 1) := by decide +kernel
theorem dX6_comes_68 : decode cX6_comes 68 = .ok (.iaload, 1) := by decide +kernel
theorem dX6_comes_69 : decode cX6_comes 69 = .ok (.isub, 1) := by decide +kernel
theorem dX6_comes_70 : decode cX6_comes 70 = .ok (.aload_n 0, 1) := by decide +kernel
theorem dX6_comes_71 : decode cX6_comes 71 = .ok (.getfield 9, 3) := by decide +kernel
theorem dX6_comes_74 : decode cX6_comes 74 = .ok (.iload_n 1, 1) := by decide +kernel
theorem dX6_comes_75 : decode cX6_comes 75 = .ok (.iaload, 1) := by decide +kernel
theorem dX6_comes_76 : decode cX6_comes 76 = .ok (.if_icmp .lt 13, 3) := by decide +kernel
theorem dX6_comes_79 : decode cX6_comes 79 = .ok (.aload_n 0, 1) := by decide +kernel
theorem dX6_comes_80 : decode cX6_comes 80 = .ok (.dup, 1) := by decide +kernel
theorem dX6_comes_81 : decode cX6_comes 81 = .ok (.getfield 126, 3) := by decide +kernel
theorem dX6_comes_84 : decode cX6_comes 84 = .ok (.iconst 1, 1) := by decide +kernel
theorem dX6_comes_85 : decode cX6_comes 85 = .ok (.iadd, 1) := by decide +kernel
theorem dX6_comes_86 : decode cX6_comes 86 = .ok (.putfield 126, 3) := by decide +kernel
theorem dX6_comes_89 : decode cX6_comes 89 = .ok (.aload_n 0, 1) := by decide +kernel
theorem dX6_comes_90 : decode cX6_comes 90 = .ok (.getfield 66, 3) := by decide +kernel
theorem dX6_comes_93 : decode cX6_comes 93 = .ok (.iload_n 1, 1) := by decide +kernel
theorem dX6_comes_94 : decode cX6_comes 94 = .ok (.dup2, 1) := by decide +kernel
theorem dX6_comes_95 : decode cX6_comes 95 = .ok (.iaload, 1) := by decide +kernel
theorem dX6_comes_96 : decode cX6_comes 96 = .ok (.iconst 1, 1) := by decide +kernel
theorem dX6_comes_97 : decode cX6_comes 97 = .ok (.iadd, 1) := by decide +kernel
theorem dX6_comes_98 : decode cX6_comes 98 = .ok (.iastore, 1) := by decide +kernel
theorem dX6_comes_99 : decode cX6_comes 99 = .ok (.aload_n 0, 1) := by decide +kernel
theorem dX6_comes_100 : decode cX6_comes 100 = .ok (.getfield 75, 3) := by decide +kernel
theorem dX6_comes_103 : decode cX6_comes 103 = .ok (.iload_n 1, 1) := by decide +kernel
theorem dX6_comes_104 : decode cX6_comes 104 = .ok (.aload_n 0, 1) := by decide +kernel
theorem dX6_comes_105 : decode cX6_comes 105 = .ok (.getfield 75, 3) := by decide +kernel
theorem dX6_comes_108 : decode cX6_comes 108 = .ok (.iload_n 1, 1) := by decide +kernel
theorem dX6_comes_109 : decode cX6_comes 109 = .ok (.iaload, 1) := by decide +kernel
theorem dX6_comes_110 : decode cX6_comes 110 = .ok (.aload_n 0, 1) := by decide +kernel
theorem dX6_comes_111 : decode cX6_comes 111 = .ok (.getfield 66, 3) := by decide +kernel
theorem dX6_comes_114 : decode cX6_comes 114 = .ok (.iload_n 1, 1) := by decide +kernel
theorem dX6_comes_115 : decode cX6_comes 115 = .ok (.iaload, 1) := by decide +kernel
theorem dX6_comes_116 : decode cX6_comes 116 = .ok (.aload_n 0, 1) := by decide +kernel
theorem dX6_comes_117 : decode cX6_comes 117 = .ok (.getfield 69, 3) := by decide +kernel
theorem dX6_comes_120 : decode cX6_comes 120 = .ok (.iload_n 1, 1) := by decide +kernel
theorem dX6_comes_121 : decode cX6_comes 121 = .ok (.iaload, 1) := by decide +kernel
theorem dX6_comes_122 : decode cX6_comes 122 = .ok (.isub, 1) := by decide +kernel
theorem dX6_comes_123 : decode cX6_comes 123 = .ok (.invokestatic 149, 3) := by decide +kernel
theorem dX6_comes_126 : decode cX6_comes 126 = .ok (.iastore, 1) := by decide +kernel
theorem dX6_comes_127 : decode cX6_comes 127 = .ok (.iinc 1 1, 3) := by decide +kernel
theorem dX6_comes_130 : decode cX6_comes 130 = .ok (.goto (-128), 3) := by decide +kernel
theorem dX6_comes_133 : decode cX6_comes 133 = .ok (.return_, 1) := by decide +kernel
theorem dX6_drains_0 : decode cX6_drains 0 = .ok (.aload_n 0, 1) := by decide +kernel
theorem dX6_drains_1 : decode cX6_drains 1 = .ok (.getfield 108, 3) := by decide +kernel
theorem dX6_drains_4 : decode cX6_drains 4 = .ok (.ifCond .ne 7, 3) := by decide +kernel
theorem dX6_drains_7 : decode cX6_drains 7 = .ok (.iconst (-1), 1) := by decide +kernel
theorem dX6_drains_8 : decode cX6_drains 8 = .ok (.goto 17, 3) := by decide +kernel
theorem dX6_drains_11 : decode cX6_drains 11 = .ok (.aload_n 0, 1) := by decide +kernel
theorem dX6_drains_12 : decode cX6_drains 12 = .ok (.getfield 16, 3) := by decide +kernel
theorem dX6_drains_15 : decode cX6_drains 15 = .ok (.aload_n 0, 1) := by decide +kernel
theorem dX6_drains_16 : decode cX6_drains 16 = .ok (.getfield 114, 3) := by decide +kernel
theorem dX6_drains_19 : decode cX6_drains 19 = .ok (.aload_n 0, 1) := by decide +kernel
theorem dX6_drains_20 : decode cX6_drains 20 = .ok (.getfield 108, 3) := by decide +kernel
theorem dX6_drains_23 : decode cX6_drains 23 = .ok (.irem, 1) := by decide +kernel
theorem dX6_drains_24 : decode cX6_drains 24 = .ok (.iaload, 1) := by decide +kernel
theorem dX6_drains_25 : decode cX6_drains 25 = .ok (.istore_n 1, 1) := by decide +kernel
theorem dX6_drains_26 : decode cX6_drains 26 = .ok (.iconst 0, 1) := by decide +kernel
theorem dX6_drains_27 : decode cX6_drains 27 = .ok (.istore_n 2, 1) := by decide +kernel
theorem dX6_drains_28 : decode cX6_drains 28 = .ok (.iconst 0, 1) := by decide +kernel
theorem dX6_drains_29 : decode cX6_drains 29 = .ok (.istore_n 3, 1) := by decide +kernel
theorem dX6_drains_30 : decode cX6_drains 30 = .ok (.iload_n 3, 1) := by decide +kernel
theorem dX6_drains_31 : decode cX6_drains 31 = .ok (.aload_n 0, 1) := by decide +kernel
theorem dX6_drains_32 : decode cX6_drains 32 = .ok (.getfield 96, 3) := by decide +kernel
theorem dX6_drains_35 : decode cX6_drains 35 = .ok (.if_icmp .ge 156, 3) := by decide +kernel
theorem dX6_drains_38 : decode cX6_drains 38 = .ok (.iload_n 1, 1) := by decide +kernel
theorem dX6_drains_39 : decode cX6_drains 39 = .ok (.iload_n 3, 1) := by decide +kernel
theorem dX6_drains_40 : decode cX6_drains 40 = .ok (.ishr, 1) := by decide +kernel
theorem dX6_drains_41 : decode cX6_drains 41 = .ok (.iconst 1, 1) := by decide +kernel
theorem dX6_drains_42 : decode cX6_drains 42 = .ok (.iand, 1) := by decide +kernel
theorem dX6_drains_43 : decode cX6_drains 43 = .ok (.ifCond .eq 142, 3) := by decide +kernel
theorem dX6_drains_46 : decode cX6_drains 46 = .ok (.aload_n 0, 1) := by decide +kernel
theorem dX6_drains_47 : decode cX6_drains 47 = .ok (.getfield 69, 3) := by decide +kernel
theorem dX6_drains_50 : decode cX6_drains 50 = .ok (.iload_n 3, 1) := by decide +kernel
theorem dX6_drains_51 : decode cX6_drains 51 = .ok (.iaload, 1) := by decide +kernel
theorem dX6_drains_52 : decode cX6_drains 52 = .ok (.aload_n 0, 1) := by decide +kernel
theorem dX6_drains_53 : decode cX6_drains 53 = .ok (.getfield 66, 3) := by decide +kernel
theorem dX6_drains_56 : decode cX6_drains 56 = .ok (.iload_n 3, 1) := by decide +kernel
theorem dX6_drains_57 : decode cX6_drains 57 = .ok (.iaload, 1) := by decide +kernel
theorem dX6_drains_58 : decode cX6_drains 58 = .ok (.if_icmp .ne 6, 3) := by decide +kernel
theorem dX6_drains_61 : decode cX6_drains 61 = .ok (.goto 124, 3) := by decide +kernel
theorem dX6_drains_64 : decode cX6_drains 64 = .ok (.sipush 4000, 3) := by decide +kernel
theorem dX6_drains_67 : decode cX6_drains 67 = .ok (.iload_n 3, 1) := by decide +kernel
theorem dX6_drains_68 : decode cX6_drains 68 = .ok (.imul, 1) := by decide +kernel
theorem dX6_drains_69 : decode cX6_drains 69 = .ok (.aload_n 0, 1) := by decide +kernel
theorem dX6_drains_70 : decode cX6_drains 70 = .ok (.getfield 69, 3) := by decide +kernel
theorem dX6_drains_73 : decode cX6_drains 73 = .ok (.iload_n 3, 1) := by decide +kernel
theorem dX6_drains_74 : decode cX6_drains 74 = .ok (.iaload, 1) := by decide +kernel
theorem dX6_drains_75 : decode cX6_drains 75 = .ok (.iadd, 1) := by decide +kernel
theorem dX6_drains_76 : decode cX6_drains 76 = .ok (.istore 4, 2) := by decide +kernel
theorem dX6_drains_78 : decode cX6_drains 78 = .ok (.aload_n 0, 1) := by decide +kernel
theorem dX6_drains_79 : decode cX6_drains 79 = .ok (.getfield 48, 3) := by decide +kernel
theorem dX6_drains_82 : decode cX6_drains 82 = .ok (.iload 4, 2) := by decide +kernel
theorem dX6_drains_84 : decode cX6_drains 84 = .ok (.iaload, 1) := by decide +kernel
theorem dX6_drains_85 : decode cX6_drains 85 = .ok (.istore 5, 2) := by decide +kernel
theorem dX6_drains_87 : decode cX6_drains 87 = .ok (.aload_n 0, 1) := by decide +kernel
theorem dX6_drains_88 : decode cX6_drains 88 = .ok (.getfield 57, 3) := by decide +kernel
theorem dX6_drains_91 : decode cX6_drains 91 = .ok (.iload 4, 2) := by decide +kernel
theorem dX6_drains_93 : decode cX6_drains 93 = .ok (.aload_n 0, 1) := by decide +kernel
theorem dX6_drains_94 : decode cX6_drains 94 = .ok (.getfield 114, 3) := by decide +kernel
theorem dX6_drains_97 : decode cX6_drains 97 = .ok (.iastore, 1) := by decide +kernel
theorem dX6_drains_98 : decode cX6_drains 98 = .ok (.aload_n 0, 1) := by decide +kernel
theorem dX6_drains_99 : decode cX6_drains 99 = .ok (.getfield 69, 3) := by decide +kernel
theorem dX6_drains_102 : decode cX6_drains 102 = .ok (.iload_n 3, 1) := by decide +kernel
theorem dX6_drains_103 : decode cX6_drains 103 = .ok (.dup2, 1) := by decide +kernel
theorem dX6_drains_104 : decode cX6_drains 104 = .ok (.iaload, 1) := by decide +kernel
theorem dX6_drains_105 : decode cX6_drains 105 = .ok (.iconst 1, 1) := by decide +kernel
theorem dX6_drains_106 : decode cX6_drains 106 = .ok (.iadd, 1) := by decide +kernel
theorem dX6_drains_107 : decode cX6_drains 107 = .ok (.iastore, 1) := by decide +kernel
theorem dX6_drains_108 : decode cX6_drains 108 = .ok (.aload_n 0, 1) := by decide +kernel
theorem dX6_drains_109 : decode cX6_drains 109 = .ok (.getfield 51, 3) := by decide +kernel
theorem dX6_drains_112 : decode cX6_drains 112 = .ok (.iload 4, 2) := by decide +kernel
theorem dX6_drains_114 : decode cX6_drains 114 = .ok (.iaload, 1) := by decide +kernel
theorem dX6_drains_115 : decode cX6_drains 115 = .ok (.iconst 1, 1) := by decide +kernel
theorem dX6_drains_116 : decode cX6_drains 116 = .ok (.iadd, 1) := by decide +kernel
theorem dX6_drains_117 : decode cX6_drains 117 = .ok (.aload_n 0, 1) := by decide +kernel
theorem dX6_drains_118 : decode cX6_drains 118 = .ok (.getfield 22, 3) := by decide +kernel
theorem dX6_drains_121 : decode cX6_drains 121 = .ok (.iload 5, 2) := by decide +kernel
theorem dX6_drains_123 : decode cX6_drains 123 = .ok (.iaload, 1) := by decide +kernel
theorem dX6_drains_124 : decode cX6_drains 124 = .ok (.invokestatic 145, 3) := by decide +kernel
theorem dX6_drains_127 : decode cX6_drains 127 = .ok (.if_icmp .ge 6, 3) := by decide +kernel
theorem dX6_drains_130 : decode cX6_drains 130 = .ok (.goto 55, 3) := by decide +kernel
theorem dX6_drains_133 : decode cX6_drains 133 = .ok (.aload_n 0, 1) := by decide +kernel
theorem dX6_drains_134 : decode cX6_drains 134 = .ok (.getfield 35, 3) := by decide +kernel
theorem dX6_drains_137 : decode cX6_drains 137 = .ok (.iload 5, 2) := by decide +kernel
theorem dX6_drains_139 : decode cX6_drains 139 = .ok (.aload_n 0, 1) := by decide +kernel
theorem dX6_drains_140 : decode cX6_drains 140 = .ok (.getfield 114, 3) := by decide +kernel
theorem dX6_drains_143 : decode cX6_drains 143 = .ok (.iastore, 1) := by decide +kernel
theorem dX6_drains_144 : decode cX6_drains 144 = .ok (.iinc 2 1, 3) := by decide +kernel
theorem dX6_drains_147 : decode cX6_drains 147 = .ok (.aload_n 0, 1) := by decide +kernel
theorem dX6_drains_148 : decode cX6_drains 148 = .ok (.dup, 1) := by decide +kernel
theorem dX6_drains_149 : decode cX6_drains 149 = .ok (.getfield 129, 3) := by decide +kernel
theorem dX6_drains_152 : decode cX6_drains 152 = .ok (.aload_n 0, 1) := by decide +kernel
theorem dX6_drains_153 : decode cX6_drains 153 = .ok (.getfield 45, 3) := by decide +kernel
theorem dX6_drains_156 : decode cX6_drains 156 = .ok (.iload 5, 2) := by decide +kernel
theorem dX6_drains_158 : decode cX6_drains 158 = .ok (.baload, 1) := by decide +kernel
theorem dX6_drains_159 : decode cX6_drains 159 = .ok (.ifCond .eq 21, 3) := by decide +kernel
theorem dX6_drains_162 : decode cX6_drains 162 = .ok (.aload_n 0, 1) := by decide +kernel
theorem dX6_drains_163 : decode cX6_drains 163 = .ok (.getfield 114, 3) := by decide +kernel
theorem dX6_drains_166 : decode cX6_drains 166 = .ok (.aload_n 0, 1) := by decide +kernel
theorem dX6_drains_167 : decode cX6_drains 167 = .ok (.getfield 38, 3) := by decide +kernel
theorem dX6_drains_170 : decode cX6_drains 170 = .ok (.iload 5, 2) := by decide +kernel
theorem dX6_drains_172 : decode cX6_drains 172 = .ok (.iaload, 1) := by decide +kernel
theorem dX6_drains_173 : decode cX6_drains 173 = .ok (.if_icmp .le 7, 3) := by decide +kernel
theorem dX6_drains_176 : decode cX6_drains 176 = .ok (.iconst 1, 1) := by decide +kernel
theorem dX6_drains_177 : decode cX6_drains 177 = .ok (.goto 4, 3) := by decide +kernel
theorem dX6_drains_180 : decode cX6_drains 180 = .ok (.iconst 0, 1) := by decide +kernel
theorem dX6_drains_181 : decode cX6_drains 181 = .ok (.iadd, 1) := by decide +kernel
theorem dX6_drains_182 : decode cX6_drains 182 = .ok (.putfield 129, 3) := by decide +kernel
theorem dX6_drains_185 : decode cX6_drains 185 = .ok (.iinc 3 1, 3) := by decide +kernel
theorem dX6_drains_188 : decode cX6_drains 188 = .ok (.goto (-158), 3) := by decide +kernel
theorem dX6_drains_191 : decode cX6_drains 191 = .ok (.iload_n 2, 1) := by decide +kernel
theorem dX6_drains_192 : decode cX6_drains 192 = .ok (.ireturn, 1) := by decide +kernel
theorem dX6_isAble_0 : decode cX6_isAble 0 = .ok (.aload_n 0, 1) := by decide +kernel
theorem dX6_isAble_1 : decode cX6_isAble 1 = .ok (.getfield 63, 3) := by decide +kernel
theorem dX6_isAble_4 : decode cX6_isAble 4 = .ok (.iload_n 1, 1) := by decide +kernel
theorem dX6_isAble_5 : decode cX6_isAble 5 = .ok (.iaload, 1) := by decide +kernel
theorem dX6_isAble_6 : decode cX6_isAble 6 = .ok (.aload_n 0, 1) := by decide +kernel
theorem dX6_isAble_7 : decode cX6_isAble 7 = .ok (.getfield 60, 3) := by decide +kernel
theorem dX6_isAble_10 : decode cX6_isAble 10 = .ok (.iload_n 1, 1) := by decide +kernel
theorem dX6_isAble_11 : decode cX6_isAble 11 = .ok (.iaload, 1) := by decide +kernel
theorem dX6_isAble_12 : decode cX6_isAble 12 = .ok (.if_icmp .ge 15, 3) := by decide +kernel
theorem dX6_isAble_15 : decode cX6_isAble 15 = .ok (.aload_n 0, 1) := by decide +kernel
theorem dX6_isAble_16 : decode cX6_isAble 16 = .ok (.iload_n 1, 1) := by decide +kernel
theorem dX6_isAble_17 : decode cX6_isAble 17 = .ok (.invokevirtual 152, 3) := by decide +kernel
theorem dX6_isAble_20 : decode cX6_isAble 20 = .ok (.ifCond .le 7, 3) := by decide +kernel
theorem dX6_isAble_23 : decode cX6_isAble 23 = .ok (.iconst 1, 1) := by decide +kernel
theorem dX6_isAble_24 : decode cX6_isAble 24 = .ok (.goto 4, 3) := by decide +kernel
theorem dX6_isAble_27 : decode cX6_isAble 27 = .ok (.iconst 0, 1) := by decide +kernel
theorem dX6_isAble_28 : decode cX6_isAble 28 = .ok (.ireturn, 1) := by decide +kernel
theorem dX6_byTurns_0 : decode cX6_byTurns 0 = .ok (.iconst 1, 1) := by decide +kernel
theorem dX6_byTurns_1 : decode cX6_byTurns 1 = .ok (.istore_n 1, 1) := by decide +kernel
theorem dX6_byTurns_2 : decode cX6_byTurns 2 = .ok (.iload_n 1, 1) := by decide +kernel
theorem dX6_byTurns_3 : decode cX6_byTurns 3 = .ok (.aload_n 0, 1) := by decide +kernel
theorem dX6_byTurns_4 : decode cX6_byTurns 4 = .ok (.getfield 96, 3) := by decide +kernel
theorem dX6_byTurns_7 : decode cX6_byTurns 7 = .ok (.if_icmp .gt 45, 3) := by decide +kernel
theorem dX6_byTurns_10 : decode cX6_byTurns 10 = .ok (.aload_n 0, 1) := by decide +kernel
theorem dX6_byTurns_11 : decode cX6_byTurns 11 = .ok (.getfield 117, 3) := by decide +kernel
theorem dX6_byTurns_14 : decode cX6_byTurns 14 = .ok (.iconst (-1), 1) := by decide +kernel
theorem dX6_byTurns_15 : decode cX6_byTurns 15 = .ok (.if_icmp .ne 9, 3) := by decide +kernel
theorem dX6_byTurns_18 : decode cX6_byTurns 18 = .ok (.iload_n 1, 1) := by decide +kernel
theorem dX6_byTurns_19 : decode cX6_byTurns 19 = .ok (.iconst 1, 1) := by decide +kernel
theorem dX6_byTurns_20 : decode cX6_byTurns 20 = .ok (.isub, 1) := by decide +kernel
theorem dX6_byTurns_21 : decode cX6_byTurns 21 = .ok (.goto 14, 3) := by decide +kernel
theorem dX6_byTurns_24 : decode cX6_byTurns 24 = .ok (.aload_n 0, 1) := by decide +kernel
theorem dX6_byTurns_25 : decode cX6_byTurns 25 = .ok (.getfield 117, 3) := by decide +kernel
theorem dX6_byTurns_28 : decode cX6_byTurns 28 = .ok (.iload_n 1, 1) := by decide +kernel
theorem dX6_byTurns_29 : decode cX6_byTurns 29 = .ok (.iadd, 1) := by decide +kernel
theorem dX6_byTurns_30 : decode cX6_byTurns 30 = .ok (.aload_n 0, 1) := by decide +kernel
theorem dX6_byTurns_31 : decode cX6_byTurns 31 = .ok (.getfield 96, 3) := by decide +kernel
theorem dX6_byTurns_34 : decode cX6_byTurns 34 = .ok (.irem, 1) := by decide +kernel
theorem dX6_byTurns_35 : decode cX6_byTurns 35 = .ok (.istore_n 2, 1) := by decide +kernel
theorem dX6_byTurns_36 : decode cX6_byTurns 36 = .ok (.aload_n 0, 1) := by decide +kernel
theorem dX6_byTurns_37 : decode cX6_byTurns 37 = .ok (.iload_n 2, 1) := by decide +kernel
theorem dX6_byTurns_38 : decode cX6_byTurns 38 = .ok (.invokevirtual 155, 3) := by decide +kernel
theorem dX6_byTurns_41 : decode cX6_byTurns 41 = .ok (.ifCond .eq 5, 3) := by decide +kernel
theorem dX6_byTurns_44 : decode cX6_byTurns 44 = .ok (.iload_n 2, 1) := by decide +kernel
theorem dX6_byTurns_45 : decode cX6_byTurns 45 = .ok (.ireturn, 1) := by decide +kernel
theorem dX6_byTurns_46 : decode cX6_byTurns 46 = .ok (.iinc 1 1, 3) := by decide +kernel
theorem dX6_byTurns_49 : decode cX6_byTurns 49 = .ok (.goto (-47), 3) := by decide +kernel
theorem dX6_byTurns_52 : decode cX6_byTurns 52 = .ok (.iconst (-1), 1) := by decide +kernel
theorem dX6_byTurns_53 : decode cX6_byTurns 53 = .ok (.ireturn, 1) := by decide +kernel
theorem dX6_least_0 : decode cX6_least 0 = .ok (.iconst 0, 1) := by decide +kernel
theorem dX6_least_1 : decode cX6_least 1 = .ok (.istore_n 1, 1) := by decide +kernel
theorem dX6_least_2 : decode cX6_least 2 = .ok (.iload_n 1, 1) := by decide +kernel
theorem dX6_least_3 : decode cX6_least 3 = .ok (.aload_n 0, 1) := by decide +kernel
theorem dX6_least_4 : decode cX6_least 4 = .ok (.getfield 96, 3) := by decide +kernel
theorem dX6_least_7 : decode cX6_least 7 = .ok (.if_icmp .ge 19, 3) := by decide +kernel
theorem dX6_least_10 : decode cX6_least 10 = .ok (.aload_n 0, 1) := by decide +kernel
theorem dX6_least_11 : decode cX6_least 11 = .ok (.iload_n 1, 1) := by decide +kernel
theorem dX6_least_12 : decode cX6_least 12 = .ok (.invokevirtual 155, 3) := by decide +kernel
theorem dX6_least_15 : decode cX6_least 15 = .ok (.ifCond .eq 5, 3) := by decide +kernel
theorem dX6_least_18 : decode cX6_least 18 = .ok (.iload_n 1, 1) := by decide +kernel
theorem dX6_least_19 : decode cX6_least 19 = .ok (.ireturn, 1) := by decide +kernel
theorem dX6_least_20 : decode cX6_least 20 = .ok (.iinc 1 1, 3) := by decide +kernel
theorem dX6_least_23 : decode cX6_least 23 = .ok (.goto (-21), 3) := by decide +kernel
theorem dX6_least_26 : decode cX6_least 26 = .ok (.iconst (-1), 1) := by decide +kernel
theorem dX6_least_27 : decode cX6_least 27 = .ok (.ireturn, 1) := by decide +kernel
theorem dX6_begun_0 : decode cX6_begun 0 = .ok (.iconst 0, 1) := by decide +kernel
theorem dX6_begun_1 : decode cX6_begun 1 = .ok (.istore_n 1, 1) := by decide +kernel
theorem dX6_begun_2 : decode cX6_begun 2 = .ok (.iload_n 1, 1) := by decide +kernel
theorem dX6_begun_3 : decode cX6_begun 3 = .ok (.aload_n 0, 1) := by decide +kernel
theorem dX6_begun_4 : decode cX6_begun 4 = .ok (.getfield 96, 3) := by decide +kernel
theorem dX6_begun_7 : decode cX6_begun 7 = .ok (.if_icmp .ge 46, 3) := by decide +kernel
theorem dX6_begun_10 : decode cX6_begun 10 = .ok (.aload_n 0, 1) := by decide +kernel
theorem dX6_begun_11 : decode cX6_begun 11 = .ok (.getfield 63, 3) := by decide +kernel
theorem dX6_begun_14 : decode cX6_begun 14 = .ok (.iload_n 1, 1) := by decide +kernel
theorem dX6_begun_15 : decode cX6_begun 15 = .ok (.iaload, 1) := by decide +kernel
theorem dX6_begun_16 : decode cX6_begun 16 = .ok (.aload_n 0, 1) := by decide +kernel
theorem dX6_begun_17 : decode cX6_begun 17 = .ok (.getfield 60, 3) := by decide +kernel
theorem dX6_begun_20 : decode cX6_begun 20 = .ok (.iload_n 1, 1) := by decide +kernel
theorem dX6_begun_21 : decode cX6_begun 21 = .ok (.iaload, 1) := by decide +kernel
theorem dX6_begun_22 : decode cX6_begun 22 = .ok (.if_icmp .ge 25, 3) := by decide +kernel
theorem dX6_begun_25 : decode cX6_begun 25 = .ok (.aload_n 0, 1) := by decide +kernel
theorem dX6_begun_26 : decode cX6_begun 26 = .ok (.getfield 51, 3) := by decide +kernel
theorem dX6_begun_29 : decode cX6_begun 29 = .ok (.sipush 4000, 3) := by decide +kernel
theorem dX6_begun_32 : decode cX6_begun 32 = .ok (.iload_n 1, 1) := by decide +kernel
theorem dX6_begun_33 : decode cX6_begun 33 = .ok (.imul, 1) := by decide +kernel
theorem dX6_begun_34 : decode cX6_begun 34 = .ok (.aload_n 0, 1) := by decide +kernel
theorem dX6_begun_35 : decode cX6_begun 35 = .ok (.getfield 63, 3) := by decide +kernel
theorem dX6_begun_38 : decode cX6_begun 38 = .ok (.iload_n 1, 1) := by decide +kernel
theorem dX6_begun_39 : decode cX6_begun 39 = .ok (.iaload, 1) := by decide +kernel
theorem dX6_begun_40 : decode cX6_begun 40 = .ok (.iadd, 1) := by decide +kernel
theorem dX6_begun_41 : decode cX6_begun 41 = .ok (.iaload, 1) := by decide +kernel
theorem dX6_begun_42 : decode cX6_begun 42 = .ok (.ifCond .le 5, 3) := by decide +kernel
theorem dX6_begun_45 : decode cX6_begun 45 = .ok (.iload_n 1, 1) := by decide +kernel
theorem dX6_begun_46 : decode cX6_begun 46 = .ok (.ireturn, 1) := by decide +kernel
theorem dX6_begun_47 : decode cX6_begun 47 = .ok (.iinc 1 1, 3) := by decide +kernel
theorem dX6_begun_50 : decode cX6_begun 50 = .ok (.goto (-48), 3) := by decide +kernel
theorem dX6_begun_53 : decode cX6_begun 53 = .ok (.iconst (-1), 1) := by decide +kernel
theorem dX6_begun_54 : decode cX6_begun 54 = .ok (.ireturn, 1) := by decide +kernel
theorem dX6_doesWait_0 : decode cX6_doesWait 0 = .ok (.iconst 0, 1) := by decide +kernel
theorem dX6_doesWait_1 : decode cX6_doesWait 1 = .ok (.istore_n 1, 1) := by decide +kernel
theorem dX6_doesWait_2 : decode cX6_doesWait 2 = .ok (.iload_n 1, 1) := by decide +kernel
theorem dX6_doesWait_3 : decode cX6_doesWait 3 = .ok (.aload_n 0, 1) := by decide +kernel
theorem dX6_doesWait_4 : decode cX6_doesWait 4 = .ok (.getfield 96, 3) := by decide +kernel
theorem dX6_doesWait_7 : decode cX6_doesWait 7 = .ok (.if_icmp .ge 26, 3) := by decide +kernel
theorem dX6_doesWait_10 : decode cX6_doesWait 10 = .ok (.aload_n 0, 1) := by decide +kernel
theorem dX6_doesWait_11 : decode cX6_doesWait 11 = .ok (.getfield 63, 3) := by decide +kernel
theorem dX6_doesWait_14 : decode cX6_doesWait 14 = .ok (.iload_n 1, 1) := by decide +kernel
theorem dX6_doesWait_15 : decode cX6_doesWait 15 = .ok (.iaload, 1) := by decide +kernel
theorem dX6_doesWait_16 : decode cX6_doesWait 16 = .ok (.aload_n 0, 1) := by decide +kernel
theorem dX6_doesWait_17 : decode cX6_doesWait 17 = .ok (.getfield 60, 3) := by decide +kernel
theorem dX6_doesWait_20 : decode cX6_doesWait 20 = .ok (.iload_n 1, 1) := by decide +kernel
theorem dX6_doesWait_21 : decode cX6_doesWait 21 = .ok (.iaload, 1) := by decide +kernel
theorem dX6_doesWait_22 : decode cX6_doesWait 22 = .ok (.if_icmp .ge 5, 3) := by decide +kernel
theorem dX6_doesWait_25 : decode cX6_doesWait 25 = .ok (.iconst 1, 1) := by decide +kernel
theorem dX6_doesWait_26 : decode cX6_doesWait 26 = .ok (.ireturn, 1) := by decide +kernel
theorem dX6_doesWait_27 : decode cX6_doesWait 27 = .ok (.iinc 1 1, 3) := by decide +kernel
theorem dX6_doesWait_30 : decode cX6_doesWait 30 = .ok (.goto (-28), 3) := by decide +kernel
theorem dX6_doesWait_33 : decode cX6_doesWait 33 = .ok (.iconst 0, 1) := by decide +kernel
theorem dX6_doesWait_34 : decode cX6_doesWait 34 = .ok (.ireturn, 1) := by decide +kernel
theorem dX6_sends_0 : decode cX6_sends 0 = .ok (.aload_n 0, 1) := by decide +kernel
theorem dX6_sends_1 : decode cX6_sends 1 = .ok (.invokevirtual 158, 3) := by decide +kernel
theorem dX6_sends_4 : decode cX6_sends 4 = .ok (.istore_n 1, 1) := by decide +kernel
theorem dX6_sends_5 : decode cX6_sends 5 = .ok (.aload_n 0, 1) := by decide +kernel
theorem dX6_sends_6 : decode cX6_sends 6 = .ok (.getfield 105, 3) := by decide +kernel
theorem dX6_sends_9 : decode cX6_sends 9 = .ok (.iconst 2, 1) := by decide +kernel
theorem dX6_sends_10 : decode cX6_sends 10 = .ok (.if_icmp .ne 42, 3) := by decide +kernel
theorem dX6_sends_13 : decode cX6_sends 13 = .ok (.aload_n 0, 1) := by decide +kernel
theorem dX6_sends_14 : decode cX6_sends 14 = .ok (.getfield 117, 3) := by decide +kernel
theorem dX6_sends_17 : decode cX6_sends 17 = .ok (.iconst (-1), 1) := by decide +kernel
theorem dX6_sends_18 : decode cX6_sends 18 = .ok (.if_icmp .eq 34, 3) := by decide +kernel
theorem dX6_sends_21 : decode cX6_sends 21 = .ok (.aload_n 0, 1) := by decide +kernel
theorem dX6_sends_22 : decode cX6_sends 22 = .ok (.aload_n 0, 1) := by decide +kernel
theorem dX6_sends_23 : decode cX6_sends 23 = .ok (.getfield 117, 3) := by decide +kernel
theorem dX6_sends_26 : decode cX6_sends 26 = .ok (.invokevirtual 155, 3) := by decide +kernel
theorem dX6_sends_29 : decode cX6_sends 29 = .ok (.ifCond .eq 23, 3) := by decide +kernel
theorem dX6_sends_32 : decode cX6_sends 32 = .ok (.aload_n 0, 1) := by decide +kernel
theorem dX6_sends_33 : decode cX6_sends 33 = .ok (.getfield 120, 3) := by decide +kernel
theorem dX6_sends_36 : decode cX6_sends 36 = .ok (.aload_n 0, 1) := by decide +kernel
theorem dX6_sends_37 : decode cX6_sends 37 = .ok (.getfield 13, 3) := by decide +kernel
theorem dX6_sends_40 : decode cX6_sends 40 = .ok (.aload_n 0, 1) := by decide +kernel
theorem dX6_sends_41 : decode cX6_sends 41 = .ok (.getfield 117, 3) := by decide +kernel
theorem dX6_sends_44 : decode cX6_sends 44 = .ok (.iaload, 1) := by decide +kernel
theorem dX6_sends_45 : decode cX6_sends 45 = .ok (.if_icmp .ge 7, 3) := by decide +kernel
theorem dX6_sends_48 : decode cX6_sends 48 = .ok (.iconst 1, 1) := by decide +kernel
theorem dX6_sends_49 : decode cX6_sends 49 = .ok (.goto 4, 3) := by decide +kernel
theorem dX6_sends_52 : decode cX6_sends 52 = .ok (.iconst 0, 1) := by decide +kernel
theorem dX6_sends_53 : decode cX6_sends 53 = .ok (.istore_n 2, 1) := by decide +kernel
theorem dX6_sends_54 : decode cX6_sends 54 = .ok (.aload_n 0, 1) := by decide +kernel
theorem dX6_sends_55 : decode cX6_sends 55 = .ok (.getfield 105, 3) := by decide +kernel
theorem dX6_sends_58 : decode cX6_sends 58 = .ok (.iconst 3, 1) := by decide +kernel
theorem dX6_sends_59 : decode cX6_sends 59 = .ok (.if_icmp .ne 10, 3) := by decide +kernel
theorem dX6_sends_62 : decode cX6_sends 62 = .ok (.aload_n 0, 1) := by decide +kernel
theorem dX6_sends_63 : decode cX6_sends 63 = .ok (.invokevirtual 162, 3) := by decide +kernel
theorem dX6_sends_66 : decode cX6_sends 66 = .ok (.goto 4, 3) := by decide +kernel
theorem dX6_sends_69 : decode cX6_sends 69 = .ok (.iconst (-1), 1) := by decide +kernel
theorem dX6_sends_70 : decode cX6_sends 70 = .ok (.istore_n 3, 1) := by decide +kernel
theorem dX6_sends_71 : decode cX6_sends 71 = .ok (.aload_n 0, 1) := by decide +kernel
theorem dX6_sends_72 : decode cX6_sends 72 = .ok (.getfield 105, 3) := by decide +kernel
theorem dX6_sends_75 : decode cX6_sends 75 = .ok (.iconst 1, 1) := by decide +kernel
theorem dX6_sends_76 : decode cX6_sends 76 = .ok (.if_icmp .ne 10, 3) := by decide +kernel
theorem dX6_sends_79 : decode cX6_sends 79 = .ok (.aload_n 0, 1) := by decide +kernel
theorem dX6_sends_80 : decode cX6_sends 80 = .ok (.invokevirtual 166, 3) := by decide +kernel
theorem dX6_sends_83 : decode cX6_sends 83 = .ok (.goto 39, 3) := by decide +kernel
theorem dX6_sends_86 : decode cX6_sends 86 = .ok (.iload_n 2, 1) := by decide +kernel
theorem dX6_sends_87 : decode cX6_sends 87 = .ok (.ifCond .eq 10, 3) := by decide +kernel
theorem dX6_sends_90 : decode cX6_sends 90 = .ok (.aload_n 0, 1) := by decide +kernel
theorem dX6_sends_91 : decode cX6_sends 91 = .ok (.getfield 117, 3) := by decide +kernel
theorem dX6_sends_94 : decode cX6_sends 94 = .ok (.goto 28, 3) := by decide +kernel
theorem dX6_sends_97 : decode cX6_sends 97 = .ok (.iload_n 3, 1) := by decide +kernel
theorem dX6_sends_98 : decode cX6_sends 98 = .ok (.iconst (-1), 1) := by decide +kernel
theorem dX6_sends_99 : decode cX6_sends 99 = .ok (.if_icmp .eq 19, 3) := by decide +kernel
theorem dX6_sends_102 : decode cX6_sends 102 = .ok (.aload_n 0, 1) := by decide +kernel
theorem dX6_sends_103 : decode cX6_sends 103 = .ok (.iload_n 3, 1) := by decide +kernel
theorem dX6_sends_104 : decode cX6_sends 104 = .ok (.invokevirtual 155, 3) := by decide +kernel
theorem dX6_sends_107 : decode cX6_sends 107 = .ok (.ifCond .eq 7, 3) := by decide +kernel
theorem dX6_sends_110 : decode cX6_sends 110 = .ok (.iload_n 3, 1) := by decide +kernel
theorem dX6_sends_111 : decode cX6_sends 111 = .ok (.goto 11, 3) := by decide +kernel
theorem dX6_sends_114 : decode cX6_sends 114 = .ok (.iconst (-1), 1) := by decide +kernel
theorem dX6_sends_115 : decode cX6_sends 115 = .ok (.goto 7, 3) := by decide +kernel
theorem dX6_sends_118 : decode cX6_sends 118 = .ok (.aload_n 0, 1) := by decide +kernel
theorem dX6_sends_119 : decode cX6_sends 119 = .ok (.invokevirtual 169, 3) := by decide +kernel
theorem dX6_sends_122 : decode cX6_sends 122 = .ok (.istore 4, 2) := by decide +kernel
theorem dX6_sends_124 : decode cX6_sends 124 = .ok (.iload 4, 2) := by decide +kernel
theorem dX6_sends_126 : decode cX6_sends 126 = .ok (.iconst (-1), 1) := by decide +kernel
theorem dX6_sends_127 : decode cX6_sends 127 = .ok (.if_icmp .ne 22, 3) := by decide +kernel
theorem dX6_sends_130 : decode cX6_sends 130 = .ok (.aload_n 0, 1) := by decide +kernel
theorem dX6_sends_131 : decode cX6_sends 131 = .ok (.dup, 1) := by decide +kernel
theorem dX6_sends_132 : decode cX6_sends 132 = .ok (.getfield 123, 3) := by decide +kernel
theorem dX6_sends_135 : decode cX6_sends 135 = .ok (.iload_n 1, 1) := by decide +kernel
theorem dX6_sends_136 : decode cX6_sends 136 = .ok (.ifCond .eq 7, 3) := by decide +kernel
theorem dX6_sends_139 : decode cX6_sends 139 = .ok (.iconst 1, 1) := by decide +kernel
theorem dX6_sends_140 : decode cX6_sends 140 = .ok (.goto 4, 3) := by decide +kernel
theorem dX6_sends_143 : decode cX6_sends 143 = .ok (.iconst 0, 1) := by decide +kernel
theorem dX6_sends_144 : decode cX6_sends 144 = .ok (.iadd, 1) := by decide +kernel
theorem dX6_sends_145 : decode cX6_sends 145 = .ok (.putfield 123, 3) := by decide +kernel
theorem dX6_sends_148 : decode cX6_sends 148 = .ok (.return_, 1) := by decide +kernel
theorem dX6_sends_149 : decode cX6_sends 149 = .ok (.sipush 4000, 3) := by decide +kernel
theorem dX6_sends_152 : decode cX6_sends 152 = .ok (.iload 4, 2) := by decide +kernel
theorem dX6_sends_154 : decode cX6_sends 154 = .ok (.imul, 1) := by decide +kernel
theorem dX6_sends_155 : decode cX6_sends 155 = .ok (.aload_n 0, 1) := by decide +kernel
theorem dX6_sends_156 : decode cX6_sends 156 = .ok (.getfield 63, 3) := by decide +kernel
theorem dX6_sends_159 : decode cX6_sends 159 = .ok (.iload 4, 2) := by decide +kernel
theorem dX6_sends_161 : decode cX6_sends 161 = .ok (.iaload, 1) := by decide +kernel
theorem dX6_sends_162 : decode cX6_sends 162 = .ok (.iadd, 1) := by decide +kernel
theorem dX6_sends_163 : decode cX6_sends 163 = .ok (.istore 5, 2) := by decide +kernel
theorem dX6_sends_165 : decode cX6_sends 165 = .ok (.aload_n 0, 1) := by decide +kernel
theorem dX6_sends_166 : decode cX6_sends 166 = .ok (.getfield 54, 3) := by decide +kernel
theorem dX6_sends_169 : decode cX6_sends 169 = .ok (.iload 5, 2) := by decide +kernel
theorem dX6_sends_171 : decode cX6_sends 171 = .ok (.aload_n 0, 1) := by decide +kernel
theorem dX6_sends_172 : decode cX6_sends 172 = .ok (.getfield 114, 3) := by decide +kernel
theorem dX6_sends_175 : decode cX6_sends 175 = .ok (.iastore, 1) := by decide +kernel
theorem dX6_sends_176 : decode cX6_sends 176 = .ok (.aload_n 0, 1) := by decide +kernel
theorem dX6_sends_177 : decode cX6_sends 177 = .ok (.getfield 51, 3) := by decide +kernel
theorem dX6_sends_180 : decode cX6_sends 180 = .ok (.iload 5, 2) := by decide +kernel
theorem dX6_sends_182 : decode cX6_sends 182 = .ok (.iaload, 1) := by decide +kernel
theorem dX6_sends_183 : decode cX6_sends 183 = .ok (.ifCond .ne 19, 3) := by decide +kernel
theorem dX6_sends_186 : decode cX6_sends 186 = .ok (.aload_n 0, 1) := by decide +kernel
theorem dX6_sends_187 : decode cX6_sends 187 = .ok (.getfield 32, 3) := by decide +kernel
theorem dX6_sends_190 : decode cX6_sends 190 = .ok (.aload_n 0, 1) := by decide +kernel
theorem dX6_sends_191 : decode cX6_sends 191 = .ok (.getfield 48, 3) := by decide +kernel
theorem dX6_sends_194 : decode cX6_sends 194 = .ok (.iload 5, 2) := by decide +kernel
theorem dX6_sends_196 : decode cX6_sends 196 = .ok (.iaload, 1) := by decide +kernel
theorem dX6_sends_197 : decode cX6_sends 197 = .ok (.aload_n 0, 1) := by decide +kernel
theorem dX6_sends_198 : decode cX6_sends 198 = .ok (.getfield 114, 3) := by decide +kernel
theorem dX6_sends_201 : decode cX6_sends 201 = .ok (.iastore, 1) := by decide +kernel
theorem dX6_sends_202 : decode cX6_sends 202 = .ok (.aload_n 0, 1) := by decide +kernel
theorem dX6_sends_203 : decode cX6_sends 203 = .ok (.getfield 63, 3) := by decide +kernel
theorem dX6_sends_206 : decode cX6_sends 206 = .ok (.iload 4, 2) := by decide +kernel
theorem dX6_sends_208 : decode cX6_sends 208 = .ok (.dup2, 1) := by decide +kernel
theorem dX6_sends_209 : decode cX6_sends 209 = .ok (.iaload, 1) := by decide +kernel
theorem dX6_sends_210 : decode cX6_sends 210 = .ok (.iconst 1, 1) := by decide +kernel
theorem dX6_sends_211 : decode cX6_sends 211 = .ok (.iadd, 1) := by decide +kernel
theorem dX6_sends_212 : decode cX6_sends 212 = .ok (.iastore, 1) := by decide +kernel
theorem dX6_sends_213 : decode cX6_sends 213 = .ok (.aload_n 0, 1) := by decide +kernel
theorem dX6_sends_214 : decode cX6_sends 214 = .ok (.iload 4, 2) := by decide +kernel
theorem dX6_sends_216 : decode cX6_sends 216 = .ok (.aload_n 0, 1) := by decide +kernel
theorem dX6_sends_217 : decode cX6_sends 217 = .ok (.getfield 117, 3) := by decide +kernel
theorem dX6_sends_220 : decode cX6_sends 220 = .ok (.if_icmp .ne 15, 3) := by decide +kernel
theorem dX6_sends_223 : decode cX6_sends 223 = .ok (.aload_n 0, 1) := by decide +kernel
theorem dX6_sends_224 : decode cX6_sends 224 = .ok (.getfield 105, 3) := by decide +kernel
theorem dX6_sends_227 : decode cX6_sends 227 = .ok (.iconst 2, 1) := by decide +kernel
theorem dX6_sends_228 : decode cX6_sends 228 = .ok (.if_icmp .ne 11, 3) := by decide +kernel
theorem dX6_sends_231 : decode cX6_sends 231 = .ok (.iload_n 2, 1) := by decide +kernel
theorem dX6_sends_232 : decode cX6_sends 232 = .ok (.ifCond .ne 7, 3) := by decide +kernel
theorem dX6_sends_235 : decode cX6_sends 235 = .ok (.iconst 1, 1) := by decide +kernel
theorem dX6_sends_236 : decode cX6_sends 236 = .ok (.goto 9, 3) := by decide +kernel
theorem dX6_sends_239 : decode cX6_sends 239 = .ok (.aload_n 0, 1) := by decide +kernel
theorem dX6_sends_240 : decode cX6_sends 240 = .ok (.getfield 120, 3) := by decide +kernel
theorem dX6_sends_243 : decode cX6_sends 243 = .ok (.iconst 1, 1) := by decide +kernel
theorem dX6_sends_244 : decode cX6_sends 244 = .ok (.iadd, 1) := by decide +kernel
theorem dX6_sends_245 : decode cX6_sends 245 = .ok (.putfield 120, 3) := by decide +kernel
theorem dX6_sends_248 : decode cX6_sends 248 = .ok (.aload_n 0, 1) := by decide +kernel
theorem dX6_sends_249 : decode cX6_sends 249 = .ok (.iload 4, 2) := by decide +kernel
theorem dX6_sends_251 : decode cX6_sends 251 = .ok (.putfield 117, 3) := by decide +kernel
theorem dX6_sends_254 : decode cX6_sends 254 = .ok (.return_, 1) := by decide +kernel
theorem dX6_cycle_0 : decode cX6_cycle 0 = .ok (.iconst 0, 1) := by decide +kernel
theorem dX6_cycle_1 : decode cX6_cycle 1 = .ok (.istore_n 1, 1) := by decide +kernel
theorem dX6_cycle_2 : decode cX6_cycle 2 = .ok (.iload_n 1, 1) := by decide +kernel
theorem dX6_cycle_3 : decode cX6_cycle 3 = .ok (.aload_n 0, 1) := by decide +kernel
theorem dX6_cycle_4 : decode cX6_cycle 4 = .ok (.getfield 111, 3) := by decide +kernel
theorem dX6_cycle_7 : decode cX6_cycle 7 = .ok (.if_icmp .ge 53, 3) := by decide +kernel
theorem dX6_cycle_10 : decode cX6_cycle 10 = .ok (.aload_n 0, 1) := by decide +kernel
theorem dX6_cycle_11 : decode cX6_cycle 11 = .ok (.getfield 45, 3) := by decide +kernel
theorem dX6_cycle_14 : decode cX6_cycle 14 = .ok (.iload_n 1, 1) := by decide +kernel
theorem dX6_cycle_15 : decode cX6_cycle 15 = .ok (.aload_n 0, 1) := by decide +kernel
theorem dX6_cycle_16 : decode cX6_cycle 16 = .ok (.getfield 45, 3) := by decide +kernel
theorem dX6_cycle_19 : decode cX6_cycle 19 = .ok (.iload_n 1, 1) := by decide +kernel
theorem dX6_cycle_20 : decode cX6_cycle 20 = .ok (.baload, 1) := by decide +kernel
theorem dX6_cycle_21 : decode cX6_cycle 21 = .ok (.ifCond .eq 31, 3) := by decide +kernel
theorem dX6_cycle_24 : decode cX6_cycle 24 = .ok (.aload_n 0, 1) := by decide +kernel
theorem dX6_cycle_25 : decode cX6_cycle 25 = .ok (.getfield 35, 3) := by decide +kernel
theorem dX6_cycle_28 : decode cX6_cycle 28 = .ok (.iload_n 1, 1) := by decide +kernel
theorem dX6_cycle_29 : decode cX6_cycle 29 = .ok (.iaload, 1) := by decide +kernel
theorem dX6_cycle_30 : decode cX6_cycle 30 = .ok (.iconst (-1), 1) := by decide +kernel
theorem dX6_cycle_31 : decode cX6_cycle 31 = .ok (.if_icmp .ne 17, 3) := by decide +kernel
theorem dX6_cycle_34 : decode cX6_cycle 34 = .ok (.aload_n 0, 1) := by decide +kernel
theorem dX6_cycle_35 : decode cX6_cycle 35 = .ok (.getfield 108, 3) := by decide +kernel
theorem dX6_cycle_38 : decode cX6_cycle 38 = .ok (.ifCond .ne 14, 3) := by decide +kernel
theorem dX6_cycle_41 : decode cX6_cycle 41 = .ok (.aload_n 0, 1) := by decide +kernel
theorem dX6_cycle_42 : decode cX6_cycle 42 = .ok (.getfield 105, 3) := by decide +kernel
theorem dX6_cycle_45 : decode cX6_cycle 45 = .ok (.ifCond .ne 7, 3) := by decide +kernel
theorem dX6_cycle_48 : decode cX6_cycle 48 = .ok (.iconst 1, 1) := by decide +kernel
theorem dX6_cycle_49 : decode cX6_cycle 49 = .ok (.goto 4, 3) := by decide +kernel
theorem dX6_cycle_52 : decode cX6_cycle 52 = .ok (.iconst 0, 1) := by decide +kernel
theorem dX6_cycle_53 : decode cX6_cycle 53 = .ok (.bastore, 1) := by decide +kernel
theorem dX6_cycle_54 : decode cX6_cycle 54 = .ok (.iinc 1 1, 3) := by decide +kernel
theorem dX6_cycle_57 : decode cX6_cycle 57 = .ok (.goto (-55), 3) := by decide +kernel
theorem dX6_cycle_60 : decode cX6_cycle 60 = .ok (.aload_n 0, 1) := by decide +kernel
theorem dX6_cycle_61 : decode cX6_cycle 61 = .ok (.invokevirtual 172, 3) := by decide +kernel
theorem dX6_cycle_64 : decode cX6_cycle 64 = .ok (.aload_n 0, 1) := by decide +kernel
theorem dX6_cycle_65 : decode cX6_cycle 65 = .ok (.invokevirtual 175, 3) := by decide +kernel
theorem dX6_cycle_68 : decode cX6_cycle 68 = .ok (.aload_n 0, 1) := by decide +kernel
theorem dX6_cycle_69 : decode cX6_cycle 69 = .ok (.invokevirtual 178, 3) := by decide +kernel
theorem dX6_cycle_72 : decode cX6_cycle 72 = .ok (.istore_n 1, 1) := by decide +kernel
theorem dX6_cycle_73 : decode cX6_cycle 73 = .ok (.aload_n 0, 1) := by decide +kernel
theorem dX6_cycle_74 : decode cX6_cycle 74 = .ok (.invokevirtual 181, 3) := by decide +kernel
theorem dX6_cycle_77 : decode cX6_cycle 77 = .ok (.aload_n 0, 1) := by decide +kernel
theorem dX6_cycle_78 : decode cX6_cycle 78 = .ok (.dup, 1) := by decide +kernel
theorem dX6_cycle_79 : decode cX6_cycle 79 = .ok (.getfield 114, 3) := by decide +kernel
theorem dX6_cycle_82 : decode cX6_cycle 82 = .ok (.iconst 1, 1) := by decide +kernel
theorem dX6_cycle_83 : decode cX6_cycle 83 = .ok (.iadd, 1) := by decide +kernel
theorem dX6_cycle_84 : decode cX6_cycle 84 = .ok (.putfield 114, 3) := by decide +kernel
theorem dX6_cycle_87 : decode cX6_cycle 87 = .ok (.iload_n 1, 1) := by decide +kernel
theorem dX6_cycle_88 : decode cX6_cycle 88 = .ok (.ireturn, 1) := by decide +kernel
theorem dX6_run_0 : decode cX6_run 0 = .ok (.aload_n 0, 1) := by decide +kernel
theorem dX6_run_1 : decode cX6_run 1 = .ok (.iload_n 1, 1) := by decide +kernel
theorem dX6_run_2 : decode cX6_run 2 = .ok (.iconst 1, 1) := by decide +kernel
theorem dX6_run_3 : decode cX6_run 3 = .ok (.sipush 5000, 3) := by decide +kernel
theorem dX6_run_6 : decode cX6_run 6 = .ok (.invokestatic 92, 3) := by decide +kernel
theorem dX6_run_9 : decode cX6_run 9 = .ok (.ifCond .eq 7, 3) := by decide +kernel
theorem dX6_run_12 : decode cX6_run 12 = .ok (.iconst 0, 1) := by decide +kernel
theorem dX6_run_13 : decode cX6_run 13 = .ok (.goto 4, 3) := by decide +kernel
theorem dX6_run_16 : decode cX6_run 16 = .ok (.iconst 1, 1) := by decide +kernel
theorem dX6_run_17 : decode cX6_run 17 = .ok (.putfield 88, 3) := by decide +kernel
theorem dX6_run_20 : decode cX6_run 20 = .ok (.iconst 0, 1) := by decide +kernel
theorem dX6_run_21 : decode cX6_run 21 = .ok (.istore_n 2, 1) := by decide +kernel
theorem dX6_run_22 : decode cX6_run 22 = .ok (.iconst 0, 1) := by decide +kernel
theorem dX6_run_23 : decode cX6_run 23 = .ok (.istore_n 3, 1) := by decide +kernel
theorem dX6_run_24 : decode cX6_run 24 = .ok (.iload_n 3, 1) := by decide +kernel
theorem dX6_run_25 : decode cX6_run 25 = .ok (.iload_n 1, 1) := by decide +kernel
theorem dX6_run_26 : decode cX6_run 26 = .ok (.if_icmp .ge 23, 3) := by decide +kernel
theorem dX6_run_29 : decode cX6_run 29 = .ok (.aload_n 0, 1) := by decide +kernel
theorem dX6_run_30 : decode cX6_run 30 = .ok (.getfield 88, 3) := by decide +kernel
theorem dX6_run_33 : decode cX6_run 33 = .ok (.ifCond .ne 16, 3) := by decide +kernel
theorem dX6_run_36 : decode cX6_run 36 = .ok (.iload_n 2, 1) := by decide +kernel
theorem dX6_run_37 : decode cX6_run 37 = .ok (.aload_n 0, 1) := by decide +kernel
theorem dX6_run_38 : decode cX6_run 38 = .ok (.invokevirtual 184, 3) := by decide +kernel
theorem dX6_run_41 : decode cX6_run 41 = .ok (.iadd, 1) := by decide +kernel
theorem dX6_run_42 : decode cX6_run 42 = .ok (.istore_n 2, 1) := by decide +kernel
theorem dX6_run_43 : decode cX6_run 43 = .ok (.iinc 3 1, 3) := by decide +kernel
theorem dX6_run_46 : decode cX6_run 46 = .ok (.goto (-22), 3) := by decide +kernel
theorem dX6_run_49 : decode cX6_run 49 = .ok (.iload_n 2, 1) := by decide +kernel
theorem dX6_run_50 : decode cX6_run 50 = .ok (.ireturn, 1) := by decide +kernel
theorem dX6_take_0 : decode cX6_take 0 = .ok (.aload_n 0, 1) := by decide +kernel
theorem dX6_take_1 : decode cX6_take 1 = .ok (.aload_n 0, 1) := by decide +kernel
theorem dX6_take_2 : decode cX6_take 2 = .ok (.iload_n 1, 1) := by decide +kernel
theorem dX6_take_3 : decode cX6_take 3 = .ok (.invokevirtual 132, 3) := by decide +kernel
theorem dX6_take_6 : decode cX6_take 6 = .ok (.ifCond .eq 7, 3) := by decide +kernel
theorem dX6_take_9 : decode cX6_take 9 = .ok (.iconst 0, 1) := by decide +kernel
theorem dX6_take_10 : decode cX6_take 10 = .ok (.goto 4, 3) := by decide +kernel
theorem dX6_take_13 : decode cX6_take 13 = .ok (.iconst 1, 1) := by decide +kernel
theorem dX6_take_14 : decode cX6_take 14 = .ok (.putfield 88, 3) := by decide +kernel
theorem dX6_take_17 : decode cX6_take 17 = .ok (.aload_n 0, 1) := by decide +kernel
theorem dX6_take_18 : decode cX6_take 18 = .ok (.getfield 88, 3) := by decide +kernel
theorem dX6_take_21 : decode cX6_take 21 = .ok (.ifCond .le 5, 3) := by decide +kernel
theorem dX6_take_24 : decode cX6_take 24 = .ok (.iconst 0, 1) := by decide +kernel
theorem dX6_take_25 : decode cX6_take 25 = .ok (.ireturn, 1) := by decide +kernel
theorem dX6_take_26 : decode cX6_take 26 = .ok (.iconst 0, 1) := by decide +kernel
theorem dX6_take_27 : decode cX6_take 27 = .ok (.istore_n 2, 1) := by decide +kernel
theorem dX6_take_28 : decode cX6_take 28 = .ok (.iload_n 2, 1) := by decide +kernel
theorem dX6_take_29 : decode cX6_take 29 = .ok (.aload_n 0, 1) := by decide +kernel
theorem dX6_take_30 : decode cX6_take 30 = .ok (.getfield 111, 3) := by decide +kernel
theorem dX6_take_33 : decode cX6_take 33 = .ok (.if_icmp .ge 93, 3) := by decide +kernel
theorem dX6_take_36 : decode cX6_take 36 = .ok (.aload_n 0, 1) := by decide +kernel
theorem dX6_take_37 : decode cX6_take 37 = .ok (.getfield 19, 3) := by decide +kernel
theorem dX6_take_40 : decode cX6_take 40 = .ok (.iload_n 2, 1) := by decide +kernel
theorem dX6_take_41 : decode cX6_take 41 = .ok (.iaload, 1) := by decide +kernel
theorem dX6_take_42 : decode cX6_take 42 = .ok (.iload_n 1, 1) := by decide +kernel
theorem dX6_take_43 : decode cX6_take 43 = .ok (.if_icmp .ne 77, 3) := by decide +kernel
theorem dX6_take_46 : decode cX6_take 46 = .ok (.aload_n 0, 1) := by decide +kernel
theorem dX6_take_47 : decode cX6_take 47 = .ok (.getfield 35, 3) := by decide +kernel
theorem dX6_take_50 : decode cX6_take 50 = .ok (.iload_n 2, 1) := by decide +kernel
theorem dX6_take_51 : decode cX6_take 51 = .ok (.iaload, 1) := by decide +kernel
theorem dX6_take_52 : decode cX6_take 52 = .ok (.iconst (-1), 1) := by decide +kernel
theorem dX6_take_53 : decode cX6_take 53 = .ok (.if_icmp .eq 67, 3) := by decide +kernel
theorem dX6_take_56 : decode cX6_take 56 = .ok (.aload_n 0, 1) := by decide +kernel
theorem dX6_take_57 : decode cX6_take 57 = .ok (.getfield 41, 3) := by decide +kernel
theorem dX6_take_60 : decode cX6_take 60 = .ok (.iload_n 2, 1) := by decide +kernel
theorem dX6_take_61 : decode cX6_take 61 = .ok (.baload, 1) := by decide +kernel
theorem dX6_take_62 : decode cX6_take 62 = .ok (.ifCond .eq 6, 3) := by decide +kernel
theorem dX6_take_65 : decode cX6_take 65 = .ok (.goto 55, 3) := by decide +kernel
theorem dX6_take_68 : decode cX6_take 68 = .ok (.aload_n 0, 1) := by decide +kernel
theorem dX6_take_69 : decode cX6_take 69 = .ok (.getfield 41, 3) := by decide +kernel
theorem dX6_take_72 : decode cX6_take 72 = .ok (.iload_n 2, 1) := by decide +kernel
theorem dX6_take_73 : decode cX6_take 73 = .ok (.iconst 1, 1) := by decide +kernel
theorem dX6_take_74 : decode cX6_take 74 = .ok (.bastore, 1) := by decide +kernel
theorem dX6_take_75 : decode cX6_take 75 = .ok (.aload_n 0, 1) := by decide +kernel
theorem dX6_take_76 : decode cX6_take 76 = .ok (.aload_n 0, 1) := by decide +kernel
theorem dX6_take_77 : decode cX6_take 77 = .ok (.getfield 22, 3) := by decide +kernel
theorem dX6_take_80 : decode cX6_take 80 = .ok (.iload_n 2, 1) := by decide +kernel
theorem dX6_take_81 : decode cX6_take 81 = .ok (.iaload, 1) := by decide +kernel
theorem dX6_take_82 : decode cX6_take 82 = .ok (.putfield 187, 3) := by decide +kernel
theorem dX6_take_85 : decode cX6_take 85 = .ok (.iconst 0, 1) := by decide +kernel
theorem dX6_take_86 : decode cX6_take 86 = .ok (.istore_n 3, 1) := by decide +kernel
theorem dX6_take_87 : decode cX6_take 87 = .ok (.iload_n 3, 1) := by decide +kernel
theorem dX6_take_88 : decode cX6_take 88 = .ok (.aload_n 0, 1) := by decide +kernel
theorem dX6_take_89 : decode cX6_take 89 = .ok (.getfield 187, 3) := by decide +kernel
theorem dX6_take_92 : decode cX6_take 92 = .ok (.if_icmp .ge 26, 3) := by decide +kernel
theorem dX6_take_95 : decode cX6_take 95 = .ok (.aload_n 0, 1) := by decide +kernel
theorem dX6_take_96 : decode cX6_take 96 = .ok (.getfield 81, 3) := by decide +kernel
theorem dX6_take_99 : decode cX6_take 99 = .ok (.iload_n 3, 1) := by decide +kernel
theorem dX6_take_100 : decode cX6_take 100 = .ok (.aload_n 0, 1) := by decide +kernel
theorem dX6_take_101 : decode cX6_take 101 = .ok (.getfield 25, 3) := by decide +kernel
theorem dX6_take_104 : decode cX6_take 104 = .ok (.bipush 60, 2) := by decide +kernel
theorem dX6_take_106 : decode cX6_take 106 = .ok (.iload_n 2, 1) := by decide +kernel
theorem dX6_take_107 : decode cX6_take 107 = .ok (.imul, 1) := by decide +kernel
theorem dX6_take_108 : decode cX6_take 108 = .ok (.iload_n 3, 1) := by decide +kernel
theorem dX6_take_109 : decode cX6_take 109 = .ok (.iadd, 1) := by decide +kernel
theorem dX6_take_110 : decode cX6_take 110 = .ok (.baload, 1) := by decide +kernel
theorem dX6_take_111 : decode cX6_take 111 = .ok (.bastore, 1) := by decide +kernel
theorem dX6_take_112 : decode cX6_take 112 = .ok (.iinc 3 1, 3) := by decide +kernel
theorem dX6_take_115 : decode cX6_take 115 = .ok (.goto (-28), 3) := by decide +kernel
theorem dX6_take_118 : decode cX6_take 118 = .ok (.iload_n 2, 1) := by decide +kernel
theorem dX6_take_119 : decode cX6_take 119 = .ok (.ireturn, 1) := by decide +kernel
theorem dX6_take_120 : decode cX6_take 120 = .ok (.iinc 2 1, 3) := by decide +kernel
theorem dX6_take_123 : decode cX6_take 123 = .ok (.goto (-95), 3) := by decide +kernel
theorem dX6_take_126 : decode cX6_take 126 = .ok (.iconst (-1), 1) := by decide +kernel
theorem dX6_take_127 : decode cX6_take 127 = .ok (.ireturn, 1) := by decide +kernel
theorem dX6_answer_0 : decode cX6_answer 0 = .ok (.aload_n 0, 1) := by decide +kernel
theorem dX6_answer_1 : decode cX6_answer 1 = .ok (.iconst 0, 1) := by decide +kernel
theorem dX6_answer_2 : decode cX6_answer 2 = .ok (.putfield 88, 3) := by decide +kernel
theorem dX6_answer_5 : decode cX6_answer 5 = .ok (.iload_n 1, 1) := by decide +kernel
theorem dX6_answer_6 : decode cX6_answer 6 = .ok (.ifCond .lt 11, 3) := by decide +kernel
theorem dX6_answer_9 : decode cX6_answer 9 = .ok (.iload_n 1, 1) := by decide +kernel
theorem dX6_answer_10 : decode cX6_answer 10 = .ok (.aload_n 0, 1) := by decide +kernel
theorem dX6_answer_11 : decode cX6_answer 11 = .ok (.getfield 187, 3) := by decide +kernel
theorem dX6_answer_14 : decode cX6_answer 14 = .ok (.if_icmp .lt 7, 3) := by decide +kernel
theorem dX6_answer_17 : decode cX6_answer 17 = .ok (.iconst (-1), 1) := by decide +kernel
theorem dX6_answer_18 : decode cX6_answer 18 = .ok (.goto 13, 3) := by decide +kernel
theorem dX6_answer_21 : decode cX6_answer 21 = .ok (.aload_n 0, 1) := by decide +kernel
theorem dX6_answer_22 : decode cX6_answer 22 = .ok (.getfield 81, 3) := by decide +kernel
theorem dX6_answer_25 : decode cX6_answer 25 = .ok (.iload_n 1, 1) := by decide +kernel
theorem dX6_answer_26 : decode cX6_answer 26 = .ok (.baload, 1) := by decide +kernel
theorem dX6_answer_27 : decode cX6_answer 27 = .ok (.sipush 255, 3) := by decide +kernel
theorem dX6_answer_30 : decode cX6_answer 30 = .ok (.iand, 1) := by decide +kernel
theorem dX6_answer_31 : decode cX6_answer 31 = .ok (.ireturn, 1) := by decide +kernel
theorem dX6_arrived_0 : decode cX6_arrived 0 = .ok (.iconst 0, 1) := by decide +kernel
theorem dX6_arrived_1 : decode cX6_arrived 1 = .ok (.istore_n 3, 1) := by decide +kernel
theorem dX6_arrived_2 : decode cX6_arrived 2 = .ok (.iconst 0, 1) := by decide +kernel
theorem dX6_arrived_3 : decode cX6_arrived 3 = .ok (.istore 4, 2) := by decide +kernel
theorem dX6_arrived_5 : decode cX6_arrived 5 = .ok (.iload 4, 2) := by decide +kernel
theorem dX6_arrived_7 : decode cX6_arrived 7 = .ok (.aload_n 0, 1) := by decide +kernel
theorem dX6_arrived_8 : decode cX6_arrived 8 = .ok (.getfield 111, 3) := by decide +kernel
theorem dX6_arrived_11 : decode cX6_arrived 11 = .ok (.if_icmp .ge 53, 3) := by decide +kernel
theorem dX6_arrived_14 : decode cX6_arrived 14 = .ok (.iload_n 3, 1) := by decide +kernel
theorem dX6_arrived_15 : decode cX6_arrived 15 = .ok (.aload_n 0, 1) := by decide +kernel
theorem dX6_arrived_16 : decode cX6_arrived 16 = .ok (.getfield 19, 3) := by decide +kernel
theorem dX6_arrived_19 : decode cX6_arrived 19 = .ok (.iload 4, 2) := by decide +kernel
theorem dX6_arrived_21 : decode cX6_arrived 21 = .ok (.iaload, 1) := by decide +kernel
theorem dX6_arrived_22 : decode cX6_arrived 22 = .ok (.iload_n 1, 1) := by decide +kernel
theorem dX6_arrived_23 : decode cX6_arrived 23 = .ok (.if_icmp .ne 32, 3) := by decide +kernel
theorem dX6_arrived_26 : decode cX6_arrived 26 = .ok (.aload_n 0, 1) := by decide +kernel
theorem dX6_arrived_27 : decode cX6_arrived 27 = .ok (.getfield 35, 3) := by decide +kernel
theorem dX6_arrived_30 : decode cX6_arrived 30 = .ok (.iload 4, 2) := by decide +kernel
theorem dX6_arrived_32 : decode cX6_arrived 32 = .ok (.iaload, 1) := by decide +kernel
theorem dX6_arrived_33 : decode cX6_arrived 33 = .ok (.iconst (-1), 1) := by decide +kernel
theorem dX6_arrived_34 : decode cX6_arrived 34 = .ok (.if_icmp .eq 21, 3) := by decide +kernel
theorem dX6_arrived_37 : decode cX6_arrived 37 = .ok (.iload_n 2, 1) := by decide +kernel
theorem dX6_arrived_38 : decode cX6_arrived 38 = .ok (.ifCond .eq 13, 3) := by decide +kernel
theorem dX6_arrived_41 : decode cX6_arrived 41 = .ok (.aload_n 0, 1) := by decide +kernel
theorem dX6_arrived_42 : decode cX6_arrived 42 = .ok (.getfield 41, 3) := by decide +kernel
theorem dX6_arrived_45 : decode cX6_arrived 45 = .ok (.iload 4, 2) := by decide +kernel
theorem dX6_arrived_47 : decode cX6_arrived 47 = .ok (.baload, 1) := by decide +kernel
theorem dX6_arrived_48 : decode cX6_arrived 48 = .ok (.ifCond .ne 7, 3) := by decide +kernel
theorem dX6_arrived_51 : decode cX6_arrived 51 = .ok (.iconst 1, 1) := by decide +kernel
theorem dX6_arrived_52 : decode cX6_arrived 52 = .ok (.goto 4, 3) := by decide +kernel
theorem dX6_arrived_55 : decode cX6_arrived 55 = .ok (.iconst 0, 1) := by decide +kernel
theorem dX6_arrived_56 : decode cX6_arrived 56 = .ok (.iadd, 1) := by decide +kernel
theorem dX6_arrived_57 : decode cX6_arrived 57 = .ok (.istore_n 3, 1) := by decide +kernel
theorem dX6_arrived_58 : decode cX6_arrived 58 = .ok (.iinc 4 1, 3) := by decide +kernel
theorem dX6_arrived_61 : decode cX6_arrived 61 = .ok (.goto (-56), 3) := by decide +kernel
theorem dX6_arrived_64 : decode cX6_arrived 64 = .ok (.iload_n 3, 1) := by decide +kernel
theorem dX6_arrived_65 : decode cX6_arrived 65 = .ok (.ireturn, 1) := by decide +kernel
theorem dX6_together_0 : decode cX6_together 0 = .ok (.iconst 0, 1) := by decide +kernel
theorem dX6_together_1 : decode cX6_together 1 = .ok (.istore_n 2, 1) := by decide +kernel
theorem dX6_together_2 : decode cX6_together 2 = .ok (.iconst 0, 1) := by decide +kernel
theorem dX6_together_3 : decode cX6_together 3 = .ok (.istore_n 3, 1) := by decide +kernel
theorem dX6_together_4 : decode cX6_together 4 = .ok (.iload_n 3, 1) := by decide +kernel
theorem dX6_together_5 : decode cX6_together 5 = .ok (.aload_n 0, 1) := by decide +kernel
theorem dX6_together_6 : decode cX6_together 6 = .ok (.getfield 69, 3) := by decide +kernel
theorem dX6_together_9 : decode cX6_together 9 = .ok (.iload_n 1, 1) := by decide +kernel
theorem dX6_together_10 : decode cX6_together 10 = .ok (.iaload, 1) := by decide +kernel
theorem dX6_together_11 : decode cX6_together 11 = .ok (.if_icmp .ge 43, 3) := by decide +kernel
theorem dX6_together_14 : decode cX6_together 14 = .ok (.iload_n 2, 1) := by decide +kernel
theorem dX6_together_15 : decode cX6_together 15 = .ok (.aload_n 0, 1) := by decide +kernel
theorem dX6_together_16 : decode cX6_together 16 = .ok (.getfield 35, 3) := by decide +kernel
theorem dX6_together_19 : decode cX6_together 19 = .ok (.aload_n 0, 1) := by decide +kernel
theorem dX6_together_20 : decode cX6_together 20 = .ok (.getfield 48, 3) := by decide +kernel
theorem dX6_together_23 : decode cX6_together 23 = .ok (.sipush 4000, 3) := by decide +kernel
theorem dX6_together_26 : decode cX6_together 26 = .ok (.iload_n 1, 1) := by decide +kernel
theorem dX6_together_27 : decode cX6_together 27 = .ok (.imul, 1) := by decide +kernel
theorem dX6_together_28 : decode cX6_together 28 = .ok (.iload_n 3, 1) := by decide +kernel
theorem dX6_together_29 : decode cX6_together 29 = .ok (.iadd, 1) := by decide +kernel
theorem dX6_together_30 : decode cX6_together 30 = .ok (.iaload, 1) := by decide +kernel
theorem dX6_together_31 : decode cX6_together 31 = .ok (.iaload, 1) := by decide +kernel
theorem dX6_together_32 : decode cX6_together 32 = .ok (.iconst (-1), 1) := by decide +kernel
theorem dX6_together_33 : decode cX6_together 33 = .ok (.if_icmp .ne 12, 3) := by decide +kernel
theorem dX6_together_36 : decode cX6_together 36 = .ok (.aload_n 0, 1) := by decide +kernel
theorem dX6_together_37 : decode cX6_together 37 = .ok (.iload_n 1, 1) := by decide +kernel
theorem dX6_together_38 : decode cX6_together 38 = .ok (.iload_n 3, 1) := by decide +kernel
theorem dX6_together_39 : decode cX6_together 39 = .ok (.invokevirtual 190, 3) := by decide +kernel
theorem dX6_together_42 : decode cX6_together 42 = .ok (.goto 4, 3) := by decide +kernel
theorem dX6_together_45 : decode cX6_together 45 = .ok (.iconst 0, 1) := by decide +kernel
theorem dX6_together_46 : decode cX6_together 46 = .ok (.iadd, 1) := by decide +kernel
theorem dX6_together_47 : decode cX6_together 47 = .ok (.istore_n 2, 1) := by decide +kernel
theorem dX6_together_48 : decode cX6_together 48 = .ok (.iinc 3 1, 3) := by decide +kernel
theorem dX6_together_51 : decode cX6_together 51 = .ok (.goto (-47), 3) := by decide +kernel
theorem dX6_together_54 : decode cX6_together 54 = .ok (.iload_n 2, 1) := by decide +kernel
theorem dX6_together_55 : decode cX6_together 55 = .ok (.ireturn, 1) := by decide +kernel
theorem dX6_look_0 : decode cX6_look 0 = .ok (.aload_n 0, 1) := by decide +kernel
theorem dX6_look_1 : decode cX6_look 1 = .ok (.iconst 0, 1) := by decide +kernel
theorem dX6_look_2 : decode cX6_look 2 = .ok (.putfield 88, 3) := by decide +kernel
theorem dX6_look_5 : decode cX6_look 5 = .ok (.aload_n 0, 1) := by decide +kernel
theorem dX6_look_6 : decode cX6_look 6 = .ok (.iload_n 1, 1) := by decide +kernel
theorem dX6_look_7 : decode cX6_look 7 = .ok (.invokevirtual 132, 3) := by decide +kernel
theorem dX6_look_10 : decode cX6_look 10 = .ok (.ifCond .ne 5, 3) := by decide +kernel
theorem dX6_look_13 : decode cX6_look 13 = .ok (.iconst (-1), 1) := by decide +kernel
theorem dX6_look_14 : decode cX6_look 14 = .ok (.ireturn, 1) := by decide +kernel
theorem dX6_look_15 : decode cX6_look 15 = .ok (.iload_n 2, 1) := by decide +kernel
theorem dX6_look_16 : decode cX6_look 16 = .ok (.tableswitch 174 0 11 #[64, 71, 78, 84, 98, 112, 126, 140, 147, 154, 161, 167], 64) := by decide +kernel
theorem dX6_look_80 : decode cX6_look 80 = .ok (.aload_n 0, 1) := by decide +kernel
theorem dX6_look_81 : decode cX6_look 81 = .ok (.getfield 9, 3) := by decide +kernel
theorem dX6_look_84 : decode cX6_look 84 = .ok (.iload_n 1, 1) := by decide +kernel
theorem dX6_look_85 : decode cX6_look 85 = .ok (.iaload, 1) := by decide +kernel
theorem dX6_look_86 : decode cX6_look 86 = .ok (.ireturn, 1) := by decide +kernel
theorem dX6_look_87 : decode cX6_look 87 = .ok (.aload_n 0, 1) := by decide +kernel
theorem dX6_look_88 : decode cX6_look 88 = .ok (.getfield 13, 3) := by decide +kernel
theorem dX6_look_91 : decode cX6_look 91 = .ok (.iload_n 1, 1) := by decide +kernel
theorem dX6_look_92 : decode cX6_look 92 = .ok (.iaload, 1) := by decide +kernel
theorem dX6_look_93 : decode cX6_look 93 = .ok (.ireturn, 1) := by decide +kernel
theorem dX6_look_94 : decode cX6_look 94 = .ok (.aload_n 0, 1) := by decide +kernel
theorem dX6_look_95 : decode cX6_look 95 = .ok (.iload_n 1, 1) := by decide +kernel
theorem dX6_look_96 : decode cX6_look 96 = .ok (.invokevirtual 152, 3) := by decide +kernel
theorem dX6_look_99 : decode cX6_look 99 = .ok (.ireturn, 1) := by decide +kernel
theorem dX6_look_100 : decode cX6_look 100 = .ok (.aload_n 0, 1) := by decide +kernel
theorem dX6_look_101 : decode cX6_look 101 = .ok (.getfield 69, 3) := by decide +kernel
theorem dX6_look_104 : decode cX6_look 104 = .ok (.iload_n 1, 1) := by decide +kernel
theorem dX6_look_105 : decode cX6_look 105 = .ok (.iaload, 1) := by decide +kernel
theorem dX6_look_106 : decode cX6_look 106 = .ok (.aload_n 0, 1) := by decide +kernel
theorem dX6_look_107 : decode cX6_look 107 = .ok (.getfield 72, 3) := by decide +kernel
theorem dX6_look_110 : decode cX6_look 110 = .ok (.iload_n 1, 1) := by decide +kernel
theorem dX6_look_111 : decode cX6_look 111 = .ok (.iaload, 1) := by decide +kernel
theorem dX6_look_112 : decode cX6_look 112 = .ok (.isub, 1) := by decide +kernel
theorem dX6_look_113 : decode cX6_look 113 = .ok (.ireturn, 1) := by decide +kernel
theorem dX6_look_114 : decode cX6_look 114 = .ok (.aload_n 0, 1) := by decide +kernel
theorem dX6_look_115 : decode cX6_look 115 = .ok (.getfield 63, 3) := by decide +kernel
theorem dX6_look_118 : decode cX6_look 118 = .ok (.iload_n 1, 1) := by decide +kernel
theorem dX6_look_119 : decode cX6_look 119 = .ok (.iaload, 1) := by decide +kernel
theorem dX6_look_120 : decode cX6_look 120 = .ok (.aload_n 0, 1) := by decide +kernel
theorem dX6_look_121 : decode cX6_look 121 = .ok (.getfield 66, 3) := by decide +kernel
theorem dX6_look_124 : decode cX6_look 124 = .ok (.iload_n 1, 1) := by decide +kernel
theorem dX6_look_125 : decode cX6_look 125 = .ok (.iaload, 1) := by decide +kernel
theorem dX6_look_126 : decode cX6_look 126 = .ok (.isub, 1) := by decide +kernel
theorem dX6_look_127 : decode cX6_look 127 = .ok (.ireturn, 1) := by decide +kernel
theorem dX6_look_128 : decode cX6_look 128 = .ok (.aload_n 0, 1) := by decide +kernel
theorem dX6_look_129 : decode cX6_look 129 = .ok (.getfield 66, 3) := by decide +kernel
theorem dX6_look_132 : decode cX6_look 132 = .ok (.iload_n 1, 1) := by decide +kernel
theorem dX6_look_133 : decode cX6_look 133 = .ok (.iaload, 1) := by decide +kernel
theorem dX6_look_134 : decode cX6_look 134 = .ok (.aload_n 0, 1) := by decide +kernel
theorem dX6_look_135 : decode cX6_look 135 = .ok (.getfield 69, 3) := by decide +kernel
theorem dX6_look_138 : decode cX6_look 138 = .ok (.iload_n 1, 1) := by decide +kernel
theorem dX6_look_139 : decode cX6_look 139 = .ok (.iaload, 1) := by decide +kernel
theorem dX6_look_140 : decode cX6_look 140 = .ok (.isub, 1) := by decide +kernel
theorem dX6_look_141 : decode cX6_look 141 = .ok (.ireturn, 1) := by decide +kernel
theorem dX6_look_142 : decode cX6_look 142 = .ok (.aload_n 0, 1) := by decide +kernel
theorem dX6_look_143 : decode cX6_look 143 = .ok (.getfield 60, 3) := by decide +kernel
theorem dX6_look_146 : decode cX6_look 146 = .ok (.iload_n 1, 1) := by decide +kernel
theorem dX6_look_147 : decode cX6_look 147 = .ok (.iaload, 1) := by decide +kernel
theorem dX6_look_148 : decode cX6_look 148 = .ok (.aload_n 0, 1) := by decide +kernel
theorem dX6_look_149 : decode cX6_look 149 = .ok (.getfield 63, 3) := by decide +kernel
theorem dX6_look_152 : decode cX6_look 152 = .ok (.iload_n 1, 1) := by decide +kernel
theorem dX6_look_153 : decode cX6_look 153 = .ok (.iaload, 1) := by decide +kernel
theorem dX6_look_154 : decode cX6_look 154 = .ok (.isub, 1) := by decide +kernel
theorem dX6_look_155 : decode cX6_look 155 = .ok (.ireturn, 1) := by decide +kernel
theorem dX6_look_156 : decode cX6_look 156 = .ok (.aload_n 0, 1) := by decide +kernel
theorem dX6_look_157 : decode cX6_look 157 = .ok (.getfield 63, 3) := by decide +kernel
theorem dX6_look_160 : decode cX6_look 160 = .ok (.iload_n 1, 1) := by decide +kernel
theorem dX6_look_161 : decode cX6_look 161 = .ok (.iaload, 1) := by decide +kernel
theorem dX6_look_162 : decode cX6_look 162 = .ok (.ireturn, 1) := by decide +kernel
theorem dX6_look_163 : decode cX6_look 163 = .ok (.aload_n 0, 1) := by decide +kernel
theorem dX6_look_164 : decode cX6_look 164 = .ok (.iload_n 1, 1) := by decide +kernel
theorem dX6_look_165 : decode cX6_look 165 = .ok (.iconst 0, 1) := by decide +kernel
theorem dX6_look_166 : decode cX6_look 166 = .ok (.invokevirtual 193, 3) := by decide +kernel
theorem dX6_look_169 : decode cX6_look 169 = .ok (.ireturn, 1) := by decide +kernel
theorem dX6_look_170 : decode cX6_look 170 = .ok (.aload_n 0, 1) := by decide +kernel
theorem dX6_look_171 : decode cX6_look 171 = .ok (.iload_n 1, 1) := by decide +kernel
theorem dX6_look_172 : decode cX6_look 172 = .ok (.iconst 1, 1) := by decide +kernel
theorem dX6_look_173 : decode cX6_look 173 = .ok (.invokevirtual 193, 3) := by decide +kernel
theorem dX6_look_176 : decode cX6_look 176 = .ok (.ireturn, 1) := by decide +kernel
theorem dX6_look_177 : decode cX6_look 177 = .ok (.aload_n 0, 1) := by decide +kernel
theorem dX6_look_178 : decode cX6_look 178 = .ok (.iload_n 1, 1) := by decide +kernel
theorem dX6_look_179 : decode cX6_look 179 = .ok (.invokevirtual 197, 3) := by decide +kernel
theorem dX6_look_182 : decode cX6_look 182 = .ok (.ireturn, 1) := by decide +kernel
theorem dX6_look_183 : decode cX6_look 183 = .ok (.aload_n 0, 1) := by decide +kernel
theorem dX6_look_184 : decode cX6_look 184 = .ok (.getfield 75, 3) := by decide +kernel
theorem dX6_look_187 : decode cX6_look 187 = .ok (.iload_n 1, 1) := by decide +kernel
theorem dX6_look_188 : decode cX6_look 188 = .ok (.iaload, 1) := by decide +kernel
theorem dX6_look_189 : decode cX6_look 189 = .ok (.ireturn, 1) := by decide +kernel
theorem dX6_look_190 : decode cX6_look 190 = .ok (.iconst (-1), 1) := by decide +kernel
theorem dX6_look_191 : decode cX6_look 191 = .ok (.ireturn, 1) := by decide +kernel
theorem dX6_packet_0 : decode cX6_packet 0 = .ok (.aload_n 0, 1) := by decide +kernel
theorem dX6_packet_1 : decode cX6_packet 1 = .ok (.iconst 0, 1) := by decide +kernel
theorem dX6_packet_2 : decode cX6_packet 2 = .ok (.putfield 88, 3) := by decide +kernel
theorem dX6_packet_5 : decode cX6_packet 5 = .ok (.iload_n 1, 1) := by decide +kernel
theorem dX6_packet_6 : decode cX6_packet 6 = .ok (.ifCond .lt 11, 3) := by decide +kernel
theorem dX6_packet_9 : decode cX6_packet 9 = .ok (.iload_n 1, 1) := by decide +kernel
theorem dX6_packet_10 : decode cX6_packet 10 = .ok (.aload_n 0, 1) := by decide +kernel
theorem dX6_packet_11 : decode cX6_packet 11 = .ok (.getfield 111, 3) := by decide +kernel
theorem dX6_packet_14 : decode cX6_packet 14 = .ok (.if_icmp .lt 5, 3) := by decide +kernel
theorem dX6_packet_17 : decode cX6_packet 17 = .ok (.iconst (-1), 1) := by decide +kernel
theorem dX6_packet_18 : decode cX6_packet 18 = .ok (.ireturn, 1) := by decide +kernel
theorem dX6_packet_19 : decode cX6_packet 19 = .ok (.iload_n 2, 1) := by decide +kernel
theorem dX6_packet_20 : decode cX6_packet 20 = .ok (.tableswitch 115 0 7 #[48, 55, 62, 72, 79, 86, 93, 100], 48) := by decide +kernel
theorem dX6_packet_68 : decode cX6_packet 68 = .ok (.aload_n 0, 1) := by decide +kernel
theorem dX6_packet_69 : decode cX6_packet 69 = .ok (.getfield 19, 3) := by decide +kernel
theorem dX6_packet_72 : decode cX6_packet 72 = .ok (.iload_n 1, 1) := by decide +kernel
theorem dX6_packet_73 : decode cX6_packet 73 = .ok (.iaload, 1) := by decide +kernel
theorem dX6_packet_74 : decode cX6_packet 74 = .ok (.ireturn, 1) := by decide +kernel
theorem dX6_packet_75 : decode cX6_packet 75 = .ok (.aload_n 0, 1) := by decide +kernel
theorem dX6_packet_76 : decode cX6_packet 76 = .ok (.getfield 22, 3) := by decide +kernel
theorem dX6_packet_79 : decode cX6_packet 79 = .ok (.iload_n 1, 1) := by decide +kernel
theorem dX6_packet_80 : decode cX6_packet 80 = .ok (.iaload, 1) := by decide +kernel
theorem dX6_packet_81 : decode cX6_packet 81 = .ok (.ireturn, 1) := by decide +kernel
theorem dX6_packet_82 : decode cX6_packet 82 = .ok (.aload_n 0, 1) := by decide +kernel
theorem dX6_packet_83 : decode cX6_packet 83 = .ok (.getfield 22, 3) := by decide +kernel
theorem dX6_packet_86 : decode cX6_packet 86 = .ok (.iload_n 1, 1) := by decide +kernel
theorem dX6_packet_87 : decode cX6_packet 87 = .ok (.iaload, 1) := by decide +kernel
theorem dX6_packet_88 : decode cX6_packet 88 = .ok (.invokestatic 145, 3) := by decide +kernel
theorem dX6_packet_91 : decode cX6_packet 91 = .ok (.ireturn, 1) := by decide +kernel
theorem dX6_packet_92 : decode cX6_packet 92 = .ok (.aload_n 0, 1) := by decide +kernel
theorem dX6_packet_93 : decode cX6_packet 93 = .ok (.getfield 29, 3) := by decide +kernel
theorem dX6_packet_96 : decode cX6_packet 96 = .ok (.iload_n 1, 1) := by decide +kernel
theorem dX6_packet_97 : decode cX6_packet 97 = .ok (.iaload, 1) := by decide +kernel
theorem dX6_packet_98 : decode cX6_packet 98 = .ok (.ireturn, 1) := by decide +kernel
theorem dX6_packet_99 : decode cX6_packet 99 = .ok (.aload_n 0, 1) := by decide +kernel
theorem dX6_packet_100 : decode cX6_packet 100 = .ok (.getfield 32, 3) := by decide +kernel
theorem dX6_packet_103 : decode cX6_packet 103 = .ok (.iload_n 1, 1) := by decide +kernel
theorem dX6_packet_104 : decode cX6_packet 104 = .ok (.iaload, 1) := by decide +kernel
theorem dX6_packet_105 : decode cX6_packet 105 = .ok (.ireturn, 1) := by decide +kernel
theorem dX6_packet_106 : decode cX6_packet 106 = .ok (.aload_n 0, 1) := by decide +kernel
theorem dX6_packet_107 : decode cX6_packet 107 = .ok (.getfield 35, 3) := by decide +kernel
theorem dX6_packet_110 : decode cX6_packet 110 = .ok (.iload_n 1, 1) := by decide +kernel
theorem dX6_packet_111 : decode cX6_packet 111 = .ok (.iaload, 1) := by decide +kernel
theorem dX6_packet_112 : decode cX6_packet 112 = .ok (.ireturn, 1) := by decide +kernel
theorem dX6_packet_113 : decode cX6_packet 113 = .ok (.aload_n 0, 1) := by decide +kernel
theorem dX6_packet_114 : decode cX6_packet 114 = .ok (.getfield 38, 3) := by decide +kernel
theorem dX6_packet_117 : decode cX6_packet 117 = .ok (.iload_n 1, 1) := by decide +kernel
theorem dX6_packet_118 : decode cX6_packet 118 = .ok (.iaload, 1) := by decide +kernel
theorem dX6_packet_119 : decode cX6_packet 119 = .ok (.ireturn, 1) := by decide +kernel
theorem dX6_packet_120 : decode cX6_packet 120 = .ok (.aload_n 0, 1) := by decide +kernel
theorem dX6_packet_121 : decode cX6_packet 121 = .ok (.getfield 41, 3) := by decide +kernel
theorem dX6_packet_124 : decode cX6_packet 124 = .ok (.iload_n 1, 1) := by decide +kernel
theorem dX6_packet_125 : decode cX6_packet 125 = .ok (.baload, 1) := by decide +kernel
theorem dX6_packet_126 : decode cX6_packet 126 = .ok (.ifCond .eq 7, 3) := by decide +kernel
theorem dX6_packet_129 : decode cX6_packet 129 = .ok (.iconst 1, 1) := by decide +kernel
theorem dX6_packet_130 : decode cX6_packet 130 = .ok (.goto 4, 3) := by decide +kernel
theorem dX6_packet_133 : decode cX6_packet 133 = .ok (.iconst 0, 1) := by decide +kernel
theorem dX6_packet_134 : decode cX6_packet 134 = .ok (.ireturn, 1) := by decide +kernel
theorem dX6_packet_135 : decode cX6_packet 135 = .ok (.iconst (-1), 1) := by decide +kernel
theorem dX6_packet_136 : decode cX6_packet 136 = .ok (.ireturn, 1) := by decide +kernel
theorem dX6_flit_0 : decode cX6_flit 0 = .ok (.iload_n 3, 1) := by decide +kernel
theorem dX6_flit_1 : decode cX6_flit 1 = .ok (.tableswitch 66 0 3 #[31, 33, 46, 59], 31) := by decide +kernel
theorem dX6_flit_32 : decode cX6_flit 32 = .ok (.iload_n 1, 1) := by decide +kernel
theorem dX6_flit_33 : decode cX6_flit 33 = .ok (.ireturn, 1) := by decide +kernel
theorem dX6_flit_34 : decode cX6_flit 34 = .ok (.aload_n 0, 1) := by decide +kernel
theorem dX6_flit_35 : decode cX6_flit 35 = .ok (.getfield 48, 3) := by decide +kernel
theorem dX6_flit_38 : decode cX6_flit 38 = .ok (.sipush 4000, 3) := by decide +kernel
theorem dX6_flit_41 : decode cX6_flit 41 = .ok (.iload_n 1, 1) := by decide +kernel
theorem dX6_flit_42 : decode cX6_flit 42 = .ok (.imul, 1) := by decide +kernel
theorem dX6_flit_43 : decode cX6_flit 43 = .ok (.iload_n 2, 1) := by decide +kernel
theorem dX6_flit_44 : decode cX6_flit 44 = .ok (.iadd, 1) := by decide +kernel
theorem dX6_flit_45 : decode cX6_flit 45 = .ok (.iaload, 1) := by decide +kernel
theorem dX6_flit_46 : decode cX6_flit 46 = .ok (.ireturn, 1) := by decide +kernel
theorem dX6_flit_47 : decode cX6_flit 47 = .ok (.aload_n 0, 1) := by decide +kernel
theorem dX6_flit_48 : decode cX6_flit 48 = .ok (.getfield 51, 3) := by decide +kernel
theorem dX6_flit_51 : decode cX6_flit 51 = .ok (.sipush 4000, 3) := by decide +kernel
theorem dX6_flit_54 : decode cX6_flit 54 = .ok (.iload_n 1, 1) := by decide +kernel
theorem dX6_flit_55 : decode cX6_flit 55 = .ok (.imul, 1) := by decide +kernel
theorem dX6_flit_56 : decode cX6_flit 56 = .ok (.iload_n 2, 1) := by decide +kernel
theorem dX6_flit_57 : decode cX6_flit 57 = .ok (.iadd, 1) := by decide +kernel
theorem dX6_flit_58 : decode cX6_flit 58 = .ok (.iaload, 1) := by decide +kernel
theorem dX6_flit_59 : decode cX6_flit 59 = .ok (.ireturn, 1) := by decide +kernel
theorem dX6_flit_60 : decode cX6_flit 60 = .ok (.aload_n 0, 1) := by decide +kernel
theorem dX6_flit_61 : decode cX6_flit 61 = .ok (.iload_n 1, 1) := by decide +kernel
theorem dX6_flit_62 : decode cX6_flit 62 = .ok (.iload_n 2, 1) := by decide +kernel
theorem dX6_flit_63 : decode cX6_flit 63 = .ok (.invokevirtual 190, 3) := by decide +kernel
theorem dX6_flit_66 : decode cX6_flit 66 = .ok (.ireturn, 1) := by decide +kernel
theorem dX6_flit_67 : decode cX6_flit 67 = .ok (.iconst (-1), 1) := by decide +kernel
theorem dX6_flit_68 : decode cX6_flit 68 = .ok (.ireturn, 1) := by decide +kernel
theorem dX6_wire_0 : decode cX6_wire 0 = .ok (.aload_n 0, 1) := by decide +kernel
theorem dX6_wire_1 : decode cX6_wire 1 = .ok (.iconst 0, 1) := by decide +kernel
theorem dX6_wire_2 : decode cX6_wire 2 = .ok (.putfield 88, 3) := by decide +kernel
theorem dX6_wire_5 : decode cX6_wire 5 = .ok (.iconst 0, 1) := by decide +kernel
theorem dX6_wire_6 : decode cX6_wire 6 = .ok (.istore_n 3, 1) := by decide +kernel
theorem dX6_wire_7 : decode cX6_wire 7 = .ok (.iload_n 3, 1) := by decide +kernel
theorem dX6_wire_8 : decode cX6_wire 8 = .ok (.aload_n 0, 1) := by decide +kernel
theorem dX6_wire_9 : decode cX6_wire 9 = .ok (.getfield 96, 3) := by decide +kernel
theorem dX6_wire_12 : decode cX6_wire 12 = .ok (.if_icmp .ge 74, 3) := by decide +kernel
theorem dX6_wire_15 : decode cX6_wire 15 = .ok (.iload_n 1, 1) := by decide +kernel
theorem dX6_wire_16 : decode cX6_wire 16 = .ok (.ifCond .lt 70, 3) := by decide +kernel
theorem dX6_wire_19 : decode cX6_wire 19 = .ok (.aload_n 0, 1) := by decide +kernel
theorem dX6_wire_20 : decode cX6_wire 20 = .ok (.getfield 66, 3) := by decide +kernel
theorem dX6_wire_23 : decode cX6_wire 23 = .ok (.iload_n 3, 1) := by decide +kernel
theorem dX6_wire_24 : decode cX6_wire 24 = .ok (.iaload, 1) := by decide +kernel
theorem dX6_wire_25 : decode cX6_wire 25 = .ok (.istore 4, 2) := by decide +kernel
theorem dX6_wire_27 : decode cX6_wire 27 = .ok (.iload 4, 2) := by decide +kernel
theorem dX6_wire_29 : decode cX6_wire 29 = .ok (.aload_n 0, 1) := by decide +kernel
theorem dX6_wire_30 : decode cX6_wire 30 = .ok (.getfield 63, 3) := by decide +kernel
theorem dX6_wire_33 : decode cX6_wire 33 = .ok (.iload_n 3, 1) := by decide +kernel
theorem dX6_wire_34 : decode cX6_wire 34 = .ok (.iaload, 1) := by decide +kernel
theorem dX6_wire_35 : decode cX6_wire 35 = .ok (.if_icmp .ge 45, 3) := by decide +kernel
theorem dX6_wire_38 : decode cX6_wire 38 = .ok (.aload_n 0, 1) := by decide +kernel
theorem dX6_wire_39 : decode cX6_wire 39 = .ok (.getfield 54, 3) := by decide +kernel
theorem dX6_wire_42 : decode cX6_wire 42 = .ok (.sipush 4000, 3) := by decide +kernel
theorem dX6_wire_45 : decode cX6_wire 45 = .ok (.iload_n 3, 1) := by decide +kernel
theorem dX6_wire_46 : decode cX6_wire 46 = .ok (.imul, 1) := by decide +kernel
theorem dX6_wire_47 : decode cX6_wire 47 = .ok (.iload 4, 2) := by decide +kernel
theorem dX6_wire_49 : decode cX6_wire 49 = .ok (.iadd, 1) := by decide +kernel
theorem dX6_wire_50 : decode cX6_wire 50 = .ok (.iaload, 1) := by decide +kernel
theorem dX6_wire_51 : decode cX6_wire 51 = .ok (.aload_n 0, 1) := by decide +kernel
theorem dX6_wire_52 : decode cX6_wire 52 = .ok (.getfield 99, 3) := by decide +kernel
theorem dX6_wire_55 : decode cX6_wire 55 = .ok (.iadd, 1) := by decide +kernel
theorem dX6_wire_56 : decode cX6_wire 56 = .ok (.aload_n 0, 1) := by decide +kernel
theorem dX6_wire_57 : decode cX6_wire 57 = .ok (.getfield 114, 3) := by decide +kernel
theorem dX6_wire_60 : decode cX6_wire 60 = .ok (.isub, 1) := by decide +kernel
theorem dX6_wire_61 : decode cX6_wire 61 = .ok (.iload_n 1, 1) := by decide +kernel
theorem dX6_wire_62 : decode cX6_wire 62 = .ok (.if_icmp .ne 12, 3) := by decide +kernel
theorem dX6_wire_65 : decode cX6_wire 65 = .ok (.aload_n 0, 1) := by decide +kernel
theorem dX6_wire_66 : decode cX6_wire 66 = .ok (.iload_n 3, 1) := by decide +kernel
theorem dX6_wire_67 : decode cX6_wire 67 = .ok (.iload 4, 2) := by decide +kernel
theorem dX6_wire_69 : decode cX6_wire 69 = .ok (.iload_n 2, 1) := by decide +kernel
theorem dX6_wire_70 : decode cX6_wire 70 = .ok (.invokevirtual 200, 3) := by decide +kernel
theorem dX6_wire_73 : decode cX6_wire 73 = .ok (.ireturn, 1) := by decide +kernel
theorem dX6_wire_74 : decode cX6_wire 74 = .ok (.iinc 4 1, 3) := by decide +kernel
theorem dX6_wire_77 : decode cX6_wire 77 = .ok (.goto (-50), 3) := by decide +kernel
theorem dX6_wire_80 : decode cX6_wire 80 = .ok (.iinc 3 1, 3) := by decide +kernel
theorem dX6_wire_83 : decode cX6_wire 83 = .ok (.goto (-76), 3) := by decide +kernel
theorem dX6_wire_86 : decode cX6_wire 86 = .ok (.iconst (-1), 1) := by decide +kernel
theorem dX6_wire_87 : decode cX6_wire 87 = .ok (.ireturn, 1) := by decide +kernel
theorem dX6_buffer_0 : decode cX6_buffer 0 = .ok (.aload_n 0, 1) := by decide +kernel
theorem dX6_buffer_1 : decode cX6_buffer 1 = .ok (.iconst 0, 1) := by decide +kernel
theorem dX6_buffer_2 : decode cX6_buffer 2 = .ok (.putfield 88, 3) := by decide +kernel
theorem dX6_buffer_5 : decode cX6_buffer 5 = .ok (.aload_n 0, 1) := by decide +kernel
theorem dX6_buffer_6 : decode cX6_buffer 6 = .ok (.iload_n 1, 1) := by decide +kernel
theorem dX6_buffer_7 : decode cX6_buffer 7 = .ok (.invokevirtual 132, 3) := by decide +kernel
theorem dX6_buffer_10 : decode cX6_buffer 10 = .ok (.ifCond .eq 24, 3) := by decide +kernel
theorem dX6_buffer_13 : decode cX6_buffer 13 = .ok (.iload_n 2, 1) := by decide +kernel
theorem dX6_buffer_14 : decode cX6_buffer 14 = .ok (.ifCond .lt 20, 3) := by decide +kernel
theorem dX6_buffer_17 : decode cX6_buffer 17 = .ok (.iload_n 2, 1) := by decide +kernel
theorem dX6_buffer_18 : decode cX6_buffer 18 = .ok (.aload_n 0, 1) := by decide +kernel
theorem dX6_buffer_19 : decode cX6_buffer 19 = .ok (.getfield 66, 3) := by decide +kernel
theorem dX6_buffer_22 : decode cX6_buffer 22 = .ok (.iload_n 1, 1) := by decide +kernel
theorem dX6_buffer_23 : decode cX6_buffer 23 = .ok (.iaload, 1) := by decide +kernel
theorem dX6_buffer_24 : decode cX6_buffer 24 = .ok (.aload_n 0, 1) := by decide +kernel
theorem dX6_buffer_25 : decode cX6_buffer 25 = .ok (.getfield 69, 3) := by decide +kernel
theorem dX6_buffer_28 : decode cX6_buffer 28 = .ok (.iload_n 1, 1) := by decide +kernel
theorem dX6_buffer_29 : decode cX6_buffer 29 = .ok (.iaload, 1) := by decide +kernel
theorem dX6_buffer_30 : decode cX6_buffer 30 = .ok (.isub, 1) := by decide +kernel
theorem dX6_buffer_31 : decode cX6_buffer 31 = .ok (.if_icmp .lt 7, 3) := by decide +kernel
theorem dX6_buffer_34 : decode cX6_buffer 34 = .ok (.iconst (-1), 1) := by decide +kernel
theorem dX6_buffer_35 : decode cX6_buffer 35 = .ok (.goto 17, 3) := by decide +kernel
theorem dX6_buffer_38 : decode cX6_buffer 38 = .ok (.aload_n 0, 1) := by decide +kernel
theorem dX6_buffer_39 : decode cX6_buffer 39 = .ok (.iload_n 1, 1) := by decide +kernel
theorem dX6_buffer_40 : decode cX6_buffer 40 = .ok (.aload_n 0, 1) := by decide +kernel
theorem dX6_buffer_41 : decode cX6_buffer 41 = .ok (.getfield 69, 3) := by decide +kernel
theorem dX6_buffer_44 : decode cX6_buffer 44 = .ok (.iload_n 1, 1) := by decide +kernel
theorem dX6_buffer_45 : decode cX6_buffer 45 = .ok (.iaload, 1) := by decide +kernel
theorem dX6_buffer_46 : decode cX6_buffer 46 = .ok (.iload_n 2, 1) := by decide +kernel
theorem dX6_buffer_47 : decode cX6_buffer 47 = .ok (.iadd, 1) := by decide +kernel
theorem dX6_buffer_48 : decode cX6_buffer 48 = .ok (.iload_n 3, 1) := by decide +kernel
theorem dX6_buffer_49 : decode cX6_buffer 49 = .ok (.invokevirtual 200, 3) := by decide +kernel
theorem dX6_buffer_52 : decode cX6_buffer 52 = .ok (.ireturn, 1) := by decide +kernel
theorem dX6_back_0 : decode cX6_back 0 = .ok (.aload_n 0, 1) := by decide +kernel
theorem dX6_back_1 : decode cX6_back 1 = .ok (.iconst 0, 1) := by decide +kernel
theorem dX6_back_2 : decode cX6_back 2 = .ok (.putfield 88, 3) := by decide +kernel
theorem dX6_back_5 : decode cX6_back 5 = .ok (.iconst 0, 1) := by decide +kernel
theorem dX6_back_6 : decode cX6_back 6 = .ok (.istore_n 3, 1) := by decide +kernel
theorem dX6_back_7 : decode cX6_back 7 = .ok (.aload_n 0, 1) := by decide +kernel
theorem dX6_back_8 : decode cX6_back 8 = .ok (.iload_n 1, 1) := by decide +kernel
theorem dX6_back_9 : decode cX6_back 9 = .ok (.invokevirtual 132, 3) := by decide +kernel
theorem dX6_back_12 : decode cX6_back 12 = .ok (.ifCond .eq 12, 3) := by decide +kernel
theorem dX6_back_15 : decode cX6_back 15 = .ok (.aload_n 0, 1) := by decide +kernel
theorem dX6_back_16 : decode cX6_back 16 = .ok (.getfield 72, 3) := by decide +kernel
theorem dX6_back_19 : decode cX6_back 19 = .ok (.iload_n 1, 1) := by decide +kernel
theorem dX6_back_20 : decode cX6_back 20 = .ok (.iaload, 1) := by decide +kernel
theorem dX6_back_21 : decode cX6_back 21 = .ok (.goto 6, 3) := by decide +kernel
theorem dX6_back_24 : decode cX6_back 24 = .ok (.sipush 4000, 3) := by decide +kernel
theorem dX6_back_27 : decode cX6_back 27 = .ok (.istore 4, 2) := by decide +kernel
theorem dX6_back_29 : decode cX6_back 29 = .ok (.iload 4, 2) := by decide +kernel
theorem dX6_back_31 : decode cX6_back 31 = .ok (.sipush 4000, 3) := by decide +kernel
theorem dX6_back_34 : decode cX6_back 34 = .ok (.if_icmp .ge 55, 3) := by decide +kernel
theorem dX6_back_37 : decode cX6_back 37 = .ok (.iload 4, 2) := by decide +kernel
theorem dX6_back_39 : decode cX6_back 39 = .ok (.aload_n 0, 1) := by decide +kernel
theorem dX6_back_40 : decode cX6_back 40 = .ok (.getfield 69, 3) := by decide +kernel
theorem dX6_back_43 : decode cX6_back 43 = .ok (.iload_n 1, 1) := by decide +kernel
theorem dX6_back_44 : decode cX6_back 44 = .ok (.iaload, 1) := by decide +kernel
theorem dX6_back_45 : decode cX6_back 45 = .ok (.if_icmp .ge 44, 3) := by decide +kernel
theorem dX6_back_48 : decode cX6_back 48 = .ok (.iload_n 3, 1) := by decide +kernel
theorem dX6_back_49 : decode cX6_back 49 = .ok (.aload_n 0, 1) := by decide +kernel
theorem dX6_back_50 : decode cX6_back 50 = .ok (.getfield 57, 3) := by decide +kernel
theorem dX6_back_53 : decode cX6_back 53 = .ok (.sipush 4000, 3) := by decide +kernel
theorem dX6_back_56 : decode cX6_back 56 = .ok (.iload_n 1, 1) := by decide +kernel
theorem dX6_back_57 : decode cX6_back 57 = .ok (.imul, 1) := by decide +kernel
theorem dX6_back_58 : decode cX6_back 58 = .ok (.iload 4, 2) := by decide +kernel
theorem dX6_back_60 : decode cX6_back 60 = .ok (.iadd, 1) := by decide +kernel
theorem dX6_back_61 : decode cX6_back 61 = .ok (.iaload, 1) := by decide +kernel
theorem dX6_back_62 : decode cX6_back 62 = .ok (.aload_n 0, 1) := by decide +kernel
theorem dX6_back_63 : decode cX6_back 63 = .ok (.getfield 102, 3) := by decide +kernel
theorem dX6_back_66 : decode cX6_back 66 = .ok (.iadd, 1) := by decide +kernel
theorem dX6_back_67 : decode cX6_back 67 = .ok (.aload_n 0, 1) := by decide +kernel
theorem dX6_back_68 : decode cX6_back 68 = .ok (.getfield 114, 3) := by decide +kernel
theorem dX6_back_71 : decode cX6_back 71 = .ok (.isub, 1) := by decide +kernel
theorem dX6_back_72 : decode cX6_back 72 = .ok (.iload_n 2, 1) := by decide +kernel
theorem dX6_back_73 : decode cX6_back 73 = .ok (.if_icmp .ne 7, 3) := by decide +kernel
theorem dX6_back_76 : decode cX6_back 76 = .ok (.iconst 1, 1) := by decide +kernel
theorem dX6_back_77 : decode cX6_back 77 = .ok (.goto 4, 3) := by decide +kernel
theorem dX6_back_80 : decode cX6_back 80 = .ok (.iconst 0, 1) := by decide +kernel
theorem dX6_back_81 : decode cX6_back 81 = .ok (.iadd, 1) := by decide +kernel
theorem dX6_back_82 : decode cX6_back 82 = .ok (.istore_n 3, 1) := by decide +kernel
theorem dX6_back_83 : decode cX6_back 83 = .ok (.iinc 4 1, 3) := by decide +kernel
theorem dX6_back_86 : decode cX6_back 86 = .ok (.goto (-57), 3) := by decide +kernel
theorem dX6_back_89 : decode cX6_back 89 = .ok (.iload_n 3, 1) := by decide +kernel
theorem dX6_back_90 : decode cX6_back 90 = .ok (.ireturn, 1) := by decide +kernel
theorem dX6_count_0 : decode cX6_count 0 = .ok (.aload_n 0, 1) := by decide +kernel
theorem dX6_count_1 : decode cX6_count 1 = .ok (.iconst 0, 1) := by decide +kernel
theorem dX6_count_2 : decode cX6_count 2 = .ok (.putfield 88, 3) := by decide +kernel
theorem dX6_count_5 : decode cX6_count 5 = .ok (.iload_n 1, 1) := by decide +kernel
theorem dX6_count_6 : decode cX6_count 6 = .ok (.tableswitch 131 0 12 #[66, 71, 76, 81, 86, 91, 96, 101, 106, 111, 116, 121, 126], 66) := by decide +kernel
theorem dX6_count_72 : decode cX6_count 72 = .ok (.aload_n 0, 1) := by decide +kernel
theorem dX6_count_73 : decode cX6_count 73 = .ok (.getfield 114, 3) := by decide +kernel
theorem dX6_count_76 : decode cX6_count 76 = .ok (.ireturn, 1) := by decide +kernel
theorem dX6_count_77 : decode cX6_count 77 = .ok (.aload_n 0, 1) := by decide +kernel
theorem dX6_count_78 : decode cX6_count 78 = .ok (.getfield 96, 3) := by decide +kernel
theorem dX6_count_81 : decode cX6_count 81 = .ok (.ireturn, 1) := by decide +kernel
theorem dX6_count_82 : decode cX6_count 82 = .ok (.aload_n 0, 1) := by decide +kernel
theorem dX6_count_83 : decode cX6_count 83 = .ok (.getfield 99, 3) := by decide +kernel
theorem dX6_count_86 : decode cX6_count 86 = .ok (.ireturn, 1) := by decide +kernel
theorem dX6_count_87 : decode cX6_count 87 = .ok (.aload_n 0, 1) := by decide +kernel
theorem dX6_count_88 : decode cX6_count 88 = .ok (.getfield 102, 3) := by decide +kernel
theorem dX6_count_91 : decode cX6_count 91 = .ok (.ireturn, 1) := by decide +kernel
theorem dX6_count_92 : decode cX6_count 92 = .ok (.aload_n 0, 1) := by decide +kernel
theorem dX6_count_93 : decode cX6_count 93 = .ok (.getfield 105, 3) := by decide +kernel
theorem dX6_count_96 : decode cX6_count 96 = .ok (.ireturn, 1) := by decide +kernel
theorem dX6_count_97 : decode cX6_count 97 = .ok (.aload_n 0, 1) := by decide +kernel
theorem dX6_count_98 : decode cX6_count 98 = .ok (.getfield 108, 3) := by decide +kernel
theorem dX6_count_101 : decode cX6_count 101 = .ok (.ireturn, 1) := by decide +kernel
theorem dX6_count_102 : decode cX6_count 102 = .ok (.aload_n 0, 1) := by decide +kernel
theorem dX6_count_103 : decode cX6_count 103 = .ok (.getfield 111, 3) := by decide +kernel
theorem dX6_count_106 : decode cX6_count 106 = .ok (.ireturn, 1) := by decide +kernel
theorem dX6_count_107 : decode cX6_count 107 = .ok (.aload_n 0, 1) := by decide +kernel
theorem dX6_count_108 : decode cX6_count 108 = .ok (.getfield 136, 3) := by decide +kernel
theorem dX6_count_111 : decode cX6_count 111 = .ok (.ireturn, 1) := by decide +kernel
theorem dX6_count_112 : decode cX6_count 112 = .ok (.aload_n 0, 1) := by decide +kernel
theorem dX6_count_113 : decode cX6_count 113 = .ok (.getfield 117, 3) := by decide +kernel
theorem dX6_count_116 : decode cX6_count 116 = .ok (.ireturn, 1) := by decide +kernel
theorem dX6_count_117 : decode cX6_count 117 = .ok (.aload_n 0, 1) := by decide +kernel
theorem dX6_count_118 : decode cX6_count 118 = .ok (.getfield 120, 3) := by decide +kernel
theorem dX6_count_121 : decode cX6_count 121 = .ok (.ireturn, 1) := by decide +kernel
theorem dX6_count_122 : decode cX6_count 122 = .ok (.aload_n 0, 1) := by decide +kernel
theorem dX6_count_123 : decode cX6_count 123 = .ok (.getfield 123, 3) := by decide +kernel
theorem dX6_count_126 : decode cX6_count 126 = .ok (.ireturn, 1) := by decide +kernel
theorem dX6_count_127 : decode cX6_count 127 = .ok (.aload_n 0, 1) := by decide +kernel
theorem dX6_count_128 : decode cX6_count 128 = .ok (.getfield 126, 3) := by decide +kernel
theorem dX6_count_131 : decode cX6_count 131 = .ok (.ireturn, 1) := by decide +kernel
theorem dX6_count_132 : decode cX6_count 132 = .ok (.aload_n 0, 1) := by decide +kernel
theorem dX6_count_133 : decode cX6_count 133 = .ok (.getfield 129, 3) := by decide +kernel
theorem dX6_count_136 : decode cX6_count 136 = .ok (.ireturn, 1) := by decide +kernel
theorem dX6_count_137 : decode cX6_count 137 = .ok (.iconst (-1), 1) := by decide +kernel
theorem dX6_count_138 : decode cX6_count 138 = .ok (.ireturn, 1) := by decide +kernel
