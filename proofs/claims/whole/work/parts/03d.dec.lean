theorem dX4_period_23 : decode cX4_period 23 = .ok (.aload_n 0, 1) := by decide +kernel
theorem dX4_period_24 : decode cX4_period 24 = .ok (.iconst 2, 1) := by decide +kernel
theorem dX4_period_25 : decode cX4_period 25 = .ok (.iconst 2, 1) := by decide +kernel
theorem dX4_period_26 : decode cX4_period 26 = .ok (.invokevirtual 76, 3) := by decide +kernel
theorem dX4_period_29 : decode cX4_period 29 = .ok (.imul, 1) := by decide +kernel
theorem dX4_period_30 : decode cX4_period 30 = .ok (.iadd, 1) := by decide +kernel
theorem dX4_period_31 : decode cX4_period 31 = .ok (.istore_n 2, 1) := by decide +kernel
theorem dX4_period_32 : decode cX4_period 32 = .ok (.sipush 1440, 3) := by decide +kernel
theorem dX4_period_35 : decode cX4_period 35 = .ok (.aload_n 0, 1) := by decide +kernel
theorem dX4_period_36 : decode cX4_period 36 = .ok (.iconst 5, 1) := by decide +kernel
theorem dX4_period_37 : decode cX4_period 37 = .ok (.iconst 2, 1) := by decide +kernel
theorem dX4_period_38 : decode cX4_period 38 = .ok (.invokevirtual 76, 3) := by decide +kernel
theorem dX4_period_41 : decode cX4_period 41 = .ok (.iconst 1, 1) := by decide +kernel
theorem dX4_period_42 : decode cX4_period 42 = .ok (.isub, 1) := by decide +kernel
theorem dX4_period_43 : decode cX4_period 43 = .ok (.imul, 1) := by decide +kernel
theorem dX4_period_44 : decode cX4_period 44 = .ok (.bipush 60, 2) := by decide +kernel
theorem dX4_period_46 : decode cX4_period 46 = .ok (.aload_n 0, 1) := by decide +kernel
theorem dX4_period_47 : decode cX4_period 47 = .ok (.bipush 7, 2) := by decide +kernel
theorem dX4_period_49 : decode cX4_period 49 = .ok (.iconst 2, 1) := by decide +kernel
theorem dX4_period_50 : decode cX4_period 50 = .ok (.invokevirtual 76, 3) := by decide +kernel
theorem dX4_period_53 : decode cX4_period 53 = .ok (.imul, 1) := by decide +kernel
theorem dX4_period_54 : decode cX4_period 54 = .ok (.iadd, 1) := by decide +kernel
theorem dX4_period_55 : decode cX4_period 55 = .ok (.istore_n 3, 1) := by decide +kernel
theorem dX4_period_56 : decode cX4_period 56 = .ok (.iload_n 1, 1) := by decide +kernel
theorem dX4_period_57 : decode cX4_period 57 = .ok (.ifCond .ne 24, 3) := by decide +kernel
theorem dX4_period_60 : decode cX4_period 60 = .ok (.aload_n 0, 1) := by decide +kernel
theorem dX4_period_61 : decode cX4_period 61 = .ok (.iconst 0, 1) := by decide +kernel
theorem dX4_period_62 : decode cX4_period 62 = .ok (.iconst 2, 1) := by decide +kernel
theorem dX4_period_63 : decode cX4_period 63 = .ok (.invokevirtual 76, 3) := by decide +kernel
theorem dX4_period_66 : decode cX4_period 66 = .ok (.aload_n 0, 1) := by decide +kernel
theorem dX4_period_67 : decode cX4_period 67 = .ok (.getfield 80, 3) := by decide +kernel
theorem dX4_period_70 : decode cX4_period 70 = .ok (.if_icmp .ge 7, 3) := by decide +kernel
theorem dX4_period_73 : decode cX4_period 73 = .ok (.iconst 1, 1) := by decide +kernel
theorem dX4_period_74 : decode cX4_period 74 = .ok (.goto 22, 3) := by decide +kernel
theorem dX4_period_77 : decode cX4_period 77 = .ok (.iconst 0, 1) := by decide +kernel
theorem dX4_period_78 : decode cX4_period 78 = .ok (.goto 18, 3) := by decide +kernel
theorem dX4_period_81 : decode cX4_period 81 = .ok (.iload_n 2, 1) := by decide +kernel
theorem dX4_period_82 : decode cX4_period 82 = .ok (.aload_n 0, 1) := by decide +kernel
theorem dX4_period_83 : decode cX4_period 83 = .ok (.getfield 22, 3) := by decide +kernel
theorem dX4_period_86 : decode cX4_period 86 = .ok (.iconst 2, 1) := by decide +kernel
theorem dX4_period_87 : decode cX4_period 87 = .ok (.iaload, 1) := by decide +kernel
theorem dX4_period_88 : decode cX4_period 88 = .ok (.if_icmp .ge 7, 3) := by decide +kernel
theorem dX4_period_91 : decode cX4_period 91 = .ok (.iconst 1, 1) := by decide +kernel
theorem dX4_period_92 : decode cX4_period 92 = .ok (.goto 4, 3) := by decide +kernel
theorem dX4_period_95 : decode cX4_period 95 = .ok (.iconst 0, 1) := by decide +kernel
theorem dX4_period_96 : decode cX4_period 96 = .ok (.istore 4, 2) := by decide +kernel
theorem dX4_period_98 : decode cX4_period 98 = .ok (.iload 4, 2) := by decide +kernel
theorem dX4_period_100 : decode cX4_period 100 = .ok (.ifCond .eq 16, 3) := by decide +kernel
theorem dX4_period_103 : decode cX4_period 103 = .ok (.iload_n 2, 1) := by decide +kernel
theorem dX4_period_104 : decode cX4_period 104 = .ok (.sipush 1440, 3) := by decide +kernel
theorem dX4_period_107 : decode cX4_period 107 = .ok (.aload_n 0, 1) := by decide +kernel
theorem dX4_period_108 : decode cX4_period 108 = .ok (.getfield 73, 3) := by decide +kernel
theorem dX4_period_111 : decode cX4_period 111 = .ok (.imul, 1) := by decide +kernel
theorem dX4_period_112 : decode cX4_period 112 = .ok (.iadd, 1) := by decide +kernel
theorem dX4_period_113 : decode cX4_period 113 = .ok (.goto 4, 3) := by decide +kernel
theorem dX4_period_116 : decode cX4_period 116 = .ok (.iload_n 2, 1) := by decide +kernel
theorem dX4_period_117 : decode cX4_period 117 = .ok (.istore_n 2, 1) := by decide +kernel
theorem dX4_period_118 : decode cX4_period 118 = .ok (.iload 4, 2) := by decide +kernel
theorem dX4_period_120 : decode cX4_period 120 = .ok (.ifCond .ne 8, 3) := by decide +kernel
theorem dX4_period_123 : decode cX4_period 123 = .ok (.iload_n 3, 1) := by decide +kernel
theorem dX4_period_124 : decode cX4_period 124 = .ok (.iload_n 2, 1) := by decide +kernel
theorem dX4_period_125 : decode cX4_period 125 = .ok (.if_icmp .gt 16, 3) := by decide +kernel
theorem dX4_period_128 : decode cX4_period 128 = .ok (.iload_n 3, 1) := by decide +kernel
theorem dX4_period_129 : decode cX4_period 129 = .ok (.sipush 1440, 3) := by decide +kernel
theorem dX4_period_132 : decode cX4_period 132 = .ok (.aload_n 0, 1) := by decide +kernel
theorem dX4_period_133 : decode cX4_period 133 = .ok (.getfield 73, 3) := by decide +kernel
theorem dX4_period_136 : decode cX4_period 136 = .ok (.imul, 1) := by decide +kernel
theorem dX4_period_137 : decode cX4_period 137 = .ok (.iadd, 1) := by decide +kernel
theorem dX4_period_138 : decode cX4_period 138 = .ok (.goto 4, 3) := by decide +kernel
theorem dX4_period_141 : decode cX4_period 141 = .ok (.iload_n 3, 1) := by decide +kernel
theorem dX4_period_142 : decode cX4_period 142 = .ok (.istore_n 3, 1) := by decide +kernel
theorem dX4_period_143 : decode cX4_period 143 = .ok (.aload_n 0, 1) := by decide +kernel
theorem dX4_period_144 : decode cX4_period 144 = .ok (.getfield 22, 3) := by decide +kernel
theorem dX4_period_147 : decode cX4_period 147 = .ok (.bipush 10, 2) := by decide +kernel
theorem dX4_period_149 : decode cX4_period 149 = .ok (.iload_n 1, 1) := by decide +kernel
theorem dX4_period_150 : decode cX4_period 150 = .ok (.imul, 1) := by decide +kernel
theorem dX4_period_151 : decode cX4_period 151 = .ok (.iconst 2, 1) := by decide +kernel
theorem dX4_period_152 : decode cX4_period 152 = .ok (.iadd, 1) := by decide +kernel
theorem dX4_period_153 : decode cX4_period 153 = .ok (.iload_n 2, 1) := by decide +kernel
theorem dX4_period_154 : decode cX4_period 154 = .ok (.iastore, 1) := by decide +kernel
theorem dX4_period_155 : decode cX4_period 155 = .ok (.aload_n 0, 1) := by decide +kernel
theorem dX4_period_156 : decode cX4_period 156 = .ok (.getfield 22, 3) := by decide +kernel
theorem dX4_period_159 : decode cX4_period 159 = .ok (.bipush 10, 2) := by decide +kernel
theorem dX4_period_161 : decode cX4_period 161 = .ok (.iload_n 1, 1) := by decide +kernel
theorem dX4_period_162 : decode cX4_period 162 = .ok (.imul, 1) := by decide +kernel
theorem dX4_period_163 : decode cX4_period 163 = .ok (.iconst 3, 1) := by decide +kernel
theorem dX4_period_164 : decode cX4_period 164 = .ok (.iadd, 1) := by decide +kernel
theorem dX4_period_165 : decode cX4_period 165 = .ok (.iload_n 3, 1) := by decide +kernel
theorem dX4_period_166 : decode cX4_period 166 = .ok (.iastore, 1) := by decide +kernel
theorem dX4_period_167 : decode cX4_period 167 = .ok (.iload_n 3, 1) := by decide +kernel
theorem dX4_period_168 : decode cX4_period 168 = .ok (.iload_n 2, 1) := by decide +kernel
theorem dX4_period_169 : decode cX4_period 169 = .ok (.if_icmp .le 43, 3) := by decide +kernel
theorem dX4_period_172 : decode cX4_period 172 = .ok (.iload_n 1, 1) := by decide +kernel
theorem dX4_period_173 : decode cX4_period 173 = .ok (.ifCond .ne 15, 3) := by decide +kernel
theorem dX4_period_176 : decode cX4_period 176 = .ok (.iload_n 3, 1) := by decide +kernel
theorem dX4_period_177 : decode cX4_period 177 = .ok (.iload_n 2, 1) := by decide +kernel
theorem dX4_period_178 : decode cX4_period 178 = .ok (.isub, 1) := by decide +kernel
theorem dX4_period_179 : decode cX4_period 179 = .ok (.sipush 1800, 3) := by decide +kernel
theorem dX4_period_182 : decode cX4_period 182 = .ok (.if_icmp .gt 30, 3) := by decide +kernel
theorem dX4_period_185 : decode cX4_period 185 = .ok (.goto 23, 3) := by decide +kernel
theorem dX4_period_188 : decode cX4_period 188 = .ok (.iload_n 2, 1) := by decide +kernel
theorem dX4_period_189 : decode cX4_period 189 = .ok (.aload_n 0, 1) := by decide +kernel
theorem dX4_period_190 : decode cX4_period 190 = .ok (.getfield 22, 3) := by decide +kernel
theorem dX4_period_193 : decode cX4_period 193 = .ok (.iconst 2, 1) := by decide +kernel
theorem dX4_period_194 : decode cX4_period 194 = .ok (.iaload, 1) := by decide +kernel
theorem dX4_period_195 : decode cX4_period 195 = .ok (.if_icmp .lt 17, 3) := by decide +kernel
theorem dX4_period_198 : decode cX4_period 198 = .ok (.iload_n 3, 1) := by decide +kernel
theorem dX4_period_199 : decode cX4_period 199 = .ok (.aload_n 0, 1) := by decide +kernel
theorem dX4_period_200 : decode cX4_period 200 = .ok (.getfield 22, 3) := by decide +kernel
theorem dX4_period_203 : decode cX4_period 203 = .ok (.iconst 3, 1) := by decide +kernel
theorem dX4_period_204 : decode cX4_period 204 = .ok (.iaload, 1) := by decide +kernel
theorem dX4_period_205 : decode cX4_period 205 = .ok (.if_icmp .gt 7, 3) := by decide +kernel
theorem dX4_period_208 : decode cX4_period 208 = .ok (.iconst 1, 1) := by decide +kernel
theorem dX4_period_209 : decode cX4_period 209 = .ok (.goto 4, 3) := by decide +kernel
theorem dX4_period_212 : decode cX4_period 212 = .ok (.iconst 0, 1) := by decide +kernel
theorem dX4_period_213 : decode cX4_period 213 = .ok (.istore 5, 2) := by decide +kernel
theorem dX4_period_215 : decode cX4_period 215 = .ok (.aload_n 0, 1) := by decide +kernel
theorem dX4_period_216 : decode cX4_period 216 = .ok (.iload 5, 2) := by decide +kernel
theorem dX4_period_218 : decode cX4_period 218 = .ok (.ifCond .eq 12, 3) := by decide +kernel
theorem dX4_period_221 : decode cX4_period 221 = .ok (.aload_n 0, 1) := by decide +kernel
theorem dX4_period_222 : decode cX4_period 222 = .ok (.getfield 62, 3) := by decide +kernel
theorem dX4_period_225 : decode cX4_period 225 = .ok (.iconst 1, 1) := by decide +kernel
theorem dX4_period_226 : decode cX4_period 226 = .ok (.iadd, 1) := by decide +kernel
theorem dX4_period_227 : decode cX4_period 227 = .ok (.goto 7, 3) := by decide +kernel
theorem dX4_period_230 : decode cX4_period 230 = .ok (.aload_n 0, 1) := by decide +kernel
theorem dX4_period_231 : decode cX4_period 231 = .ok (.getfield 62, 3) := by decide +kernel
theorem dX4_period_234 : decode cX4_period 234 = .ok (.putfield 62, 3) := by decide +kernel
theorem dX4_period_237 : decode cX4_period 237 = .ok (.iload 5, 2) := by decide +kernel
theorem dX4_period_239 : decode cX4_period 239 = .ok (.ireturn, 1) := by decide +kernel
theorem dX4_since_0 : decode cX4_since 0 = .ok (.sipush 1440, 3) := by decide +kernel
theorem dX4_since_3 : decode cX4_since 3 = .ok (.aload_n 0, 1) := by decide +kernel
theorem dX4_since_4 : decode cX4_since 4 = .ok (.iconst 2, 1) := by decide +kernel
theorem dX4_since_5 : decode cX4_since 5 = .ok (.iconst 2, 1) := by decide +kernel
theorem dX4_since_6 : decode cX4_since 6 = .ok (.invokevirtual 76, 3) := by decide +kernel
theorem dX4_since_9 : decode cX4_since 9 = .ok (.iconst 1, 1) := by decide +kernel
theorem dX4_since_10 : decode cX4_since 10 = .ok (.isub, 1) := by decide +kernel
theorem dX4_since_11 : decode cX4_since 11 = .ok (.imul, 1) := by decide +kernel
theorem dX4_since_12 : decode cX4_since 12 = .ok (.bipush 60, 2) := by decide +kernel
theorem dX4_since_14 : decode cX4_since 14 = .ok (.aload_n 0, 1) := by decide +kernel
theorem dX4_since_15 : decode cX4_since 15 = .ok (.iconst 4, 1) := by decide +kernel
theorem dX4_since_16 : decode cX4_since 16 = .ok (.iconst 2, 1) := by decide +kernel
theorem dX4_since_17 : decode cX4_since 17 = .ok (.invokevirtual 76, 3) := by decide +kernel
theorem dX4_since_20 : decode cX4_since 20 = .ok (.imul, 1) := by decide +kernel
theorem dX4_since_21 : decode cX4_since 21 = .ok (.iadd, 1) := by decide +kernel
theorem dX4_since_22 : decode cX4_since 22 = .ok (.aload_n 0, 1) := by decide +kernel
theorem dX4_since_23 : decode cX4_since 23 = .ok (.bipush 6, 2) := by decide +kernel
theorem dX4_since_25 : decode cX4_since 25 = .ok (.iconst 2, 1) := by decide +kernel
theorem dX4_since_26 : decode cX4_since 26 = .ok (.invokevirtual 76, 3) := by decide +kernel
theorem dX4_since_29 : decode cX4_since 29 = .ok (.iadd, 1) := by decide +kernel
theorem dX4_since_30 : decode cX4_since 30 = .ok (.istore_n 3, 1) := by decide +kernel
theorem dX4_since_31 : decode cX4_since 31 = .ok (.aload_n 0, 1) := by decide +kernel
theorem dX4_since_32 : decode cX4_since 32 = .ok (.invokevirtual 65, 3) := by decide +kernel
theorem dX4_since_35 : decode cX4_since 35 = .ok (.bipush 8, 2) := by decide +kernel
theorem dX4_since_37 : decode cX4_since 37 = .ok (.if_icmp .ne 51, 3) := by decide +kernel
theorem dX4_since_40 : decode cX4_since 40 = .ok (.aload_n 0, 1) := by decide +kernel
theorem dX4_since_41 : decode cX4_since 41 = .ok (.aload_n 0, 1) := by decide +kernel
theorem dX4_since_42 : decode cX4_since 42 = .ok (.iconst 2, 1) := by decide +kernel
theorem dX4_since_43 : decode cX4_since 43 = .ok (.iconst 2, 1) := by decide +kernel
theorem dX4_since_44 : decode cX4_since 44 = .ok (.invokevirtual 76, 3) := by decide +kernel
theorem dX4_since_47 : decode cX4_since 47 = .ok (.invokevirtual 83, 3) := by decide +kernel
theorem dX4_since_50 : decode cX4_since 50 = .ok (.ifCond .eq 38, 3) := by decide +kernel
theorem dX4_since_53 : decode cX4_since 53 = .ok (.aload_n 0, 1) := by decide +kernel
theorem dX4_since_54 : decode cX4_since 54 = .ok (.aload_n 0, 1) := by decide +kernel
theorem dX4_since_55 : decode cX4_since 55 = .ok (.iconst 4, 1) := by decide +kernel
theorem dX4_since_56 : decode cX4_since 56 = .ok (.iconst 2, 1) := by decide +kernel
theorem dX4_since_57 : decode cX4_since 57 = .ok (.invokevirtual 76, 3) := by decide +kernel
theorem dX4_since_60 : decode cX4_since 60 = .ok (.bipush 23, 2) := by decide +kernel
theorem dX4_since_62 : decode cX4_since 62 = .ok (.invokevirtual 87, 3) := by decide +kernel
theorem dX4_since_65 : decode cX4_since 65 = .ok (.ifCond .eq 23, 3) := by decide +kernel
theorem dX4_since_68 : decode cX4_since 68 = .ok (.aload_n 0, 1) := by decide +kernel
theorem dX4_since_69 : decode cX4_since 69 = .ok (.aload_n 0, 1) := by decide +kernel
theorem dX4_since_70 : decode cX4_since 70 = .ok (.bipush 6, 2) := by decide +kernel
theorem dX4_since_72 : decode cX4_since 72 = .ok (.iconst 2, 1) := by decide +kernel
theorem dX4_since_73 : decode cX4_since 73 = .ok (.invokevirtual 76, 3) := by decide +kernel
theorem dX4_since_76 : decode cX4_since 76 = .ok (.bipush 59, 2) := by decide +kernel
theorem dX4_since_78 : decode cX4_since 78 = .ok (.invokevirtual 87, 3) := by decide +kernel
theorem dX4_since_81 : decode cX4_since 81 = .ok (.ifCond .eq 7, 3) := by decide +kernel
theorem dX4_since_84 : decode cX4_since 84 = .ok (.iconst 1, 1) := by decide +kernel
theorem dX4_since_85 : decode cX4_since 85 = .ok (.goto 4, 3) := by decide +kernel
theorem dX4_since_88 : decode cX4_since 88 = .ok (.iconst 0, 1) := by decide +kernel
theorem dX4_since_89 : decode cX4_since 89 = .ok (.istore 4, 2) := by decide +kernel
theorem dX4_since_91 : decode cX4_since 91 = .ok (.iload_n 3, 1) := by decide +kernel
theorem dX4_since_92 : decode cX4_since 92 = .ok (.aload_n 0, 1) := by decide +kernel
theorem dX4_since_93 : decode cX4_since 93 = .ok (.getfield 22, 3) := by decide +kernel
theorem dX4_since_96 : decode cX4_since 96 = .ok (.iconst 2, 1) := by decide +kernel
theorem dX4_since_97 : decode cX4_since 97 = .ok (.iaload, 1) := by decide +kernel
theorem dX4_since_98 : decode cX4_since 98 = .ok (.if_icmp .ge 16, 3) := by decide +kernel
theorem dX4_since_101 : decode cX4_since 101 = .ok (.iload_n 3, 1) := by decide +kernel
theorem dX4_since_102 : decode cX4_since 102 = .ok (.sipush 1440, 3) := by decide +kernel
theorem dX4_since_105 : decode cX4_since 105 = .ok (.aload_n 0, 1) := by decide +kernel
theorem dX4_since_106 : decode cX4_since 106 = .ok (.getfield 73, 3) := by decide +kernel
theorem dX4_since_109 : decode cX4_since 109 = .ok (.imul, 1) := by decide +kernel
theorem dX4_since_110 : decode cX4_since 110 = .ok (.iadd, 1) := by decide +kernel
theorem dX4_since_111 : decode cX4_since 111 = .ok (.goto 4, 3) := by decide +kernel
theorem dX4_since_114 : decode cX4_since 114 = .ok (.iload_n 3, 1) := by decide +kernel
theorem dX4_since_115 : decode cX4_since 115 = .ok (.istore_n 3, 1) := by decide +kernel
theorem dX4_since_116 : decode cX4_since 116 = .ok (.iload 4, 2) := by decide +kernel
theorem dX4_since_118 : decode cX4_since 118 = .ok (.ifCond .eq 32, 3) := by decide +kernel
theorem dX4_since_121 : decode cX4_since 121 = .ok (.iload_n 3, 1) := by decide +kernel
theorem dX4_since_122 : decode cX4_since 122 = .ok (.aload_n 0, 1) := by decide +kernel
theorem dX4_since_123 : decode cX4_since 123 = .ok (.getfield 22, 3) := by decide +kernel
theorem dX4_since_126 : decode cX4_since 126 = .ok (.iconst 2, 1) := by decide +kernel
theorem dX4_since_127 : decode cX4_since 127 = .ok (.iaload, 1) := by decide +kernel
theorem dX4_since_128 : decode cX4_since 128 = .ok (.if_icmp .lt 22, 3) := by decide +kernel
theorem dX4_since_131 : decode cX4_since 131 = .ok (.iload_n 3, 1) := by decide +kernel
theorem dX4_since_132 : decode cX4_since 132 = .ok (.aload_n 0, 1) := by decide +kernel
theorem dX4_since_133 : decode cX4_since 133 = .ok (.getfield 22, 3) := by decide +kernel
theorem dX4_since_136 : decode cX4_since 136 = .ok (.iconst 3, 1) := by decide +kernel
theorem dX4_since_137 : decode cX4_since 137 = .ok (.iaload, 1) := by decide +kernel
theorem dX4_since_138 : decode cX4_since 138 = .ok (.if_icmp .ge 12, 3) := by decide +kernel
theorem dX4_since_141 : decode cX4_since 141 = .ok (.iload_n 3, 1) := by decide +kernel
theorem dX4_since_142 : decode cX4_since 142 = .ok (.iload_n 2, 1) := by decide +kernel
theorem dX4_since_143 : decode cX4_since 143 = .ok (.if_icmp .le 7, 3) := by decide +kernel
theorem dX4_since_146 : decode cX4_since 146 = .ok (.iconst 1, 1) := by decide +kernel
theorem dX4_since_147 : decode cX4_since 147 = .ok (.goto 4, 3) := by decide +kernel
theorem dX4_since_150 : decode cX4_since 150 = .ok (.iconst 0, 1) := by decide +kernel
theorem dX4_since_151 : decode cX4_since 151 = .ok (.istore 4, 2) := by decide +kernel
theorem dX4_since_153 : decode cX4_since 153 = .ok (.aload_n 0, 1) := by decide +kernel
theorem dX4_since_154 : decode cX4_since 154 = .ok (.getfield 22, 3) := by decide +kernel
theorem dX4_since_157 : decode cX4_since 157 = .ok (.bipush 10, 2) := by decide +kernel
theorem dX4_since_159 : decode cX4_since 159 = .ok (.iload_n 1, 1) := by decide +kernel
theorem dX4_since_160 : decode cX4_since 160 = .ok (.imul, 1) := by decide +kernel
theorem dX4_since_161 : decode cX4_since 161 = .ok (.iconst 2, 1) := by decide +kernel
theorem dX4_since_162 : decode cX4_since 162 = .ok (.iadd, 1) := by decide +kernel
theorem dX4_since_163 : decode cX4_since 163 = .ok (.iload_n 3, 1) := by decide +kernel
theorem dX4_since_164 : decode cX4_since 164 = .ok (.iastore, 1) := by decide +kernel
theorem dX4_since_165 : decode cX4_since 165 = .ok (.aload_n 0, 1) := by decide +kernel
theorem dX4_since_166 : decode cX4_since 166 = .ok (.getfield 22, 3) := by decide +kernel
theorem dX4_since_169 : decode cX4_since 169 = .ok (.bipush 10, 2) := by decide +kernel
theorem dX4_since_171 : decode cX4_since 171 = .ok (.iload_n 1, 1) := by decide +kernel
theorem dX4_since_172 : decode cX4_since 172 = .ok (.imul, 1) := by decide +kernel
theorem dX4_since_173 : decode cX4_since 173 = .ok (.iconst 3, 1) := by decide +kernel
theorem dX4_since_174 : decode cX4_since 174 = .ok (.iadd, 1) := by decide +kernel
theorem dX4_since_175 : decode cX4_since 175 = .ok (.aload_n 0, 1) := by decide +kernel
theorem dX4_since_176 : decode cX4_since 176 = .ok (.getfield 22, 3) := by decide +kernel
theorem dX4_since_179 : decode cX4_since 179 = .ok (.iconst 3, 1) := by decide +kernel
theorem dX4_since_180 : decode cX4_since 180 = .ok (.iaload, 1) := by decide +kernel
theorem dX4_since_181 : decode cX4_since 181 = .ok (.iastore, 1) := by decide +kernel
theorem dX4_since_182 : decode cX4_since 182 = .ok (.aload_n 0, 1) := by decide +kernel
theorem dX4_since_183 : decode cX4_since 183 = .ok (.iload 4, 2) := by decide +kernel
theorem dX4_since_185 : decode cX4_since 185 = .ok (.ifCond .eq 12, 3) := by decide +kernel
theorem dX4_since_188 : decode cX4_since 188 = .ok (.aload_n 0, 1) := by decide +kernel
theorem dX4_since_189 : decode cX4_since 189 = .ok (.getfield 62, 3) := by decide +kernel
theorem dX4_since_192 : decode cX4_since 192 = .ok (.iconst 1, 1) := by decide +kernel
theorem dX4_since_193 : decode cX4_since 193 = .ok (.iadd, 1) := by decide +kernel
theorem dX4_since_194 : decode cX4_since 194 = .ok (.goto 7, 3) := by decide +kernel
theorem dX4_since_197 : decode cX4_since 197 = .ok (.aload_n 0, 1) := by decide +kernel
theorem dX4_since_198 : decode cX4_since 198 = .ok (.getfield 62, 3) := by decide +kernel
theorem dX4_since_201 : decode cX4_since 201 = .ok (.putfield 62, 3) := by decide +kernel
theorem dX4_since_204 : decode cX4_since 204 = .ok (.iload 4, 2) := by decide +kernel
theorem dX4_since_206 : decode cX4_since 206 = .ok (.ireturn, 1) := by decide +kernel
theorem dX4_blank_0 : decode cX4_blank 0 = .ok (.iconst 0, 1) := by decide +kernel
theorem dX4_blank_1 : decode cX4_blank 1 = .ok (.istore_n 1, 1) := by decide +kernel
theorem dX4_blank_2 : decode cX4_blank 2 = .ok (.iload_n 1, 1) := by decide +kernel
theorem dX4_blank_3 : decode cX4_blank 3 = .ok (.bipush 90, 2) := by decide +kernel
theorem dX4_blank_5 : decode cX4_blank 5 = .ok (.if_icmp .ge 28, 3) := by decide +kernel
theorem dX4_blank_8 : decode cX4_blank 8 = .ok (.aload_n 0, 1) := by decide +kernel
theorem dX4_blank_9 : decode cX4_blank 9 = .ok (.getfield 22, 3) := by decide +kernel
theorem dX4_blank_12 : decode cX4_blank 12 = .ok (.iload_n 1, 1) := by decide +kernel
theorem dX4_blank_13 : decode cX4_blank 13 = .ok (.iload_n 1, 1) := by decide +kernel
theorem dX4_blank_14 : decode cX4_blank 14 = .ok (.bipush 10, 2) := by decide +kernel
theorem dX4_blank_16 : decode cX4_blank 16 = .ok (.irem, 1) := by decide +kernel
theorem dX4_blank_17 : decode cX4_blank 17 = .ok (.iconst 2, 1) := by decide +kernel
theorem dX4_blank_18 : decode cX4_blank 18 = .ok (.if_icmp .ge 7, 3) := by decide +kernel
theorem dX4_blank_21 : decode cX4_blank 21 = .ok (.iconst 0, 1) := by decide +kernel
theorem dX4_blank_22 : decode cX4_blank 22 = .ok (.goto 4, 3) := by decide +kernel
theorem dX4_blank_25 : decode cX4_blank 25 = .ok (.iconst (-1), 1) := by decide +kernel
theorem dX4_blank_26 : decode cX4_blank 26 = .ok (.iastore, 1) := by decide +kernel
theorem dX4_blank_27 : decode cX4_blank 27 = .ok (.iinc 1 1, 3) := by decide +kernel
theorem dX4_blank_30 : decode cX4_blank 30 = .ok (.goto (-28), 3) := by decide +kernel
theorem dX4_blank_33 : decode cX4_blank 33 = .ok (.return_, 1) := by decide +kernel
theorem dX4_change_0 : decode cX4_change 0 = .ok (.aload_n 0, 1) := by decide +kernel
theorem dX4_change_1 : decode cX4_change 1 = .ok (.invokevirtual 122, 3) := by decide +kernel
theorem dX4_change_4 : decode cX4_change 4 = .ok (.lstore_n 3, 1) := by decide +kernel
theorem dX4_change_5 : decode cX4_change 5 = .ok (.aload_n 0, 1) := by decide +kernel
theorem dX4_change_6 : decode cX4_change 6 = .ok (.iconst 0, 1) := by decide +kernel
theorem dX4_change_7 : decode cX4_change 7 = .ok (.invokevirtual 106, 3) := by decide +kernel
theorem dX4_change_10 : decode cX4_change 10 = .ok (.sipush 17997, 3) := by decide +kernel
theorem dX4_change_13 : decode cX4_change 13 = .ok (.if_icmp .ne 44, 3) := by decide +kernel
theorem dX4_change_16 : decode cX4_change 16 = .ok (.aload_n 0, 1) := by decide +kernel
theorem dX4_change_17 : decode cX4_change 17 = .ok (.getfield 22, 3) := by decide +kernel
theorem dX4_change_20 : decode cX4_change 20 = .ok (.bipush 10, 2) := by decide +kernel
theorem dX4_change_22 : decode cX4_change 22 = .ok (.iload_n 1, 1) := by decide +kernel
theorem dX4_change_23 : decode cX4_change 23 = .ok (.imul, 1) := by decide +kernel
theorem dX4_change_24 : decode cX4_change 24 = .ok (.iconst 1, 1) := by decide +kernel
theorem dX4_change_25 : decode cX4_change 25 = .ok (.iastore, 1) := by decide +kernel
theorem dX4_change_26 : decode cX4_change 26 = .ok (.aload_n 0, 1) := by decide +kernel
theorem dX4_change_27 : decode cX4_change 27 = .ok (.iload_n 1, 1) := by decide +kernel
theorem dX4_change_28 : decode cX4_change 28 = .ok (.iload_n 2, 1) := by decide +kernel
theorem dX4_change_29 : decode cX4_change 29 = .ok (.invokevirtual 154, 3) := by decide +kernel
theorem dX4_change_32 : decode cX4_change 32 = .ok (.ifCond .eq 23, 3) := by decide +kernel
theorem dX4_change_35 : decode cX4_change 35 = .ok (.aload_n 0, 1) := by decide +kernel
theorem dX4_change_36 : decode cX4_change 36 = .ok (.iload_n 1, 1) := by decide +kernel
theorem dX4_change_37 : decode cX4_change 37 = .ok (.invokevirtual 145, 3) := by decide +kernel
theorem dX4_change_40 : decode cX4_change 40 = .ok (.ifCond .eq 15, 3) := by decide +kernel
theorem dX4_change_43 : decode cX4_change 43 = .ok (.aload_n 0, 1) := by decide +kernel
theorem dX4_change_44 : decode cX4_change 44 = .ok (.iload_n 1, 1) := by decide +kernel
theorem dX4_change_45 : decode cX4_change 45 = .ok (.invokevirtual 157, 3) := by decide +kernel
theorem dX4_change_48 : decode cX4_change 48 = .ok (.ifCond .eq 7, 3) := by decide +kernel
theorem dX4_change_51 : decode cX4_change 51 = .ok (.iconst 1, 1) := by decide +kernel
theorem dX4_change_52 : decode cX4_change 52 = .ok (.goto 4, 3) := by decide +kernel
theorem dX4_change_55 : decode cX4_change 55 = .ok (.iconst 0, 1) := by decide +kernel
theorem dX4_change_56 : decode cX4_change 56 = .ok (.ireturn, 1) := by decide +kernel
theorem dX4_change_57 : decode cX4_change 57 = .ok (.lload_n 3, 1) := by decide +kernel
theorem dX4_change_58 : decode cX4_change 58 = .ok (.ldc2_w 160, 3) := by decide +kernel
theorem dX4_change_61 : decode cX4_change 61 = .ok (.lcmp, 1) := by decide +kernel
theorem dX4_change_62 : decode cX4_change 62 = .ok (.ifCond .ne 8, 3) := by decide +kernel
theorem dX4_change_65 : decode cX4_change 65 = .ok (.bipush 30, 2) := by decide +kernel
theorem dX4_change_67 : decode cX4_change 67 = .ok (.goto 17, 3) := by decide +kernel
theorem dX4_change_70 : decode cX4_change 70 = .ok (.lload_n 3, 1) := by decide +kernel
theorem dX4_change_71 : decode cX4_change 71 = .ok (.ldc2_w 162, 3) := by decide +kernel
theorem dX4_change_74 : decode cX4_change 74 = .ok (.lcmp, 1) := by decide +kernel
theorem dX4_change_75 : decode cX4_change 75 = .ok (.ifCond .ne 8, 3) := by decide +kernel
theorem dX4_change_78 : decode cX4_change 78 = .ok (.bipush 40, 2) := by decide +kernel
theorem dX4_change_80 : decode cX4_change 80 = .ok (.goto 4, 3) := by decide +kernel
theorem dX4_change_83 : decode cX4_change 83 = .ok (.iconst 0, 1) := by decide +kernel
theorem dX4_change_84 : decode cX4_change 84 = .ok (.istore 5, 2) := by decide +kernel
theorem dX4_change_86 : decode cX4_change 86 = .ok (.aload_n 0, 1) := by decide +kernel
theorem dX4_change_87 : decode cX4_change 87 = .ok (.getfield 22, 3) := by decide +kernel
theorem dX4_change_90 : decode cX4_change 90 = .ok (.bipush 10, 2) := by decide +kernel
theorem dX4_change_92 : decode cX4_change 92 = .ok (.iload_n 1, 1) := by decide +kernel
theorem dX4_change_93 : decode cX4_change 93 = .ok (.imul, 1) := by decide +kernel
theorem dX4_change_94 : decode cX4_change 94 = .ok (.iconst 1, 1) := by decide +kernel
theorem dX4_change_95 : decode cX4_change 95 = .ok (.iadd, 1) := by decide +kernel
theorem dX4_change_96 : decode cX4_change 96 = .ok (.iload 5, 2) := by decide +kernel
theorem dX4_change_98 : decode cX4_change 98 = .ok (.iastore, 1) := by decide +kernel
theorem dX4_change_99 : decode cX4_change 99 = .ok (.aload_n 0, 1) := by decide +kernel
theorem dX4_change_100 : decode cX4_change 100 = .ok (.getfield 22, 3) := by decide +kernel
theorem dX4_change_103 : decode cX4_change 103 = .ok (.bipush 10, 2) := by decide +kernel
theorem dX4_change_105 : decode cX4_change 105 = .ok (.iload_n 1, 1) := by decide +kernel
theorem dX4_change_106 : decode cX4_change 106 = .ok (.imul, 1) := by decide +kernel
theorem dX4_change_107 : decode cX4_change 107 = .ok (.lload_n 3, 1) := by decide +kernel
theorem dX4_change_108 : decode cX4_change 108 = .ok (.ldc2_w 164, 3) := by decide +kernel
theorem dX4_change_111 : decode cX4_change 111 = .ok (.lcmp, 1) := by decide +kernel
theorem dX4_change_112 : decode cX4_change 112 = .ok (.ifCond .ne 7, 3) := by decide +kernel
theorem dX4_change_115 : decode cX4_change 115 = .ok (.iconst 2, 1) := by decide +kernel
theorem dX4_change_116 : decode cX4_change 116 = .ok (.goto 25, 3) := by decide +kernel
theorem dX4_change_119 : decode cX4_change 119 = .ok (.lload_n 3, 1) := by decide +kernel
theorem dX4_change_120 : decode cX4_change 120 = .ok (.ldc2_w 166, 3) := by decide +kernel
theorem dX4_change_123 : decode cX4_change 123 = .ok (.lcmp, 1) := by decide +kernel
theorem dX4_change_124 : decode cX4_change 124 = .ok (.ifCond .ne 7, 3) := by decide +kernel
theorem dX4_change_127 : decode cX4_change 127 = .ok (.iconst 3, 1) := by decide +kernel
theorem dX4_change_128 : decode cX4_change 128 = .ok (.goto 13, 3) := by decide +kernel
theorem dX4_change_131 : decode cX4_change 131 = .ok (.iload 5, 2) := by decide +kernel
theorem dX4_change_133 : decode cX4_change 133 = .ok (.ifCond .le 7, 3) := by decide +kernel
theorem dX4_change_136 : decode cX4_change 136 = .ok (.iconst 4, 1) := by decide +kernel
theorem dX4_change_137 : decode cX4_change 137 = .ok (.goto 4, 3) := by decide +kernel
theorem dX4_change_140 : decode cX4_change 140 = .ok (.iconst 0, 1) := by decide +kernel
theorem dX4_change_141 : decode cX4_change 141 = .ok (.iastore, 1) := by decide +kernel
theorem dX4_change_142 : decode cX4_change 142 = .ok (.aload_n 0, 1) := by decide +kernel
theorem dX4_change_143 : decode cX4_change 143 = .ok (.getfield 22, 3) := by decide +kernel
theorem dX4_change_146 : decode cX4_change 146 = .ok (.bipush 10, 2) := by decide +kernel
theorem dX4_change_148 : decode cX4_change 148 = .ok (.iload_n 1, 1) := by decide +kernel
theorem dX4_change_149 : decode cX4_change 149 = .ok (.imul, 1) := by decide +kernel
theorem dX4_change_150 : decode cX4_change 150 = .ok (.iaload, 1) := by decide +kernel
theorem dX4_change_151 : decode cX4_change 151 = .ok (.ifCond .ne 5, 3) := by decide +kernel
theorem dX4_change_154 : decode cX4_change 154 = .ok (.iconst 0, 1) := by decide +kernel
theorem dX4_change_155 : decode cX4_change 155 = .ok (.ireturn, 1) := by decide +kernel
theorem dX4_change_156 : decode cX4_change 156 = .ok (.aload_n 0, 1) := by decide +kernel
theorem dX4_change_157 : decode cX4_change 157 = .ok (.dup, 1) := by decide +kernel
theorem dX4_change_158 : decode cX4_change 158 = .ok (.getfield 62, 3) := by decide +kernel
theorem dX4_change_161 : decode cX4_change 161 = .ok (.iconst 1, 1) := by decide +kernel
theorem dX4_change_162 : decode cX4_change 162 = .ok (.iadd, 1) := by decide +kernel
theorem dX4_change_163 : decode cX4_change 163 = .ok (.putfield 62, 3) := by decide +kernel
theorem dX4_change_166 : decode cX4_change 166 = .ok (.iload 5, 2) := by decide +kernel
theorem dX4_change_168 : decode cX4_change 168 = .ok (.ifCond .le 34, 3) := by decide +kernel
theorem dX4_change_171 : decode cX4_change 171 = .ok (.aload_n 0, 1) := by decide +kernel
theorem dX4_change_172 : decode cX4_change 172 = .ok (.invokevirtual 122, 3) := by decide +kernel
theorem dX4_change_175 : decode cX4_change 175 = .ok (.ldc2_w 166, 3) := by decide +kernel
theorem dX4_change_178 : decode cX4_change 178 = .ok (.lcmp, 1) := by decide +kernel
theorem dX4_change_179 : decode cX4_change 179 = .ok (.ifCond .ne 23, 3) := by decide +kernel
theorem dX4_change_182 : decode cX4_change 182 = .ok (.aload_n 0, 1) := by decide +kernel
theorem dX4_change_183 : decode cX4_change 183 = .ok (.getfield 22, 3) := by decide +kernel
theorem dX4_change_186 : decode cX4_change 186 = .ok (.bipush 10, 2) := by decide +kernel
theorem dX4_change_188 : decode cX4_change 188 = .ok (.iload_n 1, 1) := by decide +kernel
theorem dX4_change_189 : decode cX4_change 189 = .ok (.imul, 1) := by decide +kernel
theorem dX4_change_190 : decode cX4_change 190 = .ok (.iconst 5, 1) := by decide +kernel
theorem dX4_change_191 : decode cX4_change 191 = .ok (.iastore, 1) := by decide +kernel
theorem dX4_change_192 : decode cX4_change 192 = .ok (.aload_n 0, 1) := by decide +kernel
theorem dX4_change_193 : decode cX4_change 193 = .ok (.dup, 1) := by decide +kernel
theorem dX4_change_194 : decode cX4_change 194 = .ok (.getfield 62, 3) := by decide +kernel
theorem dX4_change_197 : decode cX4_change 197 = .ok (.iconst 1, 1) := by decide +kernel
theorem dX4_change_198 : decode cX4_change 198 = .ok (.iadd, 1) := by decide +kernel
theorem dX4_change_199 : decode cX4_change 199 = .ok (.putfield 62, 3) := by decide +kernel
theorem dX4_change_202 : decode cX4_change 202 = .ok (.aload_n 0, 1) := by decide +kernel
theorem dX4_change_203 : decode cX4_change 203 = .ok (.iload_n 1, 1) := by decide +kernel
theorem dX4_change_204 : decode cX4_change 204 = .ok (.invokevirtual 168, 3) := by decide +kernel
theorem dX4_change_207 : decode cX4_change 207 = .ok (.ifCond .eq 15, 3) := by decide +kernel
theorem dX4_change_210 : decode cX4_change 210 = .ok (.aload_n 0, 1) := by decide +kernel
theorem dX4_change_211 : decode cX4_change 211 = .ok (.iload_n 1, 1) := by decide +kernel
theorem dX4_change_212 : decode cX4_change 212 = .ok (.invokevirtual 171, 3) := by decide +kernel
theorem dX4_change_215 : decode cX4_change 215 = .ok (.ifCond .eq 7, 3) := by decide +kernel
theorem dX4_change_218 : decode cX4_change 218 = .ok (.iconst 1, 1) := by decide +kernel
theorem dX4_change_219 : decode cX4_change 219 = .ok (.goto 4, 3) := by decide +kernel
theorem dX4_change_222 : decode cX4_change 222 = .ok (.iconst 0, 1) := by decide +kernel
theorem dX4_change_223 : decode cX4_change 223 = .ok (.ireturn, 1) := by decide +kernel
theorem dX4_forecast_0 : decode cX4_forecast 0 = .ok (.aload_n 0, 1) := by decide +kernel
theorem dX4_forecast_1 : decode cX4_forecast 1 = .ok (.iconst 2, 1) := by decide +kernel
theorem dX4_forecast_2 : decode cX4_forecast 2 = .ok (.putfield 174, 3) := by decide +kernel
theorem dX4_forecast_5 : decode cX4_forecast 5 = .ok (.aload_n 0, 1) := by decide +kernel
theorem dX4_forecast_6 : decode cX4_forecast 6 = .ok (.invokevirtual 177, 3) := by decide +kernel
theorem dX4_forecast_9 : decode cX4_forecast 9 = .ok (.ifCond .eq 34, 3) := by decide +kernel
theorem dX4_forecast_12 : decode cX4_forecast 12 = .ok (.aload_n 0, 1) := by decide +kernel
theorem dX4_forecast_13 : decode cX4_forecast 13 = .ok (.invokevirtual 180, 3) := by decide +kernel
theorem dX4_forecast_16 : decode cX4_forecast 16 = .ok (.ifCond .eq 27, 3) := by decide +kernel
theorem dX4_forecast_19 : decode cX4_forecast 19 = .ok (.aload_n 0, 1) := by decide +kernel
theorem dX4_forecast_20 : decode cX4_forecast 20 = .ok (.iconst 0, 1) := by decide +kernel
theorem dX4_forecast_21 : decode cX4_forecast 21 = .ok (.invokevirtual 168, 3) := by decide +kernel
theorem dX4_forecast_24 : decode cX4_forecast 24 = .ok (.ifCond .eq 19, 3) := by decide +kernel
theorem dX4_forecast_27 : decode cX4_forecast 27 = .ok (.aload_n 0, 1) := by decide +kernel
theorem dX4_forecast_28 : decode cX4_forecast 28 = .ok (.iconst 0, 1) := by decide +kernel
theorem dX4_forecast_29 : decode cX4_forecast 29 = .ok (.invokevirtual 145, 3) := by decide +kernel
theorem dX4_forecast_32 : decode cX4_forecast 32 = .ok (.ifCond .eq 11, 3) := by decide +kernel
theorem dX4_forecast_35 : decode cX4_forecast 35 = .ok (.aload_n 0, 1) := by decide +kernel
theorem dX4_forecast_36 : decode cX4_forecast 36 = .ok (.iconst 0, 1) := by decide +kernel
theorem dX4_forecast_37 : decode cX4_forecast 37 = .ok (.invokevirtual 157, 3) := by decide +kernel
theorem dX4_forecast_40 : decode cX4_forecast 40 = .ok (.ifCond .ne 5, 3) := by decide +kernel
theorem dX4_forecast_43 : decode cX4_forecast 43 = .ok (.iconst 0, 1) := by decide +kernel
theorem dX4_forecast_44 : decode cX4_forecast 44 = .ok (.ireturn, 1) := by decide +kernel
theorem dX4_forecast_45 : decode cX4_forecast 45 = .ok (.iconst (-1), 1) := by decide +kernel
theorem dX4_forecast_46 : decode cX4_forecast 46 = .ok (.istore_n 1, 1) := by decide +kernel
theorem dX4_forecast_47 : decode cX4_forecast 47 = .ok (.aload_n 0, 1) := by decide +kernel
theorem dX4_forecast_48 : decode cX4_forecast 48 = .ok (.getfield 62, 3) := by decide +kernel
theorem dX4_forecast_51 : decode cX4_forecast 51 = .ok (.aload_n 0, 1) := by decide +kernel
theorem dX4_forecast_52 : decode cX4_forecast 52 = .ok (.getfield 59, 3) := by decide +kernel
theorem dX4_forecast_55 : decode cX4_forecast 55 = .ok (.if_icmp .ge 74, 3) := by decide +kernel
theorem dX4_forecast_58 : decode cX4_forecast 58 = .ok (.aload_n 0, 1) := by decide +kernel
theorem dX4_forecast_59 : decode cX4_forecast 59 = .ok (.getfield 183, 3) := by decide +kernel
theorem dX4_forecast_62 : decode cX4_forecast 62 = .ok (.bipush 9, 2) := by decide +kernel
theorem dX4_forecast_64 : decode cX4_forecast 64 = .ok (.if_icmp .eq 15, 3) := by decide +kernel
theorem dX4_forecast_67 : decode cX4_forecast 67 = .ok (.aload_n 0, 1) := by decide +kernel
theorem dX4_forecast_68 : decode cX4_forecast 68 = .ok (.aload_n 0, 1) := by decide +kernel
theorem dX4_forecast_69 : decode cX4_forecast 69 = .ok (.getfield 183, 3) := by decide +kernel
theorem dX4_forecast_72 : decode cX4_forecast 72 = .ok (.iload_n 1, 1) := by decide +kernel
theorem dX4_forecast_73 : decode cX4_forecast 73 = .ok (.invokevirtual 186, 3) := by decide +kernel
theorem dX4_forecast_76 : decode cX4_forecast 76 = .ok (.ifCond .ne 5, 3) := by decide +kernel
theorem dX4_forecast_79 : decode cX4_forecast 79 = .ok (.iconst 0, 1) := by decide +kernel
theorem dX4_forecast_80 : decode cX4_forecast 80 = .ok (.ireturn, 1) := by decide +kernel
theorem dX4_forecast_81 : decode cX4_forecast 81 = .ok (.aload_n 0, 1) := by decide +kernel
theorem dX4_forecast_82 : decode cX4_forecast 82 = .ok (.getfield 22, 3) := by decide +kernel
theorem dX4_forecast_85 : decode cX4_forecast 85 = .ok (.bipush 10, 2) := by decide +kernel
theorem dX4_forecast_87 : decode cX4_forecast 87 = .ok (.aload_n 0, 1) := by decide +kernel
theorem dX4_forecast_88 : decode cX4_forecast 88 = .ok (.getfield 183, 3) := by decide +kernel
theorem dX4_forecast_91 : decode cX4_forecast 91 = .ok (.imul, 1) := by decide +kernel
theorem dX4_forecast_92 : decode cX4_forecast 92 = .ok (.iaload, 1) := by decide +kernel
theorem dX4_forecast_93 : decode cX4_forecast 93 = .ok (.iconst 1, 1) := by decide +kernel
theorem dX4_forecast_94 : decode cX4_forecast 94 = .ok (.if_icmp .ne 20, 3) := by decide +kernel
theorem dX4_forecast_97 : decode cX4_forecast 97 = .ok (.aload_n 0, 1) := by decide +kernel
theorem dX4_forecast_98 : decode cX4_forecast 98 = .ok (.getfield 22, 3) := by decide +kernel
theorem dX4_forecast_101 : decode cX4_forecast 101 = .ok (.bipush 10, 2) := by decide +kernel
theorem dX4_forecast_103 : decode cX4_forecast 103 = .ok (.aload_n 0, 1) := by decide +kernel
theorem dX4_forecast_104 : decode cX4_forecast 104 = .ok (.getfield 183, 3) := by decide +kernel
theorem dX4_forecast_107 : decode cX4_forecast 107 = .ok (.imul, 1) := by decide +kernel
theorem dX4_forecast_108 : decode cX4_forecast 108 = .ok (.iconst 2, 1) := by decide +kernel
theorem dX4_forecast_109 : decode cX4_forecast 109 = .ok (.iadd, 1) := by decide +kernel
theorem dX4_forecast_110 : decode cX4_forecast 110 = .ok (.iaload, 1) := by decide +kernel
theorem dX4_forecast_111 : decode cX4_forecast 111 = .ok (.goto 4, 3) := by decide +kernel
theorem dX4_forecast_114 : decode cX4_forecast 114 = .ok (.iload_n 1, 1) := by decide +kernel
theorem dX4_forecast_115 : decode cX4_forecast 115 = .ok (.istore_n 1, 1) := by decide +kernel
theorem dX4_forecast_116 : decode cX4_forecast 116 = .ok (.aload_n 0, 1) := by decide +kernel
theorem dX4_forecast_117 : decode cX4_forecast 117 = .ok (.dup, 1) := by decide +kernel
theorem dX4_forecast_118 : decode cX4_forecast 118 = .ok (.getfield 183, 3) := by decide +kernel
theorem dX4_forecast_121 : decode cX4_forecast 121 = .ok (.iconst 1, 1) := by decide +kernel
theorem dX4_forecast_122 : decode cX4_forecast 122 = .ok (.iadd, 1) := by decide +kernel
theorem dX4_forecast_123 : decode cX4_forecast 123 = .ok (.putfield 183, 3) := by decide +kernel
theorem dX4_forecast_126 : decode cX4_forecast 126 = .ok (.goto (-79), 3) := by decide +kernel
theorem dX4_forecast_129 : decode cX4_forecast 129 = .ok (.iconst 1, 1) := by decide +kernel
theorem dX4_forecast_130 : decode cX4_forecast 130 = .ok (.ireturn, 1) := by decide +kernel
theorem dX4_report_0 : decode cX4_report 0 = .ok (.aload_n 0, 1) := by decide +kernel
theorem dX4_report_1 : decode cX4_report 1 = .ok (.iconst 1, 1) := by decide +kernel
theorem dX4_report_2 : decode cX4_report 2 = .ok (.putfield 174, 3) := by decide +kernel
theorem dX4_report_5 : decode cX4_report 5 = .ok (.aload_n 0, 1) := by decide +kernel
theorem dX4_report_6 : decode cX4_report 6 = .ok (.invokevirtual 177, 3) := by decide +kernel
theorem dX4_report_9 : decode cX4_report 9 = .ok (.ifCond .eq 37, 3) := by decide +kernel
theorem dX4_report_12 : decode cX4_report 12 = .ok (.aload_n 0, 1) := by decide +kernel
theorem dX4_report_13 : decode cX4_report 13 = .ok (.invokevirtual 180, 3) := by decide +kernel
theorem dX4_report_16 : decode cX4_report 16 = .ok (.ifCond .eq 30, 3) := by decide +kernel
theorem dX4_report_19 : decode cX4_report 19 = .ok (.aload_n 0, 1) := by decide +kernel
theorem dX4_report_20 : decode cX4_report 20 = .ok (.iconst 0, 1) := by decide +kernel
theorem dX4_report_21 : decode cX4_report 21 = .ok (.invokevirtual 145, 3) := by decide +kernel
theorem dX4_report_24 : decode cX4_report 24 = .ok (.ifCond .eq 22, 3) := by decide +kernel
theorem dX4_report_27 : decode cX4_report 27 = .ok (.aload_n 0, 1) := by decide +kernel
theorem dX4_report_28 : decode cX4_report 28 = .ok (.iconst 0, 1) := by decide +kernel
theorem dX4_report_29 : decode cX4_report 29 = .ok (.invokevirtual 157, 3) := by decide +kernel
theorem dX4_report_32 : decode cX4_report 32 = .ok (.ifCond .eq 14, 3) := by decide +kernel
theorem dX4_report_35 : decode cX4_report 35 = .ok (.aload_n 0, 1) := by decide +kernel
theorem dX4_report_36 : decode cX4_report 36 = .ok (.invokevirtual 189, 3) := by decide +kernel
theorem dX4_report_39 : decode cX4_report 39 = .ok (.ifCond .eq 7, 3) := by decide +kernel
theorem dX4_report_42 : decode cX4_report 42 = .ok (.iconst 1, 1) := by decide +kernel
theorem dX4_report_43 : decode cX4_report 43 = .ok (.goto 4, 3) := by decide +kernel
theorem dX4_report_46 : decode cX4_report 46 = .ok (.iconst 0, 1) := by decide +kernel
theorem dX4_report_47 : decode cX4_report 47 = .ok (.ireturn, 1) := by decide +kernel
theorem dX4_read_0 : decode cX4_read 0 = .ok (.iload_n 1, 1) := by decide +kernel
theorem dX4_read_1 : decode cX4_read 1 = .ok (.bipush 28, 2) := by decide +kernel
theorem dX4_read_3 : decode cX4_read 3 = .ok (.if_icmp .lt 9, 3) := by decide +kernel
theorem dX4_read_6 : decode cX4_read 6 = .ok (.iload_n 1, 1) := by decide +kernel
theorem dX4_read_7 : decode cX4_read 7 = .ok (.bipush 31, 2) := by decide +kernel
theorem dX4_read_9 : decode cX4_read 9 = .ok (.if_icmp .le 5, 3) := by decide +kernel
theorem dX4_read_12 : decode cX4_read 12 = .ok (.iconst (-1), 1) := by decide +kernel
theorem dX4_read_13 : decode cX4_read 13 = .ok (.ireturn, 1) := by decide +kernel
theorem dX4_read_14 : decode cX4_read 14 = .ok (.aload_n 0, 1) := by decide +kernel
theorem dX4_read_15 : decode cX4_read 15 = .ok (.iload_n 1, 1) := by decide +kernel
theorem dX4_read_16 : decode cX4_read 16 = .ok (.putfield 73, 3) := by decide +kernel
theorem dX4_read_19 : decode cX4_read 19 = .ok (.aload_n 0, 1) := by decide +kernel
theorem dX4_read_20 : decode cX4_read 20 = .ok (.invokevirtual 192, 3) := by decide +kernel
theorem dX4_read_23 : decode cX4_read 23 = .ok (.aload_n 0, 1) := by decide +kernel
theorem dX4_read_24 : decode cX4_read 24 = .ok (.invokevirtual 195, 3) := by decide +kernel
theorem dX4_read_27 : decode cX4_read 27 = .ok (.aload_n 0, 1) := by decide +kernel
theorem dX4_read_28 : decode cX4_read 28 = .ok (.iconst 0, 1) := by decide +kernel
theorem dX4_read_29 : decode cX4_read 29 = .ok (.putfield 62, 3) := by decide +kernel
theorem dX4_read_32 : decode cX4_read 32 = .ok (.aload_n 0, 1) := by decide +kernel
theorem dX4_read_33 : decode cX4_read 33 = .ok (.iconst 1, 1) := by decide +kernel
theorem dX4_read_34 : decode cX4_read 34 = .ok (.putfield 183, 3) := by decide +kernel
theorem dX4_read_37 : decode cX4_read 37 = .ok (.aload_n 0, 1) := by decide +kernel
theorem dX4_read_38 : decode cX4_read 38 = .ok (.invokevirtual 122, 3) := by decide +kernel
theorem dX4_read_41 : decode cX4_read 41 = .ok (.ldc2_w 198, 3) := by decide +kernel
theorem dX4_read_44 : decode cX4_read 44 = .ok (.lcmp, 1) := by decide +kernel
theorem dX4_read_45 : decode cX4_read 45 = .ok (.ifCond .ne 7, 3) := by decide +kernel
theorem dX4_read_48 : decode cX4_read 48 = .ok (.iconst 1, 1) := by decide +kernel
theorem dX4_read_49 : decode cX4_read 49 = .ok (.goto 4, 3) := by decide +kernel
theorem dX4_read_52 : decode cX4_read 52 = .ok (.iconst 0, 1) := by decide +kernel
theorem dX4_read_53 : decode cX4_read 53 = .ok (.istore_n 2, 1) := by decide +kernel
theorem dX4_read_54 : decode cX4_read 54 = .ok (.iload_n 2, 1) := by decide +kernel
theorem dX4_read_55 : decode cX4_read 55 = .ok (.ifCond .ne 14, 3) := by decide +kernel
theorem dX4_read_58 : decode cX4_read 58 = .ok (.aload_n 0, 1) := by decide +kernel
theorem dX4_read_59 : decode cX4_read 59 = .ok (.invokevirtual 122, 3) := by decide +kernel
theorem dX4_read_62 : decode cX4_read 62 = .ok (.ldc2_w 200, 3) := by decide +kernel
theorem dX4_read_65 : decode cX4_read 65 = .ok (.lcmp, 1) := by decide +kernel
theorem dX4_read_66 : decode cX4_read 66 = .ok (.ifCond .ne 7, 3) := by decide +kernel
theorem dX4_read_69 : decode cX4_read 69 = .ok (.iconst 1, 1) := by decide +kernel
theorem dX4_read_70 : decode cX4_read 70 = .ok (.goto 4, 3) := by decide +kernel
theorem dX4_read_73 : decode cX4_read 73 = .ok (.iconst 0, 1) := by decide +kernel
theorem dX4_read_74 : decode cX4_read 74 = .ok (.istore_n 3, 1) := by decide +kernel
theorem dX4_read_75 : decode cX4_read 75 = .ok (.iload_n 3, 1) := by decide +kernel
theorem dX4_read_76 : decode cX4_read 76 = .ok (.ifCond .eq 24, 3) := by decide +kernel
theorem dX4_read_79 : decode cX4_read 79 = .ok (.aload_n 0, 1) := by decide +kernel
theorem dX4_read_80 : decode cX4_read 80 = .ok (.iconst 1, 1) := by decide +kernel
theorem dX4_read_81 : decode cX4_read 81 = .ok (.putfield 62, 3) := by decide +kernel
theorem dX4_read_84 : decode cX4_read 84 = .ok (.iload_n 2, 1) := by decide +kernel
theorem dX4_read_85 : decode cX4_read 85 = .ok (.ifCond .eq 10, 3) := by decide +kernel
theorem dX4_read_88 : decode cX4_read 88 = .ok (.aload_n 0, 1) := by decide +kernel
theorem dX4_read_89 : decode cX4_read 89 = .ok (.invokevirtual 202, 3) := by decide +kernel
theorem dX4_read_92 : decode cX4_read 92 = .ok (.goto 7, 3) := by decide +kernel
theorem dX4_read_95 : decode cX4_read 95 = .ok (.aload_n 0, 1) := by decide +kernel
theorem dX4_read_96 : decode cX4_read 96 = .ok (.invokevirtual 205, 3) := by decide +kernel
theorem dX4_read_99 : decode cX4_read 99 = .ok (.istore_n 3, 1) := by decide +kernel
theorem dX4_read_100 : decode cX4_read 100 = .ok (.aload_n 0, 1) := by decide +kernel
theorem dX4_read_101 : decode cX4_read 101 = .ok (.getfield 62, 3) := by decide +kernel
theorem dX4_read_104 : decode cX4_read 104 = .ok (.aload_n 0, 1) := by decide +kernel
theorem dX4_read_105 : decode cX4_read 105 = .ok (.getfield 59, 3) := by decide +kernel
theorem dX4_read_108 : decode cX4_read 108 = .ok (.if_icmp .ge 15, 3) := by decide +kernel
theorem dX4_read_111 : decode cX4_read 111 = .ok (.aload_n 0, 1) := by decide +kernel
theorem dX4_read_112 : decode cX4_read 112 = .ok (.getfield 13, 3) := by decide +kernel
theorem dX4_read_115 : decode cX4_read 115 = .ok (.aload_n 0, 1) := by decide +kernel
theorem dX4_read_116 : decode cX4_read 116 = .ok (.getfield 62, 3) := by decide +kernel
theorem dX4_read_119 : decode cX4_read 119 = .ok (.iaload, 1) := by decide +kernel
theorem dX4_read_120 : decode cX4_read 120 = .ok (.goto 7, 3) := by decide +kernel
theorem dX4_read_123 : decode cX4_read 123 = .ok (.aload_n 0, 1) := by decide +kernel
theorem dX4_read_124 : decode cX4_read 124 = .ok (.getfield 49, 3) := by decide +kernel
theorem dX4_read_127 : decode cX4_read 127 = .ok (.iconst 1, 1) := by decide +kernel
theorem dX4_read_128 : decode cX4_read 128 = .ok (.iadd, 1) := by decide +kernel
theorem dX4_read_129 : decode cX4_read 129 = .ok (.istore 4, 2) := by decide +kernel
theorem dX4_read_131 : decode cX4_read 131 = .ok (.iload_n 3, 1) := by decide +kernel
theorem dX4_read_132 : decode cX4_read 132 = .ok (.ifCond .eq 7, 3) := by decide +kernel
theorem dX4_read_135 : decode cX4_read 135 = .ok (.aload_n 0, 1) := by decide +kernel
theorem dX4_read_136 : decode cX4_read 136 = .ok (.invokevirtual 208, 3) := by decide +kernel
theorem dX4_read_139 : decode cX4_read 139 = .ok (.aload_n 0, 1) := by decide +kernel
theorem dX4_read_140 : decode cX4_read 140 = .ok (.iconst 0, 1) := by decide +kernel
theorem dX4_read_141 : decode cX4_read 141 = .ok (.putfield 49, 3) := by decide +kernel
theorem dX4_read_144 : decode cX4_read 144 = .ok (.iload_n 3, 1) := by decide +kernel
theorem dX4_read_145 : decode cX4_read 145 = .ok (.ifCond .eq 7, 3) := by decide +kernel
theorem dX4_read_148 : decode cX4_read 148 = .ok (.iconst 0, 1) := by decide +kernel
theorem dX4_read_149 : decode cX4_read 149 = .ok (.goto 5, 3) := by decide +kernel
theorem dX4_read_152 : decode cX4_read 152 = .ok (.iload 4, 2) := by decide +kernel
theorem dX4_read_154 : decode cX4_read 154 = .ok (.ireturn, 1) := by decide +kernel
theorem dX4_keep_0 : decode cX4_keep 0 = .ok (.aload_n 0, 1) := by decide +kernel
theorem dX4_keep_1 : decode cX4_keep 1 = .ok (.aload_n 0, 1) := by decide +kernel
theorem dX4_keep_2 : decode cX4_keep 2 = .ok (.getfield 174, 3) := by decide +kernel
theorem dX4_keep_5 : decode cX4_keep 5 = .ok (.putfield 211, 3) := by decide +kernel
theorem dX4_keep_8 : decode cX4_keep 8 = .ok (.aload_n 0, 1) := by decide +kernel
theorem dX4_keep_9 : decode cX4_keep 9 = .ok (.aload_n 0, 1) := by decide +kernel
theorem dX4_keep_10 : decode cX4_keep 10 = .ok (.getfield 183, 3) := by decide +kernel
theorem dX4_keep_13 : decode cX4_keep 13 = .ok (.putfield 214, 3) := by decide +kernel
theorem dX4_keep_16 : decode cX4_keep 16 = .ok (.aload_n 0, 1) := by decide +kernel
theorem dX4_keep_17 : decode cX4_keep 17 = .ok (.aload_n 0, 1) := by decide +kernel
theorem dX4_keep_18 : decode cX4_keep 18 = .ok (.getfield 91, 3) := by decide +kernel
theorem dX4_keep_21 : decode cX4_keep 21 = .ok (.putfield 217, 3) := by decide +kernel
theorem dX4_keep_24 : decode cX4_keep 24 = .ok (.aload_n 0, 1) := by decide +kernel
theorem dX4_keep_25 : decode cX4_keep 25 = .ok (.aload_n 0, 1) := by decide +kernel
theorem dX4_keep_26 : decode cX4_keep 26 = .ok (.getfield 94, 3) := by decide +kernel
theorem dX4_keep_29 : decode cX4_keep 29 = .ok (.putfield 220, 3) := by decide +kernel
theorem dX4_keep_32 : decode cX4_keep 32 = .ok (.aload_n 0, 1) := by decide +kernel
theorem dX4_keep_33 : decode cX4_keep 33 = .ok (.aload_n 0, 1) := by decide +kernel
theorem dX4_keep_34 : decode cX4_keep 34 = .ok (.getfield 97, 3) := by decide +kernel
theorem dX4_keep_37 : decode cX4_keep 37 = .ok (.putfield 223, 3) := by decide +kernel
theorem dX4_keep_40 : decode cX4_keep 40 = .ok (.aload_n 0, 1) := by decide +kernel
theorem dX4_keep_41 : decode cX4_keep 41 = .ok (.aload_n 0, 1) := by decide +kernel
theorem dX4_keep_42 : decode cX4_keep 42 = .ok (.getfield 100, 3) := by decide +kernel
theorem dX4_keep_45 : decode cX4_keep 45 = .ok (.putfield 226, 3) := by decide +kernel
theorem dX4_keep_48 : decode cX4_keep 48 = .ok (.iconst 0, 1) := by decide +kernel
theorem dX4_keep_49 : decode cX4_keep 49 = .ok (.istore_n 1, 1) := by decide +kernel
theorem dX4_keep_50 : decode cX4_keep 50 = .ok (.iload_n 1, 1) := by decide +kernel
theorem dX4_keep_51 : decode cX4_keep 51 = .ok (.iconst 4, 1) := by decide +kernel
theorem dX4_keep_52 : decode cX4_keep 52 = .ok (.if_icmp .ge 21, 3) := by decide +kernel
theorem dX4_keep_55 : decode cX4_keep 55 = .ok (.aload_n 0, 1) := by decide +kernel
theorem dX4_keep_56 : decode cX4_keep 56 = .ok (.getfield 31, 3) := by decide +kernel
theorem dX4_keep_59 : decode cX4_keep 59 = .ok (.iload_n 1, 1) := by decide +kernel
theorem dX4_keep_60 : decode cX4_keep 60 = .ok (.aload_n 0, 1) := by decide +kernel
theorem dX4_keep_61 : decode cX4_keep 61 = .ok (.getfield 19, 3) := by decide +kernel
theorem dX4_keep_64 : decode cX4_keep 64 = .ok (.iload_n 1, 1) := by decide +kernel
theorem dX4_keep_65 : decode cX4_keep 65 = .ok (.iaload, 1) := by decide +kernel
theorem dX4_keep_66 : decode cX4_keep 66 = .ok (.iastore, 1) := by decide +kernel
theorem dX4_keep_67 : decode cX4_keep 67 = .ok (.iinc 1 1, 3) := by decide +kernel
theorem dX4_keep_70 : decode cX4_keep 70 = .ok (.goto (-20), 3) := by decide +kernel
theorem dX4_keep_73 : decode cX4_keep 73 = .ok (.iconst 0, 1) := by decide +kernel
theorem dX4_keep_74 : decode cX4_keep 74 = .ok (.istore_n 1, 1) := by decide +kernel
theorem dX4_keep_75 : decode cX4_keep 75 = .ok (.iload_n 1, 1) := by decide +kernel
theorem dX4_keep_76 : decode cX4_keep 76 = .ok (.bipush 90, 2) := by decide +kernel
theorem dX4_keep_78 : decode cX4_keep 78 = .ok (.if_icmp .ge 21, 3) := by decide +kernel
theorem dX4_keep_81 : decode cX4_keep 81 = .ok (.aload_n 0, 1) := by decide +kernel
theorem dX4_keep_82 : decode cX4_keep 82 = .ok (.getfield 34, 3) := by decide +kernel
theorem dX4_keep_85 : decode cX4_keep 85 = .ok (.iload_n 1, 1) := by decide +kernel
theorem dX4_keep_86 : decode cX4_keep 86 = .ok (.aload_n 0, 1) := by decide +kernel
theorem dX4_keep_87 : decode cX4_keep 87 = .ok (.getfield 22, 3) := by decide +kernel
theorem dX4_keep_90 : decode cX4_keep 90 = .ok (.iload_n 1, 1) := by decide +kernel
theorem dX4_keep_91 : decode cX4_keep 91 = .ok (.iaload, 1) := by decide +kernel
theorem dX4_keep_92 : decode cX4_keep 92 = .ok (.iastore, 1) := by decide +kernel
theorem dX4_keep_93 : decode cX4_keep 93 = .ok (.iinc 1 1, 3) := by decide +kernel
theorem dX4_keep_96 : decode cX4_keep 96 = .ok (.goto (-21), 3) := by decide +kernel
theorem dX4_keep_99 : decode cX4_keep 99 = .ok (.iconst 0, 1) := by decide +kernel
theorem dX4_keep_100 : decode cX4_keep 100 = .ok (.istore_n 1, 1) := by decide +kernel
theorem dX4_keep_101 : decode cX4_keep 101 = .ok (.iload_n 1, 1) := by decide +kernel
theorem dX4_keep_102 : decode cX4_keep 102 = .ok (.bipush 27, 2) := by decide +kernel
theorem dX4_keep_104 : decode cX4_keep 104 = .ok (.if_icmp .ge 21, 3) := by decide +kernel
theorem dX4_keep_107 : decode cX4_keep 107 = .ok (.aload_n 0, 1) := by decide +kernel
theorem dX4_keep_108 : decode cX4_keep 108 = .ok (.getfield 37, 3) := by decide +kernel
theorem dX4_keep_111 : decode cX4_keep 111 = .ok (.iload_n 1, 1) := by decide +kernel
theorem dX4_keep_112 : decode cX4_keep 112 = .ok (.aload_n 0, 1) := by decide +kernel
theorem dX4_keep_113 : decode cX4_keep 113 = .ok (.getfield 25, 3) := by decide +kernel
theorem dX4_keep_116 : decode cX4_keep 116 = .ok (.iload_n 1, 1) := by decide +kernel
theorem dX4_keep_117 : decode cX4_keep 117 = .ok (.iaload, 1) := by decide +kernel
theorem dX4_keep_118 : decode cX4_keep 118 = .ok (.iastore, 1) := by decide +kernel
theorem dX4_keep_119 : decode cX4_keep 119 = .ok (.iinc 1 1, 3) := by decide +kernel
theorem dX4_keep_122 : decode cX4_keep 122 = .ok (.goto (-21), 3) := by decide +kernel
theorem dX4_keep_125 : decode cX4_keep 125 = .ok (.iconst 0, 1) := by decide +kernel
theorem dX4_keep_126 : decode cX4_keep 126 = .ok (.istore_n 1, 1) := by decide +kernel
theorem dX4_keep_127 : decode cX4_keep 127 = .ok (.iload_n 1, 1) := by decide +kernel
theorem dX4_keep_128 : decode cX4_keep 128 = .ok (.bipush 36, 2) := by decide +kernel
theorem dX4_keep_130 : decode cX4_keep 130 = .ok (.if_icmp .ge 21, 3) := by decide +kernel
theorem dX4_keep_133 : decode cX4_keep 133 = .ok (.aload_n 0, 1) := by decide +kernel
theorem dX4_keep_134 : decode cX4_keep 134 = .ok (.getfield 40, 3) := by decide +kernel
theorem dX4_keep_137 : decode cX4_keep 137 = .ok (.iload_n 1, 1) := by decide +kernel
theorem dX4_keep_138 : decode cX4_keep 138 = .ok (.aload_n 0, 1) := by decide +kernel
theorem dX4_keep_139 : decode cX4_keep 139 = .ok (.getfield 28, 3) := by decide +kernel
theorem dX4_keep_142 : decode cX4_keep 142 = .ok (.iload_n 1, 1) := by decide +kernel
theorem dX4_keep_143 : decode cX4_keep 143 = .ok (.iaload, 1) := by decide +kernel
theorem dX4_keep_144 : decode cX4_keep 144 = .ok (.iastore, 1) := by decide +kernel
theorem dX4_keep_145 : decode cX4_keep 145 = .ok (.iinc 1 1, 3) := by decide +kernel
theorem dX4_keep_148 : decode cX4_keep 148 = .ok (.goto (-21), 3) := by decide +kernel
theorem dX4_keep_151 : decode cX4_keep 151 = .ok (.aload_n 0, 1) := by decide +kernel
theorem dX4_keep_152 : decode cX4_keep 152 = .ok (.iconst 0, 1) := by decide +kernel
theorem dX4_keep_153 : decode cX4_keep 153 = .ok (.putfield 229, 3) := by decide +kernel
theorem dX4_keep_156 : decode cX4_keep 156 = .ok (.iconst 0, 1) := by decide +kernel
theorem dX4_keep_157 : decode cX4_keep 157 = .ok (.istore_n 1, 1) := by decide +kernel
theorem dX4_keep_158 : decode cX4_keep 158 = .ok (.iload_n 1, 1) := by decide +kernel
theorem dX4_keep_159 : decode cX4_keep 159 = .ok (.aload_n 0, 1) := by decide +kernel
theorem dX4_keep_160 : decode cX4_keep 160 = .ok (.getfield 59, 3) := by decide +kernel
theorem dX4_keep_163 : decode cX4_keep 163 = .ok (.if_icmp .ge 78, 3) := by decide +kernel
theorem dX4_keep_166 : decode cX4_keep 166 = .ok (.aload_n 0, 1) := by decide +kernel
theorem dX4_keep_167 : decode cX4_keep 167 = .ok (.getfield 13, 3) := by decide +kernel
theorem dX4_keep_170 : decode cX4_keep 170 = .ok (.iload_n 1, 1) := by decide +kernel
theorem dX4_keep_171 : decode cX4_keep 171 = .ok (.iaload, 1) := by decide +kernel
theorem dX4_keep_172 : decode cX4_keep 172 = .ok (.istore_n 2, 1) := by decide +kernel
theorem dX4_keep_173 : decode cX4_keep 173 = .ok (.iload_n 2, 1) := by decide +kernel
theorem dX4_keep_174 : decode cX4_keep 174 = .ok (.aload_n 0, 1) := by decide +kernel
theorem dX4_keep_175 : decode cX4_keep 175 = .ok (.getfield 16, 3) := by decide +kernel
theorem dX4_keep_178 : decode cX4_keep 178 = .ok (.iload_n 1, 1) := by decide +kernel
theorem dX4_keep_179 : decode cX4_keep 179 = .ok (.iaload, 1) := by decide +kernel
theorem dX4_keep_180 : decode cX4_keep 180 = .ok (.if_icmp .ge 34, 3) := by decide +kernel
theorem dX4_keep_183 : decode cX4_keep 183 = .ok (.aload_n 0, 1) := by decide +kernel
theorem dX4_keep_184 : decode cX4_keep 184 = .ok (.getfield 43, 3) := by decide +kernel
theorem dX4_keep_187 : decode cX4_keep 187 = .ok (.aload_n 0, 1) := by decide +kernel
theorem dX4_keep_188 : decode cX4_keep 188 = .ok (.getfield 229, 3) := by decide +kernel
theorem dX4_keep_191 : decode cX4_keep 191 = .ok (.aload_n 0, 1) := by decide +kernel
theorem dX4_keep_192 : decode cX4_keep 192 = .ok (.getfield 7, 3) := by decide +kernel
theorem dX4_keep_195 : decode cX4_keep 195 = .ok (.iload_n 2, 1) := by decide +kernel
theorem dX4_keep_196 : decode cX4_keep 196 = .ok (.iaload, 1) := by decide +kernel
theorem dX4_keep_197 : decode cX4_keep 197 = .ok (.iastore, 1) := by decide +kernel
theorem dX4_keep_198 : decode cX4_keep 198 = .ok (.aload_n 0, 1) := by decide +kernel
theorem dX4_keep_199 : decode cX4_keep 199 = .ok (.dup, 1) := by decide +kernel
theorem dX4_keep_200 : decode cX4_keep 200 = .ok (.getfield 229, 3) := by decide +kernel
theorem dX4_keep_203 : decode cX4_keep 203 = .ok (.iconst 1, 1) := by decide +kernel
theorem dX4_keep_204 : decode cX4_keep 204 = .ok (.iadd, 1) := by decide +kernel
theorem dX4_keep_205 : decode cX4_keep 205 = .ok (.putfield 229, 3) := by decide +kernel
theorem dX4_keep_208 : decode cX4_keep 208 = .ok (.iinc 2 1, 3) := by decide +kernel
theorem dX4_keep_211 : decode cX4_keep 211 = .ok (.goto (-38), 3) := by decide +kernel
theorem dX4_keep_214 : decode cX4_keep 214 = .ok (.aload_n 0, 1) := by decide +kernel
theorem dX4_keep_215 : decode cX4_keep 215 = .ok (.getfield 43, 3) := by decide +kernel
theorem dX4_keep_218 : decode cX4_keep 218 = .ok (.aload_n 0, 1) := by decide +kernel
theorem dX4_keep_219 : decode cX4_keep 219 = .ok (.getfield 229, 3) := by decide +kernel
theorem dX4_keep_222 : decode cX4_keep 222 = .ok (.bipush 32, 2) := by decide +kernel
theorem dX4_keep_224 : decode cX4_keep 224 = .ok (.iastore, 1) := by decide +kernel
theorem dX4_keep_225 : decode cX4_keep 225 = .ok (.aload_n 0, 1) := by decide +kernel
theorem dX4_keep_226 : decode cX4_keep 226 = .ok (.dup, 1) := by decide +kernel
theorem dX4_keep_227 : decode cX4_keep 227 = .ok (.getfield 229, 3) := by decide +kernel
theorem dX4_keep_230 : decode cX4_keep 230 = .ok (.iconst 1, 1) := by decide +kernel
theorem dX4_keep_231 : decode cX4_keep 231 = .ok (.iadd, 1) := by decide +kernel
theorem dX4_keep_232 : decode cX4_keep 232 = .ok (.putfield 229, 3) := by decide +kernel
theorem dX4_keep_235 : decode cX4_keep 235 = .ok (.iinc 1 1, 3) := by decide +kernel
theorem dX4_keep_238 : decode cX4_keep 238 = .ok (.goto (-80), 3) := by decide +kernel
theorem dX4_keep_241 : decode cX4_keep 241 = .ok (.aload_n 0, 1) := by decide +kernel
theorem dX4_keep_242 : decode cX4_keep 242 = .ok (.dup, 1) := by decide +kernel
theorem dX4_keep_243 : decode cX4_keep 243 = .ok (.getfield 229, 3) := by decide +kernel
theorem dX4_keep_246 : decode cX4_keep 246 = .ok (.iconst 1, 1) := by decide +kernel
theorem dX4_keep_247 : decode cX4_keep 247 = .ok (.isub, 1) := by decide +kernel
theorem dX4_keep_248 : decode cX4_keep 248 = .ok (.putfield 229, 3) := by decide +kernel
theorem dX4_keep_251 : decode cX4_keep 251 = .ok (.return_, 1) := by decide +kernel
theorem dX4_told_0 : decode cX4_told 0 = .ok (.iload_n 1, 1) := by decide +kernel
theorem dX4_told_1 : decode cX4_told 1 = .ok (.ifCond .ne 8, 3) := by decide +kernel
theorem dX4_told_4 : decode cX4_told 4 = .ok (.aload_n 0, 1) := by decide +kernel
theorem dX4_told_5 : decode cX4_told 5 = .ok (.getfield 211, 3) := by decide +kernel
theorem dX4_told_8 : decode cX4_told 8 = .ok (.ireturn, 1) := by decide +kernel
theorem dX4_told_9 : decode cX4_told 9 = .ok (.iload_n 1, 1) := by decide +kernel
theorem dX4_told_10 : decode cX4_told 10 = .ok (.iconst 1, 1) := by decide +kernel
theorem dX4_told_11 : decode cX4_told 11 = .ok (.if_icmp .ne 19, 3) := by decide +kernel
theorem dX4_told_14 : decode cX4_told 14 = .ok (.aload_n 0, 1) := by decide +kernel
theorem dX4_told_15 : decode cX4_told 15 = .ok (.getfield 211, 3) := by decide +kernel
theorem dX4_told_18 : decode cX4_told 18 = .ok (.ifCond .ne 7, 3) := by decide +kernel
theorem dX4_told_21 : decode cX4_told 21 = .ok (.iconst 0, 1) := by decide +kernel
theorem dX4_told_22 : decode cX4_told 22 = .ok (.goto 7, 3) := by decide +kernel
theorem dX4_told_25 : decode cX4_told 25 = .ok (.aload_n 0, 1) := by decide +kernel
theorem dX4_told_26 : decode cX4_told 26 = .ok (.getfield 214, 3) := by decide +kernel
theorem dX4_told_29 : decode cX4_told 29 = .ok (.ireturn, 1) := by decide +kernel
theorem dX4_told_30 : decode cX4_told 30 = .ok (.aload_n 0, 1) := by decide +kernel
theorem dX4_told_31 : decode cX4_told 31 = .ok (.getfield 211, 3) := by decide +kernel
theorem dX4_told_34 : decode cX4_told 34 = .ok (.ifCond .eq 32, 3) := by decide +kernel
theorem dX4_told_37 : decode cX4_told 37 = .ok (.iload_n 1, 1) := by decide +kernel
theorem dX4_told_38 : decode cX4_told 38 = .ok (.iconst 2, 1) := by decide +kernel
theorem dX4_told_39 : decode cX4_told 39 = .ok (.if_icmp .lt 27, 3) := by decide +kernel
theorem dX4_told_42 : decode cX4_told 42 = .ok (.iload_n 1, 1) := by decide +kernel
theorem dX4_told_43 : decode cX4_told 43 = .ok (.bipush 9, 2) := by decide +kernel
theorem dX4_told_45 : decode cX4_told 45 = .ok (.if_icmp .gt 21, 3) := by decide +kernel
theorem dX4_told_48 : decode cX4_told 48 = .ok (.aload_n 0, 1) := by decide +kernel
theorem dX4_told_49 : decode cX4_told 49 = .ok (.getfield 211, 3) := by decide +kernel
theorem dX4_told_52 : decode cX4_told 52 = .ok (.iconst 2, 1) := by decide +kernel
theorem dX4_told_53 : decode cX4_told 53 = .ok (.if_icmp .ne 17, 3) := by decide +kernel
theorem dX4_told_56 : decode cX4_told 56 = .ok (.iload_n 1, 1) := by decide +kernel
theorem dX4_told_57 : decode cX4_told 57 = .ok (.iconst 3, 1) := by decide +kernel
theorem dX4_told_58 : decode cX4_told 58 = .ok (.if_icmp .lt 12, 3) := by decide +kernel
theorem dX4_told_61 : decode cX4_told 61 = .ok (.iload_n 1, 1) := by decide +kernel
theorem dX4_told_62 : decode cX4_told 62 = .ok (.iconst 5, 1) := by decide +kernel
theorem dX4_told_63 : decode cX4_told 63 = .ok (.if_icmp .gt 7, 3) := by decide +kernel
theorem dX4_told_66 : decode cX4_told 66 = .ok (.sipush (-1001), 3) := by decide +kernel
theorem dX4_told_69 : decode cX4_told 69 = .ok (.ireturn, 1) := by decide +kernel
theorem dX4_told_70 : decode cX4_told 70 = .ok (.iload_n 1, 1) := by decide +kernel
theorem dX4_told_71 : decode cX4_told 71 = .ok (.iconst 2, 1) := by decide +kernel
theorem dX4_told_72 : decode cX4_told 72 = .ok (.if_icmp .ne 10, 3) := by decide +kernel
theorem dX4_told_75 : decode cX4_told 75 = .ok (.aload_n 0, 1) := by decide +kernel
theorem dX4_told_76 : decode cX4_told 76 = .ok (.getfield 217, 3) := by decide +kernel
theorem dX4_told_79 : decode cX4_told 79 = .ok (.goto 48, 3) := by decide +kernel
theorem dX4_told_82 : decode cX4_told 82 = .ok (.iload_n 1, 1) := by decide +kernel
theorem dX4_told_83 : decode cX4_told 83 = .ok (.iconst 3, 1) := by decide +kernel
theorem dX4_told_84 : decode cX4_told 84 = .ok (.if_icmp .ne 10, 3) := by decide +kernel
theorem dX4_told_87 : decode cX4_told 87 = .ok (.aload_n 0, 1) := by decide +kernel
theorem dX4_told_88 : decode cX4_told 88 = .ok (.getfield 220, 3) := by decide +kernel
theorem dX4_told_91 : decode cX4_told 91 = .ok (.goto 36, 3) := by decide +kernel
theorem dX4_told_94 : decode cX4_told 94 = .ok (.iload_n 1, 1) := by decide +kernel
theorem dX4_told_95 : decode cX4_told 95 = .ok (.iconst 4, 1) := by decide +kernel
theorem dX4_told_96 : decode cX4_told 96 = .ok (.if_icmp .ne 10, 3) := by decide +kernel
theorem dX4_told_99 : decode cX4_told 99 = .ok (.aload_n 0, 1) := by decide +kernel
theorem dX4_told_100 : decode cX4_told 100 = .ok (.getfield 223, 3) := by decide +kernel
theorem dX4_told_103 : decode cX4_told 103 = .ok (.goto 24, 3) := by decide +kernel
theorem dX4_told_106 : decode cX4_told 106 = .ok (.iload_n 1, 1) := by decide +kernel
theorem dX4_told_107 : decode cX4_told 107 = .ok (.iconst 5, 1) := by decide +kernel
theorem dX4_told_108 : decode cX4_told 108 = .ok (.if_icmp .ne 10, 3) := by decide +kernel
theorem dX4_told_111 : decode cX4_told 111 = .ok (.aload_n 0, 1) := by decide +kernel
theorem dX4_told_112 : decode cX4_told 112 = .ok (.getfield 226, 3) := by decide +kernel
theorem dX4_told_115 : decode cX4_told 115 = .ok (.goto 12, 3) := by decide +kernel
theorem dX4_told_118 : decode cX4_told 118 = .ok (.aload_n 0, 1) := by decide +kernel
theorem dX4_told_119 : decode cX4_told 119 = .ok (.getfield 31, 3) := by decide +kernel
theorem dX4_told_122 : decode cX4_told 122 = .ok (.iload_n 1, 1) := by decide +kernel
theorem dX4_told_123 : decode cX4_told 123 = .ok (.bipush 6, 2) := by decide +kernel
theorem dX4_told_125 : decode cX4_told 125 = .ok (.isub, 1) := by decide +kernel
theorem dX4_told_126 : decode cX4_told 126 = .ok (.iaload, 1) := by decide +kernel
theorem dX4_told_127 : decode cX4_told 127 = .ok (.ireturn, 1) := by decide +kernel
theorem dX4_isGroup_0 : decode cX4_isGroup 0 = .ok (.aload_n 0, 1) := by decide +kernel
theorem dX4_isGroup_1 : decode cX4_isGroup 1 = .ok (.getfield 211, 3) := by decide +kernel
theorem dX4_isGroup_4 : decode cX4_isGroup 4 = .ok (.ifCond .le 19, 3) := by decide +kernel
theorem dX4_isGroup_7 : decode cX4_isGroup 7 = .ok (.iload_n 1, 1) := by decide +kernel
theorem dX4_isGroup_8 : decode cX4_isGroup 8 = .ok (.ifCond .lt 15, 3) := by decide +kernel
theorem dX4_isGroup_11 : decode cX4_isGroup 11 = .ok (.iload_n 1, 1) := by decide +kernel
theorem dX4_isGroup_12 : decode cX4_isGroup 12 = .ok (.aload_n 0, 1) := by decide +kernel
theorem dX4_isGroup_13 : decode cX4_isGroup 13 = .ok (.getfield 214, 3) := by decide +kernel
theorem dX4_isGroup_16 : decode cX4_isGroup 16 = .ok (.if_icmp .ge 7, 3) := by decide +kernel
theorem dX4_isGroup_19 : decode cX4_isGroup 19 = .ok (.iconst 1, 1) := by decide +kernel
theorem dX4_isGroup_20 : decode cX4_isGroup 20 = .ok (.goto 4, 3) := by decide +kernel
theorem dX4_isGroup_23 : decode cX4_isGroup 23 = .ok (.iconst 0, 1) := by decide +kernel
theorem dX4_isGroup_24 : decode cX4_isGroup 24 = .ok (.ireturn, 1) := by decide +kernel
theorem dX4_group_0 : decode cX4_group 0 = .ok (.aload_n 0, 1) := by decide +kernel
theorem dX4_group_1 : decode cX4_group 1 = .ok (.iload_n 1, 1) := by decide +kernel
theorem dX4_group_2 : decode cX4_group 2 = .ok (.invokevirtual 232, 3) := by decide +kernel
theorem dX4_group_5 : decode cX4_group 5 = .ok (.ifCond .eq 27, 3) := by decide +kernel
theorem dX4_group_8 : decode cX4_group 8 = .ok (.iload_n 2, 1) := by decide +kernel
theorem dX4_group_9 : decode cX4_group 9 = .ok (.ifCond .lt 23, 3) := by decide +kernel
theorem dX4_group_12 : decode cX4_group 12 = .ok (.iload_n 2, 1) := by decide +kernel
theorem dX4_group_13 : decode cX4_group 13 = .ok (.bipush 9, 2) := by decide +kernel
theorem dX4_group_15 : decode cX4_group 15 = .ok (.if_icmp .gt 17, 3) := by decide +kernel
theorem dX4_group_18 : decode cX4_group 18 = .ok (.aload_n 0, 1) := by decide +kernel
theorem dX4_group_19 : decode cX4_group 19 = .ok (.getfield 34, 3) := by decide +kernel
theorem dX4_group_22 : decode cX4_group 22 = .ok (.bipush 10, 2) := by decide +kernel
theorem dX4_group_24 : decode cX4_group 24 = .ok (.iload_n 1, 1) := by decide +kernel
theorem dX4_group_25 : decode cX4_group 25 = .ok (.imul, 1) := by decide +kernel
theorem dX4_group_26 : decode cX4_group 26 = .ok (.iload_n 2, 1) := by decide +kernel
theorem dX4_group_27 : decode cX4_group 27 = .ok (.iadd, 1) := by decide +kernel
theorem dX4_group_28 : decode cX4_group 28 = .ok (.iaload, 1) := by decide +kernel
theorem dX4_group_29 : decode cX4_group 29 = .ok (.goto 4, 3) := by decide +kernel
theorem dX4_group_32 : decode cX4_group 32 = .ok (.iconst (-1), 1) := by decide +kernel
theorem dX4_group_33 : decode cX4_group 33 = .ok (.ireturn, 1) := by decide +kernel
theorem dX4_weather_0 : decode cX4_weather 0 = .ok (.aload_n 0, 1) := by decide +kernel
theorem dX4_weather_1 : decode cX4_weather 1 = .ok (.iload_n 1, 1) := by decide +kernel
theorem dX4_weather_2 : decode cX4_weather 2 = .ok (.invokevirtual 232, 3) := by decide +kernel
theorem dX4_weather_5 : decode cX4_weather 5 = .ok (.ifCond .eq 36, 3) := by decide +kernel
theorem dX4_weather_8 : decode cX4_weather 8 = .ok (.iload_n 2, 1) := by decide +kernel
theorem dX4_weather_9 : decode cX4_weather 9 = .ok (.ifCond .lt 32, 3) := by decide +kernel
theorem dX4_weather_12 : decode cX4_weather 12 = .ok (.iload_n 2, 1) := by decide +kernel
theorem dX4_weather_13 : decode cX4_weather 13 = .ok (.aload_n 0, 1) := by decide +kernel
theorem dX4_weather_14 : decode cX4_weather 14 = .ok (.getfield 34, 3) := by decide +kernel
theorem dX4_weather_17 : decode cX4_weather 17 = .ok (.bipush 10, 2) := by decide +kernel
theorem dX4_weather_19 : decode cX4_weather 19 = .ok (.iload_n 1, 1) := by decide +kernel
theorem dX4_weather_20 : decode cX4_weather 20 = .ok (.imul, 1) := by decide +kernel
theorem dX4_weather_21 : decode cX4_weather 21 = .ok (.bipush 8, 2) := by decide +kernel
theorem dX4_weather_23 : decode cX4_weather 23 = .ok (.iadd, 1) := by decide +kernel
theorem dX4_weather_24 : decode cX4_weather 24 = .ok (.iaload, 1) := by decide +kernel
theorem dX4_weather_25 : decode cX4_weather 25 = .ok (.if_icmp .ge 16, 3) := by decide +kernel
theorem dX4_weather_28 : decode cX4_weather 28 = .ok (.aload_n 0, 1) := by decide +kernel
theorem dX4_weather_29 : decode cX4_weather 29 = .ok (.getfield 37, 3) := by decide +kernel
theorem dX4_weather_32 : decode cX4_weather 32 = .ok (.iconst 3, 1) := by decide +kernel
theorem dX4_weather_33 : decode cX4_weather 33 = .ok (.iload_n 1, 1) := by decide +kernel
theorem dX4_weather_34 : decode cX4_weather 34 = .ok (.imul, 1) := by decide +kernel
theorem dX4_weather_35 : decode cX4_weather 35 = .ok (.iload_n 2, 1) := by decide +kernel
theorem dX4_weather_36 : decode cX4_weather 36 = .ok (.iadd, 1) := by decide +kernel
theorem dX4_weather_37 : decode cX4_weather 37 = .ok (.iaload, 1) := by decide +kernel
theorem dX4_weather_38 : decode cX4_weather 38 = .ok (.goto 4, 3) := by decide +kernel
theorem dX4_weather_41 : decode cX4_weather 41 = .ok (.iconst (-1), 1) := by decide +kernel
theorem dX4_weather_42 : decode cX4_weather 42 = .ok (.ireturn, 1) := by decide +kernel
theorem dX4_cloud_0 : decode cX4_cloud 0 = .ok (.aload_n 0, 1) := by decide +kernel
theorem dX4_cloud_1 : decode cX4_cloud 1 = .ok (.iload_n 1, 1) := by decide +kernel
theorem dX4_cloud_2 : decode cX4_cloud 2 = .ok (.invokevirtual 232, 3) := by decide +kernel
theorem dX4_cloud_5 : decode cX4_cloud 5 = .ok (.ifCond .eq 36, 3) := by decide +kernel
theorem dX4_cloud_8 : decode cX4_cloud 8 = .ok (.iload_n 2, 1) := by decide +kernel
theorem dX4_cloud_9 : decode cX4_cloud 9 = .ok (.ifCond .lt 32, 3) := by decide +kernel
theorem dX4_cloud_12 : decode cX4_cloud 12 = .ok (.iload_n 2, 1) := by decide +kernel
theorem dX4_cloud_13 : decode cX4_cloud 13 = .ok (.aload_n 0, 1) := by decide +kernel
theorem dX4_cloud_14 : decode cX4_cloud 14 = .ok (.getfield 34, 3) := by decide +kernel
theorem dX4_cloud_17 : decode cX4_cloud 17 = .ok (.bipush 10, 2) := by decide +kernel
theorem dX4_cloud_19 : decode cX4_cloud 19 = .ok (.iload_n 1, 1) := by decide +kernel
theorem dX4_cloud_20 : decode cX4_cloud 20 = .ok (.imul, 1) := by decide +kernel
theorem dX4_cloud_21 : decode cX4_cloud 21 = .ok (.bipush 9, 2) := by decide +kernel
theorem dX4_cloud_23 : decode cX4_cloud 23 = .ok (.iadd, 1) := by decide +kernel
theorem dX4_cloud_24 : decode cX4_cloud 24 = .ok (.iaload, 1) := by decide +kernel
theorem dX4_cloud_25 : decode cX4_cloud 25 = .ok (.if_icmp .ge 16, 3) := by decide +kernel
theorem dX4_cloud_28 : decode cX4_cloud 28 = .ok (.aload_n 0, 1) := by decide +kernel
theorem dX4_cloud_29 : decode cX4_cloud 29 = .ok (.getfield 40, 3) := by decide +kernel
theorem dX4_cloud_32 : decode cX4_cloud 32 = .ok (.iconst 4, 1) := by decide +kernel
theorem dX4_cloud_33 : decode cX4_cloud 33 = .ok (.iload_n 1, 1) := by decide +kernel
theorem dX4_cloud_34 : decode cX4_cloud 34 = .ok (.imul, 1) := by decide +kernel
theorem dX4_cloud_35 : decode cX4_cloud 35 = .ok (.iload_n 2, 1) := by decide +kernel
theorem dX4_cloud_36 : decode cX4_cloud 36 = .ok (.iadd, 1) := by decide +kernel
theorem dX4_cloud_37 : decode cX4_cloud 37 = .ok (.iaload, 1) := by decide +kernel
theorem dX4_cloud_38 : decode cX4_cloud 38 = .ok (.goto 4, 3) := by decide +kernel
theorem dX4_cloud_41 : decode cX4_cloud 41 = .ok (.iconst (-1), 1) := by decide +kernel
theorem dX4_cloud_42 : decode cX4_cloud 42 = .ok (.ireturn, 1) := by decide +kernel
theorem dX4_isMinute_0 : decode cX4_isMinute 0 = .ok (.aload_n 0, 1) := by decide +kernel
theorem dX4_isMinute_1 : decode cX4_isMinute 1 = .ok (.getfield 211, 3) := by decide +kernel
theorem dX4_isMinute_4 : decode cX4_isMinute 4 = .ok (.iconst 2, 1) := by decide +kernel
theorem dX4_isMinute_5 : decode cX4_isMinute 5 = .ok (.if_icmp .ne 27, 3) := by decide +kernel
theorem dX4_isMinute_8 : decode cX4_isMinute 8 = .ok (.iload_n 1, 1) := by decide +kernel
theorem dX4_isMinute_9 : decode cX4_isMinute 9 = .ok (.aload_n 0, 1) := by decide +kernel
theorem dX4_isMinute_10 : decode cX4_isMinute 10 = .ok (.getfield 34, 3) := by decide +kernel
theorem dX4_isMinute_13 : decode cX4_isMinute 13 = .ok (.iconst 2, 1) := by decide +kernel
theorem dX4_isMinute_14 : decode cX4_isMinute 14 = .ok (.iaload, 1) := by decide +kernel
theorem dX4_isMinute_15 : decode cX4_isMinute 15 = .ok (.if_icmp .lt 17, 3) := by decide +kernel
theorem dX4_isMinute_18 : decode cX4_isMinute 18 = .ok (.iload_n 1, 1) := by decide +kernel
theorem dX4_isMinute_19 : decode cX4_isMinute 19 = .ok (.aload_n 0, 1) := by decide +kernel
theorem dX4_isMinute_20 : decode cX4_isMinute 20 = .ok (.getfield 34, 3) := by decide +kernel
theorem dX4_isMinute_23 : decode cX4_isMinute 23 = .ok (.iconst 3, 1) := by decide +kernel
theorem dX4_isMinute_24 : decode cX4_isMinute 24 = .ok (.iaload, 1) := by decide +kernel
theorem dX4_isMinute_25 : decode cX4_isMinute 25 = .ok (.if_icmp .ge 7, 3) := by decide +kernel
theorem dX4_isMinute_28 : decode cX4_isMinute 28 = .ok (.iconst 1, 1) := by decide +kernel
theorem dX4_isMinute_29 : decode cX4_isMinute 29 = .ok (.goto 4, 3) := by decide +kernel
theorem dX4_isMinute_32 : decode cX4_isMinute 32 = .ok (.iconst 0, 1) := by decide +kernel
theorem dX4_isMinute_33 : decode cX4_isMinute 33 = .ok (.ireturn, 1) := by decide +kernel
theorem dX4_teller_0 : decode cX4_teller 0 = .ok (.iconst 0, 1) := by decide +kernel
theorem dX4_teller_1 : decode cX4_teller 1 = .ok (.istore_n 3, 1) := by decide +kernel
theorem dX4_teller_2 : decode cX4_teller 2 = .ok (.iconst 1, 1) := by decide +kernel
theorem dX4_teller_3 : decode cX4_teller 3 = .ok (.istore 4, 2) := by decide +kernel
theorem dX4_teller_5 : decode cX4_teller 5 = .ok (.iload 4, 2) := by decide +kernel
theorem dX4_teller_7 : decode cX4_teller 7 = .ok (.aload_n 0, 1) := by decide +kernel
theorem dX4_teller_8 : decode cX4_teller 8 = .ok (.getfield 214, 3) := by decide +kernel
theorem dX4_teller_11 : decode cX4_teller 11 = .ok (.if_icmp .ge 116, 3) := by decide +kernel
theorem dX4_teller_14 : decode cX4_teller 14 = .ok (.aload_n 0, 1) := by decide +kernel
theorem dX4_teller_15 : decode cX4_teller 15 = .ok (.getfield 34, 3) := by decide +kernel
theorem dX4_teller_18 : decode cX4_teller 18 = .ok (.bipush 10, 2) := by decide +kernel
theorem dX4_teller_20 : decode cX4_teller 20 = .ok (.iload 4, 2) := by decide +kernel
theorem dX4_teller_22 : decode cX4_teller 22 = .ok (.imul, 1) := by decide +kernel
theorem dX4_teller_23 : decode cX4_teller 23 = .ok (.iaload, 1) := by decide +kernel
theorem dX4_teller_24 : decode cX4_teller 24 = .ok (.iconst 1, 1) := by decide +kernel
theorem dX4_teller_25 : decode cX4_teller 25 = .ok (.if_icmp .ne 23, 3) := by decide +kernel
theorem dX4_teller_28 : decode cX4_teller 28 = .ok (.iload_n 1, 1) := by decide +kernel
theorem dX4_teller_29 : decode cX4_teller 29 = .ok (.aload_n 0, 1) := by decide +kernel
theorem dX4_teller_30 : decode cX4_teller 30 = .ok (.getfield 34, 3) := by decide +kernel
theorem dX4_teller_33 : decode cX4_teller 33 = .ok (.bipush 10, 2) := by decide +kernel
theorem dX4_teller_35 : decode cX4_teller 35 = .ok (.iload 4, 2) := by decide +kernel
theorem dX4_teller_37 : decode cX4_teller 37 = .ok (.imul, 1) := by decide +kernel
theorem dX4_teller_38 : decode cX4_teller 38 = .ok (.iconst 2, 1) := by decide +kernel
theorem dX4_teller_39 : decode cX4_teller 39 = .ok (.iadd, 1) := by decide +kernel
theorem dX4_teller_40 : decode cX4_teller 40 = .ok (.iaload, 1) := by decide +kernel
theorem dX4_teller_41 : decode cX4_teller 41 = .ok (.if_icmp .lt 7, 3) := by decide +kernel
theorem dX4_teller_44 : decode cX4_teller 44 = .ok (.iconst 1, 1) := by decide +kernel
theorem dX4_teller_45 : decode cX4_teller 45 = .ok (.goto 4, 3) := by decide +kernel
theorem dX4_teller_48 : decode cX4_teller 48 = .ok (.iconst 0, 1) := by decide +kernel
theorem dX4_teller_49 : decode cX4_teller 49 = .ok (.istore 5, 2) := by decide +kernel
theorem dX4_teller_51 : decode cX4_teller 51 = .ok (.aload_n 0, 1) := by decide +kernel
theorem dX4_teller_52 : decode cX4_teller 52 = .ok (.getfield 34, 3) := by decide +kernel
theorem dX4_teller_55 : decode cX4_teller 55 = .ok (.bipush 10, 2) := by decide +kernel
theorem dX4_teller_57 : decode cX4_teller 57 = .ok (.iload 4, 2) := by decide +kernel
theorem dX4_teller_59 : decode cX4_teller 59 = .ok (.imul, 1) := by decide +kernel
theorem dX4_teller_60 : decode cX4_teller 60 = .ok (.iaload, 1) := by decide +kernel
theorem dX4_teller_61 : decode cX4_teller 61 = .ok (.iconst 2, 1) := by decide +kernel
theorem dX4_teller_62 : decode cX4_teller 62 = .ok (.if_icmp .ne 39, 3) := by decide +kernel
theorem dX4_teller_65 : decode cX4_teller 65 = .ok (.iload_n 1, 1) := by decide +kernel
theorem dX4_teller_66 : decode cX4_teller 66 = .ok (.aload_n 0, 1) := by decide +kernel
theorem dX4_teller_67 : decode cX4_teller 67 = .ok (.getfield 34, 3) := by decide +kernel
theorem dX4_teller_70 : decode cX4_teller 70 = .ok (.bipush 10, 2) := by decide +kernel
theorem dX4_teller_72 : decode cX4_teller 72 = .ok (.iload 4, 2) := by decide +kernel
theorem dX4_teller_74 : decode cX4_teller 74 = .ok (.imul, 1) := by decide +kernel
theorem dX4_teller_75 : decode cX4_teller 75 = .ok (.iconst 3, 1) := by decide +kernel
theorem dX4_teller_76 : decode cX4_teller 76 = .ok (.iadd, 1) := by decide +kernel
theorem dX4_teller_77 : decode cX4_teller 77 = .ok (.iaload, 1) := by decide +kernel
theorem dX4_teller_78 : decode cX4_teller 78 = .ok (.if_icmp .lt 23, 3) := by decide +kernel
theorem dX4_teller_81 : decode cX4_teller 81 = .ok (.aload_n 0, 1) := by decide +kernel
theorem dX4_teller_82 : decode cX4_teller 82 = .ok (.getfield 34, 3) := by decide +kernel
theorem dX4_teller_85 : decode cX4_teller 85 = .ok (.bipush 10, 2) := by decide +kernel
theorem dX4_teller_87 : decode cX4_teller 87 = .ok (.iload 4, 2) := by decide +kernel
theorem dX4_teller_89 : decode cX4_teller 89 = .ok (.imul, 1) := by decide +kernel
theorem dX4_teller_90 : decode cX4_teller 90 = .ok (.iload_n 2, 1) := by decide +kernel
theorem dX4_teller_91 : decode cX4_teller 91 = .ok (.iadd, 1) := by decide +kernel
theorem dX4_teller_92 : decode cX4_teller 92 = .ok (.iaload, 1) := by decide +kernel
theorem dX4_teller_93 : decode cX4_teller 93 = .ok (.iconst (-1), 1) := by decide +kernel
theorem dX4_teller_94 : decode cX4_teller 94 = .ok (.if_icmp .eq 7, 3) := by decide +kernel
theorem dX4_teller_97 : decode cX4_teller 97 = .ok (.iconst 1, 1) := by decide +kernel
theorem dX4_teller_98 : decode cX4_teller 98 = .ok (.goto 4, 3) := by decide +kernel
theorem dX4_teller_101 : decode cX4_teller 101 = .ok (.iconst 0, 1) := by decide +kernel
theorem dX4_teller_102 : decode cX4_teller 102 = .ok (.istore 6, 2) := by decide +kernel
theorem dX4_teller_104 : decode cX4_teller 104 = .ok (.iload 5, 2) := by decide +kernel
theorem dX4_teller_106 : decode cX4_teller 106 = .ok (.ifCond .ne 8, 3) := by decide +kernel
theorem dX4_teller_109 : decode cX4_teller 109 = .ok (.iload 6, 2) := by decide +kernel
theorem dX4_teller_111 : decode cX4_teller 111 = .ok (.ifCond .eq 8, 3) := by decide +kernel
theorem dX4_teller_114 : decode cX4_teller 114 = .ok (.iload 4, 2) := by decide +kernel
theorem dX4_teller_116 : decode cX4_teller 116 = .ok (.goto 4, 3) := by decide +kernel
theorem dX4_teller_119 : decode cX4_teller 119 = .ok (.iload_n 3, 1) := by decide +kernel
theorem dX4_teller_120 : decode cX4_teller 120 = .ok (.istore_n 3, 1) := by decide +kernel
theorem dX4_teller_121 : decode cX4_teller 121 = .ok (.iinc 4 1, 3) := by decide +kernel
theorem dX4_teller_124 : decode cX4_teller 124 = .ok (.goto (-119), 3) := by decide +kernel
theorem dX4_teller_127 : decode cX4_teller 127 = .ok (.iload_n 3, 1) := by decide +kernel
theorem dX4_teller_128 : decode cX4_teller 128 = .ok (.ireturn, 1) := by decide +kernel
theorem dX4_part_0 : decode cX4_part 0 = .ok (.iload_n 0, 1) := by decide +kernel
theorem dX4_part_1 : decode cX4_part 1 = .ok (.ifCond .ne 7, 3) := by decide +kernel
theorem dX4_part_4 : decode cX4_part 4 = .ok (.iconst 4, 1) := by decide +kernel
theorem dX4_part_5 : decode cX4_part 5 = .ok (.goto 7, 3) := by decide +kernel
theorem dX4_part_8 : decode cX4_part 8 = .ok (.bipush 6, 2) := by decide +kernel
theorem dX4_part_10 : decode cX4_part 10 = .ok (.iload_n 0, 1) := by decide +kernel
theorem dX4_part_11 : decode cX4_part 11 = .ok (.iadd, 1) := by decide +kernel
theorem dX4_part_12 : decode cX4_part 12 = .ok (.ireturn, 1) := by decide +kernel
theorem dX4_from_0 : decode cX4_from 0 = .ok (.aload_n 0, 1) := by decide +kernel
theorem dX4_from_1 : decode cX4_from 1 = .ok (.iload_n 1, 1) := by decide +kernel
theorem dX4_from_2 : decode cX4_from 2 = .ok (.invokevirtual 235, 3) := by decide +kernel
theorem dX4_from_5 : decode cX4_from 5 = .ok (.ifCond .eq 24, 3) := by decide +kernel
theorem dX4_from_8 : decode cX4_from 8 = .ok (.iload_n 2, 1) := by decide +kernel
theorem dX4_from_9 : decode cX4_from 9 = .ok (.ifCond .lt 20, 3) := by decide +kernel
theorem dX4_from_12 : decode cX4_from 12 = .ok (.iload_n 2, 1) := by decide +kernel
theorem dX4_from_13 : decode cX4_from 13 = .ok (.iconst 3, 1) := by decide +kernel
theorem dX4_from_14 : decode cX4_from 14 = .ok (.if_icmp .gt 15, 3) := by decide +kernel
theorem dX4_from_17 : decode cX4_from 17 = .ok (.aload_n 0, 1) := by decide +kernel
theorem dX4_from_18 : decode cX4_from 18 = .ok (.iload_n 1, 1) := by decide +kernel
theorem dX4_from_19 : decode cX4_from 19 = .ok (.iload_n 2, 1) := by decide +kernel
theorem dX4_from_20 : decode cX4_from 20 = .ok (.invokestatic 238, 3) := by decide +kernel
theorem dX4_from_23 : decode cX4_from 23 = .ok (.invokevirtual 241, 3) := by decide +kernel
theorem dX4_from_26 : decode cX4_from 26 = .ok (.goto 4, 3) := by decide +kernel
theorem dX4_from_29 : decode cX4_from 29 = .ok (.iconst (-1), 1) := by decide +kernel
theorem dX4_from_30 : decode cX4_from 30 = .ok (.ireturn, 1) := by decide +kernel
theorem dX4_isActive_0 : decode cX4_isActive 0 = .ok (.aload_n 0, 1) := by decide +kernel
theorem dX4_isActive_1 : decode cX4_isActive 1 = .ok (.getfield 34, 3) := by decide +kernel
theorem dX4_isActive_4 : decode cX4_isActive 4 = .ok (.bipush 10, 2) := by decide +kernel
theorem dX4_isActive_6 : decode cX4_isActive 6 = .ok (.iload_n 1, 1) := by decide +kernel
theorem dX4_isActive_7 : decode cX4_isActive 7 = .ok (.imul, 1) := by decide +kernel
theorem dX4_isActive_8 : decode cX4_isActive 8 = .ok (.iaload, 1) := by decide +kernel
theorem dX4_isActive_9 : decode cX4_isActive 9 = .ok (.iconst 3, 1) := by decide +kernel
theorem dX4_isActive_10 : decode cX4_isActive 10 = .ok (.if_icmp .lt 37, 3) := by decide +kernel
theorem dX4_isActive_13 : decode cX4_isActive 13 = .ok (.iload_n 2, 1) := by decide +kernel
theorem dX4_isActive_14 : decode cX4_isActive 14 = .ok (.aload_n 0, 1) := by decide +kernel
theorem dX4_isActive_15 : decode cX4_isActive 15 = .ok (.getfield 34, 3) := by decide +kernel
theorem dX4_isActive_18 : decode cX4_isActive 18 = .ok (.bipush 10, 2) := by decide +kernel
theorem dX4_isActive_20 : decode cX4_isActive 20 = .ok (.iload_n 1, 1) := by decide +kernel
theorem dX4_isActive_21 : decode cX4_isActive 21 = .ok (.imul, 1) := by decide +kernel
theorem dX4_isActive_22 : decode cX4_isActive 22 = .ok (.iconst 2, 1) := by decide +kernel
theorem dX4_isActive_23 : decode cX4_isActive 23 = .ok (.iadd, 1) := by decide +kernel
theorem dX4_isActive_24 : decode cX4_isActive 24 = .ok (.iaload, 1) := by decide +kernel
theorem dX4_isActive_25 : decode cX4_isActive 25 = .ok (.if_icmp .lt 22, 3) := by decide +kernel
theorem dX4_isActive_28 : decode cX4_isActive 28 = .ok (.iload_n 2, 1) := by decide +kernel
theorem dX4_isActive_29 : decode cX4_isActive 29 = .ok (.aload_n 0, 1) := by decide +kernel
theorem dX4_isActive_30 : decode cX4_isActive 30 = .ok (.getfield 34, 3) := by decide +kernel
theorem dX4_isActive_33 : decode cX4_isActive 33 = .ok (.bipush 10, 2) := by decide +kernel
theorem dX4_isActive_35 : decode cX4_isActive 35 = .ok (.iload_n 1, 1) := by decide +kernel
theorem dX4_isActive_36 : decode cX4_isActive 36 = .ok (.imul, 1) := by decide +kernel
theorem dX4_isActive_37 : decode cX4_isActive 37 = .ok (.iconst 3, 1) := by decide +kernel
theorem dX4_isActive_38 : decode cX4_isActive 38 = .ok (.iadd, 1) := by decide +kernel
theorem dX4_isActive_39 : decode cX4_isActive 39 = .ok (.iaload, 1) := by decide +kernel
theorem dX4_isActive_40 : decode cX4_isActive 40 = .ok (.if_icmp .ge 7, 3) := by decide +kernel
theorem dX4_isActive_43 : decode cX4_isActive 43 = .ok (.iconst 1, 1) := by decide +kernel
theorem dX4_isActive_44 : decode cX4_isActive 44 = .ok (.goto 4, 3) := by decide +kernel
theorem dX4_isActive_47 : decode cX4_isActive 47 = .ok (.iconst 0, 1) := by decide +kernel
theorem dX4_isActive_48 : decode cX4_isActive 48 = .ok (.ireturn, 1) := by decide +kernel
theorem dX4_active_0 : decode cX4_active 0 = .ok (.iconst 0, 1) := by decide +kernel
theorem dX4_active_1 : decode cX4_active 1 = .ok (.istore_n 2, 1) := by decide +kernel
theorem dX4_active_2 : decode cX4_active 2 = .ok (.iconst 1, 1) := by decide +kernel
theorem dX4_active_3 : decode cX4_active 3 = .ok (.istore_n 3, 1) := by decide +kernel
theorem dX4_active_4 : decode cX4_active 4 = .ok (.iload_n 3, 1) := by decide +kernel
theorem dX4_active_5 : decode cX4_active 5 = .ok (.aload_n 0, 1) := by decide +kernel
theorem dX4_active_6 : decode cX4_active 6 = .ok (.getfield 214, 3) := by decide +kernel
theorem dX4_active_9 : decode cX4_active 9 = .ok (.if_icmp .ge 34, 3) := by decide +kernel
theorem dX4_active_12 : decode cX4_active 12 = .ok (.aload_n 0, 1) := by decide +kernel
theorem dX4_active_13 : decode cX4_active 13 = .ok (.iload_n 1, 1) := by decide +kernel
theorem dX4_active_14 : decode cX4_active 14 = .ok (.invokevirtual 235, 3) := by decide +kernel
theorem dX4_active_17 : decode cX4_active 17 = .ok (.ifCond .eq 26, 3) := by decide +kernel
theorem dX4_active_20 : decode cX4_active 20 = .ok (.iload_n 2, 1) := by decide +kernel
theorem dX4_active_21 : decode cX4_active 21 = .ok (.aload_n 0, 1) := by decide +kernel
theorem dX4_active_22 : decode cX4_active 22 = .ok (.iload_n 3, 1) := by decide +kernel
theorem dX4_active_23 : decode cX4_active 23 = .ok (.iload_n 1, 1) := by decide +kernel
theorem dX4_active_24 : decode cX4_active 24 = .ok (.invokevirtual 244, 3) := by decide +kernel
theorem dX4_active_27 : decode cX4_active 27 = .ok (.ifCond .eq 7, 3) := by decide +kernel
theorem dX4_active_30 : decode cX4_active 30 = .ok (.iconst 1, 1) := by decide +kernel
theorem dX4_active_31 : decode cX4_active 31 = .ok (.goto 4, 3) := by decide +kernel
theorem dX4_active_34 : decode cX4_active 34 = .ok (.iconst 0, 1) := by decide +kernel
theorem dX4_active_35 : decode cX4_active 35 = .ok (.iadd, 1) := by decide +kernel
theorem dX4_active_36 : decode cX4_active 36 = .ok (.istore_n 2, 1) := by decide +kernel
theorem dX4_active_37 : decode cX4_active 37 = .ok (.iinc 3 1, 3) := by decide +kernel
theorem dX4_active_40 : decode cX4_active 40 = .ok (.goto (-36), 3) := by decide +kernel
theorem dX4_active_43 : decode cX4_active 43 = .ok (.aload_n 0, 1) := by decide +kernel
theorem dX4_active_44 : decode cX4_active 44 = .ok (.iload_n 1, 1) := by decide +kernel
theorem dX4_active_45 : decode cX4_active 45 = .ok (.invokevirtual 235, 3) := by decide +kernel
theorem dX4_active_48 : decode cX4_active 48 = .ok (.ifCond .eq 7, 3) := by decide +kernel
theorem dX4_active_51 : decode cX4_active 51 = .ok (.iload_n 2, 1) := by decide +kernel
theorem dX4_active_52 : decode cX4_active 52 = .ok (.goto 4, 3) := by decide +kernel
theorem dX4_active_55 : decode cX4_active 55 = .ok (.iconst (-1), 1) := by decide +kernel
theorem dX4_active_56 : decode cX4_active 56 = .ok (.ireturn, 1) := by decide +kernel
theorem dX4_activeOne_0 : decode cX4_activeOne 0 = .ok (.iconst 0, 1) := by decide +kernel
theorem dX4_activeOne_1 : decode cX4_activeOne 1 = .ok (.istore_n 3, 1) := by decide +kernel
theorem dX4_activeOne_2 : decode cX4_activeOne 2 = .ok (.iconst 1, 1) := by decide +kernel
theorem dX4_activeOne_3 : decode cX4_activeOne 3 = .ok (.istore 4, 2) := by decide +kernel
theorem dX4_activeOne_5 : decode cX4_activeOne 5 = .ok (.iload 4, 2) := by decide +kernel
theorem dX4_activeOne_7 : decode cX4_activeOne 7 = .ok (.aload_n 0, 1) := by decide +kernel
theorem dX4_activeOne_8 : decode cX4_activeOne 8 = .ok (.getfield 214, 3) := by decide +kernel
theorem dX4_activeOne_11 : decode cX4_activeOne 11 = .ok (.if_icmp .ge 52, 3) := by decide +kernel
theorem dX4_activeOne_14 : decode cX4_activeOne 14 = .ok (.aload_n 0, 1) := by decide +kernel
theorem dX4_activeOne_15 : decode cX4_activeOne 15 = .ok (.iload_n 1, 1) := by decide +kernel
theorem dX4_activeOne_16 : decode cX4_activeOne 16 = .ok (.invokevirtual 235, 3) := by decide +kernel
theorem dX4_activeOne_19 : decode cX4_activeOne 19 = .ok (.ifCond .eq 44, 3) := by decide +kernel
theorem dX4_activeOne_22 : decode cX4_activeOne 22 = .ok (.aload_n 0, 1) := by decide +kernel
theorem dX4_activeOne_23 : decode cX4_activeOne 23 = .ok (.iload 4, 2) := by decide +kernel
theorem dX4_activeOne_25 : decode cX4_activeOne 25 = .ok (.iload_n 1, 1) := by decide +kernel
theorem dX4_activeOne_26 : decode cX4_activeOne 26 = .ok (.invokevirtual 244, 3) := by decide +kernel
theorem dX4_activeOne_29 : decode cX4_activeOne 29 = .ok (.istore 5, 2) := by decide +kernel
theorem dX4_activeOne_31 : decode cX4_activeOne 31 = .ok (.iload 5, 2) := by decide +kernel
theorem dX4_activeOne_33 : decode cX4_activeOne 33 = .ok (.ifCond .eq 11, 3) := by decide +kernel
theorem dX4_activeOne_36 : decode cX4_activeOne 36 = .ok (.iload_n 3, 1) := by decide +kernel
theorem dX4_activeOne_37 : decode cX4_activeOne 37 = .ok (.iload_n 2, 1) := by decide +kernel
theorem dX4_activeOne_38 : decode cX4_activeOne 38 = .ok (.if_icmp .ne 6, 3) := by decide +kernel
theorem dX4_activeOne_41 : decode cX4_activeOne 41 = .ok (.iload 4, 2) := by decide +kernel
theorem dX4_activeOne_43 : decode cX4_activeOne 43 = .ok (.ireturn, 1) := by decide +kernel
theorem dX4_activeOne_44 : decode cX4_activeOne 44 = .ok (.iload_n 3, 1) := by decide +kernel
theorem dX4_activeOne_45 : decode cX4_activeOne 45 = .ok (.iload 5, 2) := by decide +kernel
theorem dX4_activeOne_47 : decode cX4_activeOne 47 = .ok (.ifCond .eq 7, 3) := by decide +kernel
theorem dX4_activeOne_50 : decode cX4_activeOne 50 = .ok (.iconst 1, 1) := by decide +kernel
theorem dX4_activeOne_51 : decode cX4_activeOne 51 = .ok (.goto 4, 3) := by decide +kernel
theorem dX4_activeOne_54 : decode cX4_activeOne 54 = .ok (.iconst 0, 1) := by decide +kernel
theorem dX4_activeOne_55 : decode cX4_activeOne 55 = .ok (.iadd, 1) := by decide +kernel
theorem dX4_activeOne_56 : decode cX4_activeOne 56 = .ok (.istore_n 3, 1) := by decide +kernel
theorem dX4_activeOne_57 : decode cX4_activeOne 57 = .ok (.iinc 4 1, 3) := by decide +kernel
theorem dX4_activeOne_60 : decode cX4_activeOne 60 = .ok (.goto (-55), 3) := by decide +kernel
theorem dX4_activeOne_63 : decode cX4_activeOne 63 = .ok (.iconst (-1), 1) := by decide +kernel
theorem dX4_activeOne_64 : decode cX4_activeOne 64 = .ok (.ireturn, 1) := by decide +kernel
theorem dX4_least_0 : decode cX4_least 0 = .ok (.aload_n 0, 1) := by decide +kernel
theorem dX4_least_1 : decode cX4_least 1 = .ok (.iload_n 1, 1) := by decide +kernel
theorem dX4_least_2 : decode cX4_least 2 = .ok (.invokevirtual 235, 3) := by decide +kernel
theorem dX4_least_5 : decode cX4_least 5 = .ok (.ifCond .ne 5, 3) := by decide +kernel
theorem dX4_least_8 : decode cX4_least 8 = .ok (.iconst (-1), 1) := by decide +kernel
theorem dX4_least_9 : decode cX4_least 9 = .ok (.ireturn, 1) := by decide +kernel
theorem dX4_least_10 : decode cX4_least 10 = .ok (.aload_n 0, 1) := by decide +kernel
theorem dX4_least_11 : decode cX4_least 11 = .ok (.getfield 34, 3) := by decide +kernel
theorem dX4_least_14 : decode cX4_least 14 = .ok (.bipush 10, 2) := by decide +kernel
theorem dX4_least_16 : decode cX4_least 16 = .ok (.aload_n 0, 1) := by decide +kernel
theorem dX4_least_17 : decode cX4_least 17 = .ok (.iload_n 1, 1) := by decide +kernel
theorem dX4_least_18 : decode cX4_least 18 = .ok (.bipush 7, 2) := by decide +kernel
theorem dX4_least_20 : decode cX4_least 20 = .ok (.invokevirtual 241, 3) := by decide +kernel
theorem dX4_least_23 : decode cX4_least 23 = .ok (.imul, 1) := by decide +kernel
theorem dX4_least_24 : decode cX4_least 24 = .ok (.bipush 7, 2) := by decide +kernel
theorem dX4_least_26 : decode cX4_least 26 = .ok (.iadd, 1) := by decide +kernel
theorem dX4_least_27 : decode cX4_least 27 = .ok (.iaload, 1) := by decide +kernel
theorem dX4_least_28 : decode cX4_least 28 = .ok (.istore_n 2, 1) := by decide +kernel
theorem dX4_least_29 : decode cX4_least 29 = .ok (.iconst 1, 1) := by decide +kernel
theorem dX4_least_30 : decode cX4_least 30 = .ok (.istore_n 3, 1) := by decide +kernel
theorem dX4_least_31 : decode cX4_least 31 = .ok (.iload_n 3, 1) := by decide +kernel
theorem dX4_least_32 : decode cX4_least 32 = .ok (.aload_n 0, 1) := by decide +kernel
theorem dX4_least_33 : decode cX4_least 33 = .ok (.getfield 214, 3) := by decide +kernel
theorem dX4_least_36 : decode cX4_least 36 = .ok (.if_icmp .ge 51, 3) := by decide +kernel
theorem dX4_least_39 : decode cX4_least 39 = .ok (.aload_n 0, 1) := by decide +kernel
theorem dX4_least_40 : decode cX4_least 40 = .ok (.getfield 34, 3) := by decide +kernel
theorem dX4_least_43 : decode cX4_least 43 = .ok (.bipush 10, 2) := by decide +kernel
theorem dX4_least_45 : decode cX4_least 45 = .ok (.iload_n 3, 1) := by decide +kernel
theorem dX4_least_46 : decode cX4_least 46 = .ok (.imul, 1) := by decide +kernel
theorem dX4_least_47 : decode cX4_least 47 = .ok (.bipush 7, 2) := by decide +kernel
theorem dX4_least_49 : decode cX4_least 49 = .ok (.iadd, 1) := by decide +kernel
theorem dX4_least_50 : decode cX4_least 50 = .ok (.iaload, 1) := by decide +kernel
theorem dX4_least_51 : decode cX4_least 51 = .ok (.istore 4, 2) := by decide +kernel
theorem dX4_least_53 : decode cX4_least 53 = .ok (.aload_n 0, 1) := by decide +kernel
theorem dX4_least_54 : decode cX4_least 54 = .ok (.iload_n 3, 1) := by decide +kernel
theorem dX4_least_55 : decode cX4_least 55 = .ok (.iload_n 1, 1) := by decide +kernel
theorem dX4_least_56 : decode cX4_least 56 = .ok (.invokevirtual 244, 3) := by decide +kernel
theorem dX4_least_59 : decode cX4_least 59 = .ok (.ifCond .eq 20, 3) := by decide +kernel
theorem dX4_least_62 : decode cX4_least 62 = .ok (.iload 4, 2) := by decide +kernel
theorem dX4_least_64 : decode cX4_least 64 = .ok (.iconst (-1), 1) := by decide +kernel
theorem dX4_least_65 : decode cX4_least 65 = .ok (.if_icmp .eq 14, 3) := by decide +kernel
theorem dX4_least_68 : decode cX4_least 68 = .ok (.iload 4, 2) := by decide +kernel
theorem dX4_least_70 : decode cX4_least 70 = .ok (.iload_n 2, 1) := by decide +kernel
theorem dX4_least_71 : decode cX4_least 71 = .ok (.if_icmp .ge 8, 3) := by decide +kernel
theorem dX4_least_74 : decode cX4_least 74 = .ok (.iload 4, 2) := by decide +kernel
theorem dX4_least_76 : decode cX4_least 76 = .ok (.goto 4, 3) := by decide +kernel
theorem dX4_least_79 : decode cX4_least 79 = .ok (.iload_n 2, 1) := by decide +kernel
theorem dX4_least_80 : decode cX4_least 80 = .ok (.istore_n 2, 1) := by decide +kernel
theorem dX4_least_81 : decode cX4_least 81 = .ok (.iinc 3 1, 3) := by decide +kernel
theorem dX4_least_84 : decode cX4_least 84 = .ok (.goto (-53), 3) := by decide +kernel
theorem dX4_least_87 : decode cX4_least 87 = .ok (.iload_n 2, 1) := by decide +kernel
theorem dX4_least_88 : decode cX4_least 88 = .ok (.ireturn, 1) := by decide +kernel
theorem dX4_lowest_0 : decode cX4_lowest 0 = .ok (.iload_n 2, 1) := by decide +kernel
theorem dX4_lowest_1 : decode cX4_lowest 1 = .ok (.istore_n 3, 1) := by decide +kernel
theorem dX4_lowest_2 : decode cX4_lowest 2 = .ok (.iconst 0, 1) := by decide +kernel
theorem dX4_lowest_3 : decode cX4_lowest 3 = .ok (.istore 4, 2) := by decide +kernel
theorem dX4_lowest_5 : decode cX4_lowest 5 = .ok (.iload 4, 2) := by decide +kernel
theorem dX4_lowest_7 : decode cX4_lowest 7 = .ok (.aload_n 0, 1) := by decide +kernel
theorem dX4_lowest_8 : decode cX4_lowest 8 = .ok (.getfield 34, 3) := by decide +kernel
theorem dX4_lowest_11 : decode cX4_lowest 11 = .ok (.bipush 10, 2) := by decide +kernel
theorem dX4_lowest_13 : decode cX4_lowest 13 = .ok (.iload_n 1, 1) := by decide +kernel
theorem dX4_lowest_14 : decode cX4_lowest 14 = .ok (.imul, 1) := by decide +kernel
theorem dX4_lowest_15 : decode cX4_lowest 15 = .ok (.bipush 9, 2) := by decide +kernel
theorem dX4_lowest_17 : decode cX4_lowest 17 = .ok (.iadd, 1) := by decide +kernel
theorem dX4_lowest_18 : decode cX4_lowest 18 = .ok (.iaload, 1) := by decide +kernel
theorem dX4_lowest_19 : decode cX4_lowest 19 = .ok (.if_icmp .ge 55, 3) := by decide +kernel
theorem dX4_lowest_22 : decode cX4_lowest 22 = .ok (.aload_n 0, 1) := by decide +kernel
theorem dX4_lowest_23 : decode cX4_lowest 23 = .ok (.getfield 40, 3) := by decide +kernel
theorem dX4_lowest_26 : decode cX4_lowest 26 = .ok (.iconst 4, 1) := by decide +kernel
theorem dX4_lowest_27 : decode cX4_lowest 27 = .ok (.iload_n 1, 1) := by decide +kernel
theorem dX4_lowest_28 : decode cX4_lowest 28 = .ok (.imul, 1) := by decide +kernel
theorem dX4_lowest_29 : decode cX4_lowest 29 = .ok (.iload 4, 2) := by decide +kernel
theorem dX4_lowest_31 : decode cX4_lowest 31 = .ok (.iadd, 1) := by decide +kernel
theorem dX4_lowest_32 : decode cX4_lowest 32 = .ok (.iaload, 1) := by decide +kernel
theorem dX4_lowest_33 : decode cX4_lowest 33 = .ok (.istore 5, 2) := by decide +kernel
theorem dX4_lowest_35 : decode cX4_lowest 35 = .ok (.iload 5, 2) := by decide +kernel
theorem dX4_lowest_37 : decode cX4_lowest 37 = .ok (.sipush 8192, 3) := by decide +kernel
theorem dX4_lowest_40 : decode cX4_lowest 40 = .ok (.irem, 1) := by decide +kernel
theorem dX4_lowest_41 : decode cX4_lowest 41 = .ok (.bipush 8, 2) := by decide +kernel
theorem dX4_lowest_43 : decode cX4_lowest 43 = .ok (.idiv, 1) := by decide +kernel
theorem dX4_lowest_44 : decode cX4_lowest 44 = .ok (.istore 6, 2) := by decide +kernel
theorem dX4_lowest_46 : decode cX4_lowest 46 = .ok (.iload 5, 2) := by decide +kernel
theorem dX4_lowest_48 : decode cX4_lowest 48 = .ok (.bipush 8, 2) := by decide +kernel
theorem dX4_lowest_50 : decode cX4_lowest 50 = .ok (.irem, 1) := by decide +kernel
theorem dX4_lowest_51 : decode cX4_lowest 51 = .ok (.iconst 3, 1) := by decide +kernel
theorem dX4_lowest_52 : decode cX4_lowest 52 = .ok (.if_icmp .lt 14, 3) := by decide +kernel
theorem dX4_lowest_55 : decode cX4_lowest 55 = .ok (.iload 6, 2) := by decide +kernel
theorem dX4_lowest_57 : decode cX4_lowest 57 = .ok (.iload_n 3, 1) := by decide +kernel
theorem dX4_lowest_58 : decode cX4_lowest 58 = .ok (.if_icmp .ge 8, 3) := by decide +kernel
theorem dX4_lowest_61 : decode cX4_lowest 61 = .ok (.iload 6, 2) := by decide +kernel
theorem dX4_lowest_63 : decode cX4_lowest 63 = .ok (.goto 4, 3) := by decide +kernel
theorem dX4_lowest_66 : decode cX4_lowest 66 = .ok (.iload_n 3, 1) := by decide +kernel
theorem dX4_lowest_67 : decode cX4_lowest 67 = .ok (.istore_n 3, 1) := by decide +kernel
theorem dX4_lowest_68 : decode cX4_lowest 68 = .ok (.iinc 4 1, 3) := by decide +kernel
theorem dX4_lowest_71 : decode cX4_lowest 71 = .ok (.goto (-66), 3) := by decide +kernel
theorem dX4_lowest_74 : decode cX4_lowest 74 = .ok (.iload_n 3, 1) := by decide +kernel
theorem dX4_lowest_75 : decode cX4_lowest 75 = .ok (.ireturn, 1) := by decide +kernel
theorem dX4_ceiling_0 : decode cX4_ceiling 0 = .ok (.aload_n 0, 1) := by decide +kernel
theorem dX4_ceiling_1 : decode cX4_ceiling 1 = .ok (.iload_n 1, 1) := by decide +kernel
theorem dX4_ceiling_2 : decode cX4_ceiling 2 = .ok (.invokevirtual 235, 3) := by decide +kernel
theorem dX4_ceiling_5 : decode cX4_ceiling 5 = .ok (.ifCond .eq 12, 3) := by decide +kernel
theorem dX4_ceiling_8 : decode cX4_ceiling 8 = .ok (.iload_n 2, 1) := by decide +kernel
theorem dX4_ceiling_9 : decode cX4_ceiling 9 = .ok (.ifCond .lt 8, 3) := by decide +kernel
theorem dX4_ceiling_12 : decode cX4_ceiling 12 = .ok (.iload_n 2, 1) := by decide +kernel
theorem dX4_ceiling_13 : decode cX4_ceiling 13 = .ok (.iconst 1, 1) := by decide +kernel
theorem dX4_ceiling_14 : decode cX4_ceiling 14 = .ok (.if_icmp .le 5, 3) := by decide +kernel
theorem dX4_ceiling_17 : decode cX4_ceiling 17 = .ok (.iconst (-1), 1) := by decide +kernel
theorem dX4_ceiling_18 : decode cX4_ceiling 18 = .ok (.ireturn, 1) := by decide +kernel
theorem dX4_ceiling_19 : decode cX4_ceiling 19 = .ok (.aload_n 0, 1) := by decide +kernel
theorem dX4_ceiling_20 : decode cX4_ceiling 20 = .ok (.aload_n 0, 1) := by decide +kernel
theorem dX4_ceiling_21 : decode cX4_ceiling 21 = .ok (.iload_n 1, 1) := by decide +kernel
theorem dX4_ceiling_22 : decode cX4_ceiling 22 = .ok (.bipush 9, 2) := by decide +kernel
theorem dX4_ceiling_24 : decode cX4_ceiling 24 = .ok (.invokevirtual 241, 3) := by decide +kernel
theorem dX4_ceiling_27 : decode cX4_ceiling 27 = .ok (.sipush 1000, 3) := by decide +kernel
theorem dX4_ceiling_30 : decode cX4_ceiling 30 = .ok (.invokevirtual 247, 3) := by decide +kernel
theorem dX4_ceiling_33 : decode cX4_ceiling 33 = .ok (.istore_n 3, 1) := by decide +kernel
theorem dX4_ceiling_34 : decode cX4_ceiling 34 = .ok (.iconst 1, 1) := by decide +kernel
theorem dX4_ceiling_35 : decode cX4_ceiling 35 = .ok (.istore 4, 2) := by decide +kernel
theorem dX4_ceiling_37 : decode cX4_ceiling 37 = .ok (.iload 4, 2) := by decide +kernel
theorem dX4_ceiling_39 : decode cX4_ceiling 39 = .ok (.aload_n 0, 1) := by decide +kernel
theorem dX4_ceiling_40 : decode cX4_ceiling 40 = .ok (.getfield 214, 3) := by decide +kernel
theorem dX4_ceiling_43 : decode cX4_ceiling 43 = .ok (.if_icmp .ge 36, 3) := by decide +kernel
theorem dX4_ceiling_46 : decode cX4_ceiling 46 = .ok (.iload_n 2, 1) := by decide +kernel
theorem dX4_ceiling_47 : decode cX4_ceiling 47 = .ok (.iconst 1, 1) := by decide +kernel
theorem dX4_ceiling_48 : decode cX4_ceiling 48 = .ok (.if_icmp .ne 31, 3) := by decide +kernel
theorem dX4_ceiling_51 : decode cX4_ceiling 51 = .ok (.aload_n 0, 1) := by decide +kernel
theorem dX4_ceiling_52 : decode cX4_ceiling 52 = .ok (.iload 4, 2) := by decide +kernel
theorem dX4_ceiling_54 : decode cX4_ceiling 54 = .ok (.iload_n 1, 1) := by decide +kernel
theorem dX4_ceiling_55 : decode cX4_ceiling 55 = .ok (.invokevirtual 244, 3) := by decide +kernel
theorem dX4_ceiling_58 : decode cX4_ceiling 58 = .ok (.ifCond .eq 13, 3) := by decide +kernel
theorem dX4_ceiling_61 : decode cX4_ceiling 61 = .ok (.aload_n 0, 1) := by decide +kernel
theorem dX4_ceiling_62 : decode cX4_ceiling 62 = .ok (.iload 4, 2) := by decide +kernel
theorem dX4_ceiling_64 : decode cX4_ceiling 64 = .ok (.iload_n 3, 1) := by decide +kernel
theorem dX4_ceiling_65 : decode cX4_ceiling 65 = .ok (.invokevirtual 247, 3) := by decide +kernel
theorem dX4_ceiling_68 : decode cX4_ceiling 68 = .ok (.goto 4, 3) := by decide +kernel
theorem dX4_ceiling_71 : decode cX4_ceiling 71 = .ok (.iload_n 3, 1) := by decide +kernel
theorem dX4_ceiling_72 : decode cX4_ceiling 72 = .ok (.istore_n 3, 1) := by decide +kernel
theorem dX4_ceiling_73 : decode cX4_ceiling 73 = .ok (.iinc 4 1, 3) := by decide +kernel
theorem dX4_ceiling_76 : decode cX4_ceiling 76 = .ok (.goto (-39), 3) := by decide +kernel
theorem dX4_ceiling_79 : decode cX4_ceiling 79 = .ok (.iload_n 3, 1) := by decide +kernel
theorem dX4_ceiling_80 : decode cX4_ceiling 80 = .ok (.sipush 1000, 3) := by decide +kernel
theorem dX4_ceiling_83 : decode cX4_ceiling 83 = .ok (.if_icmp .ne 8, 3) := by decide +kernel
theorem dX4_ceiling_86 : decode cX4_ceiling 86 = .ok (.bipush (-2), 2) := by decide +kernel
theorem dX4_ceiling_88 : decode cX4_ceiling 88 = .ok (.goto 4, 3) := by decide +kernel
theorem dX4_ceiling_91 : decode cX4_ceiling 91 = .ok (.iload_n 3, 1) := by decide +kernel
theorem dX4_ceiling_92 : decode cX4_ceiling 92 = .ok (.ireturn, 1) := by decide +kernel
theorem dX4_isOther_0 : decode cX4_isOther 0 = .ok (.iconst 0, 1) := by decide +kernel
theorem dX4_isOther_1 : decode cX4_isOther 1 = .ok (.istore_n 2, 1) := by decide +kernel
theorem dX4_isOther_2 : decode cX4_isOther 2 = .ok (.iconst 0, 1) := by decide +kernel
theorem dX4_isOther_3 : decode cX4_isOther 3 = .ok (.istore_n 3, 1) := by decide +kernel
theorem dX4_isOther_4 : decode cX4_isOther 4 = .ok (.iload_n 3, 1) := by decide +kernel
theorem dX4_isOther_5 : decode cX4_isOther 5 = .ok (.iconst 4, 1) := by decide +kernel
theorem dX4_isOther_6 : decode cX4_isOther 6 = .ok (.if_icmp .ge 42, 3) := by decide +kernel
theorem dX4_isOther_9 : decode cX4_isOther 9 = .ok (.iload_n 2, 1) := by decide +kernel
theorem dX4_isOther_10 : decode cX4_isOther 10 = .ok (.ifCond .ne 26, 3) := by decide +kernel
theorem dX4_isOther_13 : decode cX4_isOther 13 = .ok (.aload_n 0, 1) := by decide +kernel
theorem dX4_isOther_14 : decode cX4_isOther 14 = .ok (.iload_n 1, 1) := by decide +kernel
theorem dX4_isOther_15 : decode cX4_isOther 15 = .ok (.iload_n 3, 1) := by decide +kernel
theorem dX4_isOther_16 : decode cX4_isOther 16 = .ok (.invokestatic 238, 3) := by decide +kernel
theorem dX4_isOther_19 : decode cX4_isOther 19 = .ok (.invokevirtual 241, 3) := by decide +kernel
theorem dX4_isOther_22 : decode cX4_isOther 22 = .ok (.aload_n 0, 1) := by decide +kernel
theorem dX4_isOther_23 : decode cX4_isOther 23 = .ok (.iload_n 1, 1) := by decide +kernel
theorem dX4_isOther_24 : decode cX4_isOther 24 = .ok (.iconst 1, 1) := by decide +kernel
theorem dX4_isOther_25 : decode cX4_isOther 25 = .ok (.isub, 1) := by decide +kernel
theorem dX4_isOther_26 : decode cX4_isOther 26 = .ok (.iload_n 3, 1) := by decide +kernel
theorem dX4_isOther_27 : decode cX4_isOther 27 = .ok (.invokestatic 238, 3) := by decide +kernel
theorem dX4_isOther_30 : decode cX4_isOther 30 = .ok (.invokevirtual 241, 3) := by decide +kernel
theorem dX4_isOther_33 : decode cX4_isOther 33 = .ok (.if_icmp .eq 7, 3) := by decide +kernel
theorem dX4_isOther_36 : decode cX4_isOther 36 = .ok (.iconst 1, 1) := by decide +kernel
theorem dX4_isOther_37 : decode cX4_isOther 37 = .ok (.goto 4, 3) := by decide +kernel
theorem dX4_isOther_40 : decode cX4_isOther 40 = .ok (.iconst 0, 1) := by decide +kernel
theorem dX4_isOther_41 : decode cX4_isOther 41 = .ok (.istore_n 2, 1) := by decide +kernel
theorem dX4_isOther_42 : decode cX4_isOther 42 = .ok (.iinc 3 1, 3) := by decide +kernel
theorem dX4_isOther_45 : decode cX4_isOther 45 = .ok (.goto (-41), 3) := by decide +kernel
theorem dX4_isOther_48 : decode cX4_isOther 48 = .ok (.iconst 1, 1) := by decide +kernel
theorem dX4_isOther_49 : decode cX4_isOther 49 = .ok (.istore_n 3, 1) := by decide +kernel
theorem dX4_isOther_50 : decode cX4_isOther 50 = .ok (.iload_n 3, 1) := by decide +kernel
theorem dX4_isOther_51 : decode cX4_isOther 51 = .ok (.aload_n 0, 1) := by decide +kernel
theorem dX4_isOther_52 : decode cX4_isOther 52 = .ok (.getfield 214, 3) := by decide +kernel
theorem dX4_isOther_55 : decode cX4_isOther 55 = .ok (.if_icmp .ge 36, 3) := by decide +kernel
theorem dX4_isOther_58 : decode cX4_isOther 58 = .ok (.iload_n 2, 1) := by decide +kernel
theorem dX4_isOther_59 : decode cX4_isOther 59 = .ok (.ifCond .ne 20, 3) := by decide +kernel
theorem dX4_isOther_62 : decode cX4_isOther 62 = .ok (.aload_n 0, 1) := by decide +kernel
theorem dX4_isOther_63 : decode cX4_isOther 63 = .ok (.iload_n 3, 1) := by decide +kernel
theorem dX4_isOther_64 : decode cX4_isOther 64 = .ok (.iload_n 1, 1) := by decide +kernel
theorem dX4_isOther_65 : decode cX4_isOther 65 = .ok (.invokevirtual 244, 3) := by decide +kernel
theorem dX4_isOther_68 : decode cX4_isOther 68 = .ok (.aload_n 0, 1) := by decide +kernel
theorem dX4_isOther_69 : decode cX4_isOther 69 = .ok (.iload_n 3, 1) := by decide +kernel
theorem dX4_isOther_70 : decode cX4_isOther 70 = .ok (.iload_n 1, 1) := by decide +kernel
theorem dX4_isOther_71 : decode cX4_isOther 71 = .ok (.iconst 1, 1) := by decide +kernel
theorem dX4_isOther_72 : decode cX4_isOther 72 = .ok (.isub, 1) := by decide +kernel
theorem dX4_isOther_73 : decode cX4_isOther 73 = .ok (.invokevirtual 244, 3) := by decide +kernel
theorem dX4_isOther_76 : decode cX4_isOther 76 = .ok (.if_icmp .eq 7, 3) := by decide +kernel
theorem dX4_isOther_79 : decode cX4_isOther 79 = .ok (.iconst 1, 1) := by decide +kernel
theorem dX4_isOther_80 : decode cX4_isOther 80 = .ok (.goto 4, 3) := by decide +kernel
theorem dX4_isOther_83 : decode cX4_isOther 83 = .ok (.iconst 0, 1) := by decide +kernel
theorem dX4_isOther_84 : decode cX4_isOther 84 = .ok (.istore_n 2, 1) := by decide +kernel
theorem dX4_isOther_85 : decode cX4_isOther 85 = .ok (.iinc 3 1, 3) := by decide +kernel
theorem dX4_isOther_88 : decode cX4_isOther 88 = .ok (.goto (-38), 3) := by decide +kernel
theorem dX4_isOther_91 : decode cX4_isOther 91 = .ok (.iload_n 2, 1) := by decide +kernel
theorem dX4_isOther_92 : decode cX4_isOther 92 = .ok (.ireturn, 1) := by decide +kernel
theorem dX4_next_0 : decode cX4_next 0 = .ok (.aload_n 0, 1) := by decide +kernel
theorem dX4_next_1 : decode cX4_next 1 = .ok (.iload_n 1, 1) := by decide +kernel
theorem dX4_next_2 : decode cX4_next 2 = .ok (.invokevirtual 235, 3) := by decide +kernel
theorem dX4_next_5 : decode cX4_next 5 = .ok (.ifCond .ne 5, 3) := by decide +kernel
theorem dX4_next_8 : decode cX4_next 8 = .ok (.iconst (-1), 1) := by decide +kernel
theorem dX4_next_9 : decode cX4_next 9 = .ok (.ireturn, 1) := by decide +kernel
theorem dX4_next_10 : decode cX4_next 10 = .ok (.iload_n 1, 1) := by decide +kernel
theorem dX4_next_11 : decode cX4_next 11 = .ok (.iconst 1, 1) := by decide +kernel
theorem dX4_next_12 : decode cX4_next 12 = .ok (.iadd, 1) := by decide +kernel
theorem dX4_next_13 : decode cX4_next 13 = .ok (.istore_n 2, 1) := by decide +kernel
theorem dX4_next_14 : decode cX4_next 14 = .ok (.iload_n 2, 1) := by decide +kernel
theorem dX4_next_15 : decode cX4_next 15 = .ok (.aload_n 0, 1) := by decide +kernel
theorem dX4_next_16 : decode cX4_next 16 = .ok (.getfield 34, 3) := by decide +kernel
theorem dX4_next_19 : decode cX4_next 19 = .ok (.iconst 3, 1) := by decide +kernel
theorem dX4_next_20 : decode cX4_next 20 = .ok (.iaload, 1) := by decide +kernel
theorem dX4_next_21 : decode cX4_next 21 = .ok (.if_icmp .ge 19, 3) := by decide +kernel
theorem dX4_next_24 : decode cX4_next 24 = .ok (.aload_n 0, 1) := by decide +kernel
theorem dX4_next_25 : decode cX4_next 25 = .ok (.iload_n 2, 1) := by decide +kernel
theorem dX4_next_26 : decode cX4_next 26 = .ok (.invokevirtual 250, 3) := by decide +kernel
theorem dX4_next_29 : decode cX4_next 29 = .ok (.ifCond .eq 5, 3) := by decide +kernel
theorem dX4_next_32 : decode cX4_next 32 = .ok (.iload_n 2, 1) := by decide +kernel
theorem dX4_next_33 : decode cX4_next 33 = .ok (.ireturn, 1) := by decide +kernel
theorem dX4_next_34 : decode cX4_next 34 = .ok (.iinc 2 1, 3) := by decide +kernel
theorem dX4_next_37 : decode cX4_next 37 = .ok (.goto (-23), 3) := by decide +kernel
theorem dX4_next_40 : decode cX4_next 40 = .ok (.iconst (-1), 1) := by decide +kernel
theorem dX4_next_41 : decode cX4_next 41 = .ok (.ireturn, 1) := by decide +kernel
theorem dX4_print_0 : decode cX4_print 0 = .ok (.aload_n 0, 1) := by decide +kernel
theorem dX4_print_1 : decode cX4_print 1 = .ok (.aload_n 0, 1) := by decide +kernel
theorem dX4_print_2 : decode cX4_print 2 = .ok (.getfield 211, 3) := by decide +kernel
theorem dX4_print_5 : decode cX4_print 5 = .ok (.ifCond .ne 7, 3) := by decide +kernel
theorem dX4_print_8 : decode cX4_print 8 = .ok (.iconst 0, 1) := by decide +kernel
theorem dX4_print_9 : decode cX4_print 9 = .ok (.goto 7, 3) := by decide +kernel
theorem dX4_print_12 : decode cX4_print 12 = .ok (.aload_n 0, 1) := by decide +kernel
theorem dX4_print_13 : decode cX4_print 13 = .ok (.getfield 229, 3) := by decide +kernel
theorem dX4_print_16 : decode cX4_print 16 = .ok (.putfield 253, 3) := by decide +kernel
theorem dX4_print_19 : decode cX4_print 19 = .ok (.iconst 0, 1) := by decide +kernel
theorem dX4_print_20 : decode cX4_print 20 = .ok (.istore_n 1, 1) := by decide +kernel
theorem dX4_print_21 : decode cX4_print 21 = .ok (.iload_n 1, 1) := by decide +kernel
theorem dX4_print_22 : decode cX4_print 22 = .ok (.aload_n 0, 1) := by decide +kernel
theorem dX4_print_23 : decode cX4_print 23 = .ok (.getfield 253, 3) := by decide +kernel
theorem dX4_print_26 : decode cX4_print 26 = .ok (.if_icmp .ge 21, 3) := by decide +kernel
theorem dX4_print_29 : decode cX4_print 29 = .ok (.aload_n 0, 1) := by decide +kernel
theorem dX4_print_30 : decode cX4_print 30 = .ok (.getfield 46, 3) := by decide +kernel
theorem dX4_print_33 : decode cX4_print 33 = .ok (.iload_n 1, 1) := by decide +kernel
theorem dX4_print_34 : decode cX4_print 34 = .ok (.aload_n 0, 1) := by decide +kernel
theorem dX4_print_35 : decode cX4_print 35 = .ok (.getfield 43, 3) := by decide +kernel
theorem dX4_print_38 : decode cX4_print 38 = .ok (.iload_n 1, 1) := by decide +kernel
theorem dX4_print_39 : decode cX4_print 39 = .ok (.iaload, 1) := by decide +kernel
theorem dX4_print_40 : decode cX4_print 40 = .ok (.iastore, 1) := by decide +kernel
theorem dX4_print_41 : decode cX4_print 41 = .ok (.iinc 1 1, 3) := by decide +kernel
theorem dX4_print_44 : decode cX4_print 44 = .ok (.goto (-23), 3) := by decide +kernel
theorem dX4_print_47 : decode cX4_print 47 = .ok (.aload_n 0, 1) := by decide +kernel
theorem dX4_print_48 : decode cX4_print 48 = .ok (.getfield 253, 3) := by decide +kernel
theorem dX4_print_51 : decode cX4_print 51 = .ok (.ireturn, 1) := by decide +kernel
theorem dX4_character_0 : decode cX4_character 0 = .ok (.iload_n 1, 1) := by decide +kernel
theorem dX4_character_1 : decode cX4_character 1 = .ok (.ifCond .lt 20, 3) := by decide +kernel
theorem dX4_character_4 : decode cX4_character 4 = .ok (.iload_n 1, 1) := by decide +kernel
theorem dX4_character_5 : decode cX4_character 5 = .ok (.aload_n 0, 1) := by decide +kernel
theorem dX4_character_6 : decode cX4_character 6 = .ok (.getfield 253, 3) := by decide +kernel
theorem dX4_character_9 : decode cX4_character 9 = .ok (.if_icmp .ge 12, 3) := by decide +kernel
theorem dX4_character_12 : decode cX4_character 12 = .ok (.aload_n 0, 1) := by decide +kernel
theorem dX4_character_13 : decode cX4_character 13 = .ok (.getfield 46, 3) := by decide +kernel
theorem dX4_character_16 : decode cX4_character 16 = .ok (.iload_n 1, 1) := by decide +kernel
theorem dX4_character_17 : decode cX4_character 17 = .ok (.iaload, 1) := by decide +kernel
theorem dX4_character_18 : decode cX4_character 18 = .ok (.goto 4, 3) := by decide +kernel
theorem dX4_character_21 : decode cX4_character 21 = .ok (.iconst (-1), 1) := by decide +kernel
theorem dX4_character_22 : decode cX4_character 22 = .ok (.ireturn, 1) := by decide +kernel
theorem dX4_check_0 : decode cX4_check 0 = .ok (.iconst 1, 1) := by decide +kernel
theorem dX4_check_1 : decode cX4_check 1 = .ok (.ireturn, 1) := by decide +kernel
theorem dL_law_0 : decode cL_law 0 = .ok (.new 7, 3) := by decide +kernel
theorem dL_law_3 : decode cL_law 3 = .ok (.dup, 1) := by decide +kernel
theorem dL_law_4 : decode cL_law 4 = .ok (.invokespecial 9, 3) := by decide +kernel
theorem dL_law_7 : decode cL_law 7 = .ok (.astore_n 1, 1) := by decide +kernel
theorem dL_law_8 : decode cL_law 8 = .ok (.new 10, 3) := by decide +kernel
theorem dL_law_11 : decode cL_law 11 = .ok (.dup, 1) := by decide +kernel
theorem dL_law_12 : decode cL_law 12 = .ok (.invokespecial 12, 3) := by decide +kernel
theorem dL_law_15 : decode cL_law 15 = .ok (.astore_n 2, 1) := by decide +kernel
theorem dL_law_16 : decode cL_law 16 = .ok (.iconst 0, 1) := by decide +kernel
theorem dL_law_17 : decode cL_law 17 = .ok (.istore_n 3, 1) := by decide +kernel
theorem dL_law_18 : decode cL_law 18 = .ok (.iload_n 3, 1) := by decide +kernel
theorem dL_law_19 : decode cL_law 19 = .ok (.aload_n 0, 1) := by decide +kernel
theorem dL_law_20 : decode cL_law 20 = .ok (.arraylength, 1) := by decide +kernel
theorem dL_law_21 : decode cL_law 21 = .ok (.iconst 4, 1) := by decide +kernel
theorem dL_law_22 : decode cL_law 22 = .ok (.isub, 1) := by decide +kernel
theorem dL_law_23 : decode cL_law 23 = .ok (.if_icmp .gt 516, 3) := by decide +kernel
theorem dL_law_26 : decode cL_law 26 = .ok (.aload_n 0, 1) := by decide +kernel
theorem dL_law_27 : decode cL_law 27 = .ok (.iload_n 3, 1) := by decide +kernel
theorem dL_law_28 : decode cL_law 28 = .ok (.iaload, 1) := by decide +kernel
theorem dL_law_29 : decode cL_law 29 = .ok (.bipush 15, 2) := by decide +kernel
theorem dL_law_31 : decode cL_law 31 = .ok (.iand, 1) := by decide +kernel
theorem dL_law_32 : decode cL_law 32 = .ok (.tableswitch 501 0 14 #[76, 139, 162, 185, 218, 251, 284, 317, 340, 373, 396, 429, 452, 465, 488], 76) := by decide +kernel
theorem dL_law_108 : decode cL_law 108 = .ok (.aload_n 1, 1) := by decide +kernel
theorem dL_law_109 : decode cL_law 109 = .ok (.aload_n 0, 1) := by decide +kernel
theorem dL_law_110 : decode cL_law 110 = .ok (.iload_n 3, 1) := by decide +kernel
theorem dL_law_111 : decode cL_law 111 = .ok (.iconst 1, 1) := by decide +kernel
theorem dL_law_112 : decode cL_law 112 = .ok (.iadd, 1) := by decide +kernel
theorem dL_law_113 : decode cL_law 113 = .ok (.iaload, 1) := by decide +kernel
theorem dL_law_114 : decode cL_law 114 = .ok (.i2l, 1) := by decide +kernel
theorem dL_law_115 : decode cL_law 115 = .ok (.bipush 32, 2) := by decide +kernel
theorem dL_law_117 : decode cL_law 117 = .ok (.lshl, 1) := by decide +kernel
theorem dL_law_118 : decode cL_law 118 = .ok (.aload_n 0, 1) := by decide +kernel
theorem dL_law_119 : decode cL_law 119 = .ok (.iload_n 3, 1) := by decide +kernel
theorem dL_law_120 : decode cL_law 120 = .ok (.iconst 2, 1) := by decide +kernel
theorem dL_law_121 : decode cL_law 121 = .ok (.iadd, 1) := by decide +kernel
theorem dL_law_122 : decode cL_law 122 = .ok (.iaload, 1) := by decide +kernel
theorem dL_law_123 : decode cL_law 123 = .ok (.i2l, 1) := by decide +kernel
theorem dL_law_124 : decode cL_law 124 = .ok (.ldc2_w 13, 3) := by decide +kernel
theorem dL_law_127 : decode cL_law 127 = .ok (.land, 1) := by decide +kernel
theorem dL_law_128 : decode cL_law 128 = .ok (.lor, 1) := by decide +kernel
theorem dL_law_129 : decode cL_law 129 = .ok (.aload_n 0, 1) := by decide +kernel
theorem dL_law_130 : decode cL_law 130 = .ok (.iload_n 3, 1) := by decide +kernel
theorem dL_law_131 : decode cL_law 131 = .ok (.iconst 3, 1) := by decide +kernel
theorem dL_law_132 : decode cL_law 132 = .ok (.iadd, 1) := by decide +kernel
theorem dL_law_133 : decode cL_law 133 = .ok (.iaload, 1) := by decide +kernel
theorem dL_law_134 : decode cL_law 134 = .ok (.invokevirtual 15, 3) := by decide +kernel
theorem dL_law_137 : decode cL_law 137 = .ok (.aload_n 2, 1) := by decide +kernel
theorem dL_law_138 : decode cL_law 138 = .ok (.aload_n 0, 1) := by decide +kernel
theorem dL_law_139 : decode cL_law 139 = .ok (.iload_n 3, 1) := by decide +kernel
theorem dL_law_140 : decode cL_law 140 = .ok (.iconst 1, 1) := by decide +kernel
theorem dL_law_141 : decode cL_law 141 = .ok (.iadd, 1) := by decide +kernel
theorem dL_law_142 : decode cL_law 142 = .ok (.iaload, 1) := by decide +kernel
theorem dL_law_143 : decode cL_law 143 = .ok (.i2l, 1) := by decide +kernel
theorem dL_law_144 : decode cL_law 144 = .ok (.bipush 32, 2) := by decide +kernel
theorem dL_law_146 : decode cL_law 146 = .ok (.lshl, 1) := by decide +kernel
theorem dL_law_147 : decode cL_law 147 = .ok (.aload_n 0, 1) := by decide +kernel
theorem dL_law_148 : decode cL_law 148 = .ok (.iload_n 3, 1) := by decide +kernel
theorem dL_law_149 : decode cL_law 149 = .ok (.iconst 2, 1) := by decide +kernel
theorem dL_law_150 : decode cL_law 150 = .ok (.iadd, 1) := by decide +kernel
theorem dL_law_151 : decode cL_law 151 = .ok (.iaload, 1) := by decide +kernel
theorem dL_law_152 : decode cL_law 152 = .ok (.i2l, 1) := by decide +kernel
theorem dL_law_153 : decode cL_law 153 = .ok (.ldc2_w 13, 3) := by decide +kernel
theorem dL_law_156 : decode cL_law 156 = .ok (.land, 1) := by decide +kernel
theorem dL_law_157 : decode cL_law 157 = .ok (.lor, 1) := by decide +kernel
theorem dL_law_158 : decode cL_law 158 = .ok (.aload_n 0, 1) := by decide +kernel
theorem dL_law_159 : decode cL_law 159 = .ok (.iload_n 3, 1) := by decide +kernel
theorem dL_law_160 : decode cL_law 160 = .ok (.iconst 3, 1) := by decide +kernel
theorem dL_law_161 : decode cL_law 161 = .ok (.iadd, 1) := by decide +kernel
theorem dL_law_162 : decode cL_law 162 = .ok (.iaload, 1) := by decide +kernel
theorem dL_law_163 : decode cL_law 163 = .ok (.invokevirtual 19, 3) := by decide +kernel
theorem dL_law_166 : decode cL_law 166 = .ok (.if_icmp .eq 367, 3) := by decide +kernel
theorem dL_law_169 : decode cL_law 169 = .ok (.iconst 0, 1) := by decide +kernel
theorem dL_law_170 : decode cL_law 170 = .ok (.ireturn, 1) := by decide +kernel
theorem dL_law_171 : decode cL_law 171 = .ok (.aload_n 1, 1) := by decide +kernel
theorem dL_law_172 : decode cL_law 172 = .ok (.aload_n 0, 1) := by decide +kernel
theorem dL_law_173 : decode cL_law 173 = .ok (.iload_n 3, 1) := by decide +kernel
theorem dL_law_174 : decode cL_law 174 = .ok (.iconst 1, 1) := by decide +kernel
theorem dL_law_175 : decode cL_law 175 = .ok (.iadd, 1) := by decide +kernel
theorem dL_law_176 : decode cL_law 176 = .ok (.iaload, 1) := by decide +kernel
theorem dL_law_177 : decode cL_law 177 = .ok (.invokevirtual 20, 3) := by decide +kernel
theorem dL_law_180 : decode cL_law 180 = .ok (.aload_n 2, 1) := by decide +kernel
theorem dL_law_181 : decode cL_law 181 = .ok (.aload_n 0, 1) := by decide +kernel
theorem dL_law_182 : decode cL_law 182 = .ok (.iload_n 3, 1) := by decide +kernel
theorem dL_law_183 : decode cL_law 183 = .ok (.iconst 1, 1) := by decide +kernel
theorem dL_law_184 : decode cL_law 184 = .ok (.iadd, 1) := by decide +kernel
theorem dL_law_185 : decode cL_law 185 = .ok (.iaload, 1) := by decide +kernel
theorem dL_law_186 : decode cL_law 186 = .ok (.invokevirtual 24, 3) := by decide +kernel
theorem dL_law_189 : decode cL_law 189 = .ok (.if_icmp .eq 344, 3) := by decide +kernel
theorem dL_law_192 : decode cL_law 192 = .ok (.iconst 0, 1) := by decide +kernel
theorem dL_law_193 : decode cL_law 193 = .ok (.ireturn, 1) := by decide +kernel
theorem dL_law_194 : decode cL_law 194 = .ok (.aload_n 1, 1) := by decide +kernel
theorem dL_law_195 : decode cL_law 195 = .ok (.aload_n 0, 1) := by decide +kernel
theorem dL_law_196 : decode cL_law 196 = .ok (.iload_n 3, 1) := by decide +kernel
theorem dL_law_197 : decode cL_law 197 = .ok (.iconst 1, 1) := by decide +kernel
theorem dL_law_198 : decode cL_law 198 = .ok (.iadd, 1) := by decide +kernel
theorem dL_law_199 : decode cL_law 199 = .ok (.iaload, 1) := by decide +kernel
theorem dL_law_200 : decode cL_law 200 = .ok (.invokevirtual 25, 3) := by decide +kernel
theorem dL_law_203 : decode cL_law 203 = .ok (.aload_n 2, 1) := by decide +kernel
theorem dL_law_204 : decode cL_law 204 = .ok (.aload_n 0, 1) := by decide +kernel
theorem dL_law_205 : decode cL_law 205 = .ok (.iload_n 3, 1) := by decide +kernel
theorem dL_law_206 : decode cL_law 206 = .ok (.iconst 1, 1) := by decide +kernel
theorem dL_law_207 : decode cL_law 207 = .ok (.iadd, 1) := by decide +kernel
theorem dL_law_208 : decode cL_law 208 = .ok (.iaload, 1) := by decide +kernel
theorem dL_law_209 : decode cL_law 209 = .ok (.invokevirtual 28, 3) := by decide +kernel
theorem dL_law_212 : decode cL_law 212 = .ok (.if_icmp .eq 321, 3) := by decide +kernel
theorem dL_law_215 : decode cL_law 215 = .ok (.iconst 0, 1) := by decide +kernel
theorem dL_law_216 : decode cL_law 216 = .ok (.ireturn, 1) := by decide +kernel
theorem dL_law_217 : decode cL_law 217 = .ok (.aload_n 1, 1) := by decide +kernel
theorem dL_law_218 : decode cL_law 218 = .ok (.aload_n 0, 1) := by decide +kernel
theorem dL_law_219 : decode cL_law 219 = .ok (.iload_n 3, 1) := by decide +kernel
theorem dL_law_220 : decode cL_law 220 = .ok (.iconst 1, 1) := by decide +kernel
theorem dL_law_221 : decode cL_law 221 = .ok (.iadd, 1) := by decide +kernel
theorem dL_law_222 : decode cL_law 222 = .ok (.iaload, 1) := by decide +kernel
theorem dL_law_223 : decode cL_law 223 = .ok (.aload_n 0, 1) := by decide +kernel
theorem dL_law_224 : decode cL_law 224 = .ok (.iload_n 3, 1) := by decide +kernel
theorem dL_law_225 : decode cL_law 225 = .ok (.iconst 2, 1) := by decide +kernel
theorem dL_law_226 : decode cL_law 226 = .ok (.iadd, 1) := by decide +kernel
theorem dL_law_227 : decode cL_law 227 = .ok (.iaload, 1) := by decide +kernel
theorem dL_law_228 : decode cL_law 228 = .ok (.invokevirtual 29, 3) := by decide +kernel
theorem dL_law_231 : decode cL_law 231 = .ok (.aload_n 2, 1) := by decide +kernel
theorem dL_law_232 : decode cL_law 232 = .ok (.aload_n 0, 1) := by decide +kernel
theorem dL_law_233 : decode cL_law 233 = .ok (.iload_n 3, 1) := by decide +kernel
theorem dL_law_234 : decode cL_law 234 = .ok (.iconst 1, 1) := by decide +kernel
theorem dL_law_235 : decode cL_law 235 = .ok (.iadd, 1) := by decide +kernel
theorem dL_law_236 : decode cL_law 236 = .ok (.iaload, 1) := by decide +kernel
theorem dL_law_237 : decode cL_law 237 = .ok (.aload_n 0, 1) := by decide +kernel
theorem dL_law_238 : decode cL_law 238 = .ok (.iload_n 3, 1) := by decide +kernel
theorem dL_law_239 : decode cL_law 239 = .ok (.iconst 2, 1) := by decide +kernel
theorem dL_law_240 : decode cL_law 240 = .ok (.iadd, 1) := by decide +kernel
theorem dL_law_241 : decode cL_law 241 = .ok (.iaload, 1) := by decide +kernel
theorem dL_law_242 : decode cL_law 242 = .ok (.invokevirtual 33, 3) := by decide +kernel
theorem dL_law_245 : decode cL_law 245 = .ok (.if_icmp .eq 288, 3) := by decide +kernel
theorem dL_law_248 : decode cL_law 248 = .ok (.iconst 0, 1) := by decide +kernel
theorem dL_law_249 : decode cL_law 249 = .ok (.ireturn, 1) := by decide +kernel
theorem dL_law_250 : decode cL_law 250 = .ok (.aload_n 1, 1) := by decide +kernel
theorem dL_law_251 : decode cL_law 251 = .ok (.aload_n 0, 1) := by decide +kernel
theorem dL_law_252 : decode cL_law 252 = .ok (.iload_n 3, 1) := by decide +kernel
theorem dL_law_253 : decode cL_law 253 = .ok (.iconst 1, 1) := by decide +kernel
theorem dL_law_254 : decode cL_law 254 = .ok (.iadd, 1) := by decide +kernel
theorem dL_law_255 : decode cL_law 255 = .ok (.iaload, 1) := by decide +kernel
theorem dL_law_256 : decode cL_law 256 = .ok (.aload_n 0, 1) := by decide +kernel
theorem dL_law_257 : decode cL_law 257 = .ok (.iload_n 3, 1) := by decide +kernel
theorem dL_law_258 : decode cL_law 258 = .ok (.iconst 2, 1) := by decide +kernel
theorem dL_law_259 : decode cL_law 259 = .ok (.iadd, 1) := by decide +kernel
theorem dL_law_260 : decode cL_law 260 = .ok (.iaload, 1) := by decide +kernel
theorem dL_law_261 : decode cL_law 261 = .ok (.invokevirtual 34, 3) := by decide +kernel
theorem dL_law_264 : decode cL_law 264 = .ok (.aload_n 2, 1) := by decide +kernel
theorem dL_law_265 : decode cL_law 265 = .ok (.aload_n 0, 1) := by decide +kernel
theorem dL_law_266 : decode cL_law 266 = .ok (.iload_n 3, 1) := by decide +kernel
theorem dL_law_267 : decode cL_law 267 = .ok (.iconst 1, 1) := by decide +kernel
theorem dL_law_268 : decode cL_law 268 = .ok (.iadd, 1) := by decide +kernel
theorem dL_law_269 : decode cL_law 269 = .ok (.iaload, 1) := by decide +kernel
theorem dL_law_270 : decode cL_law 270 = .ok (.aload_n 0, 1) := by decide +kernel
theorem dL_law_271 : decode cL_law 271 = .ok (.iload_n 3, 1) := by decide +kernel
theorem dL_law_272 : decode cL_law 272 = .ok (.iconst 2, 1) := by decide +kernel
theorem dL_law_273 : decode cL_law 273 = .ok (.iadd, 1) := by decide +kernel
theorem dL_law_274 : decode cL_law 274 = .ok (.iaload, 1) := by decide +kernel
theorem dL_law_275 : decode cL_law 275 = .ok (.invokevirtual 37, 3) := by decide +kernel
theorem dL_law_278 : decode cL_law 278 = .ok (.if_icmp .eq 255, 3) := by decide +kernel
theorem dL_law_281 : decode cL_law 281 = .ok (.iconst 0, 1) := by decide +kernel
theorem dL_law_282 : decode cL_law 282 = .ok (.ireturn, 1) := by decide +kernel
theorem dL_law_283 : decode cL_law 283 = .ok (.aload_n 1, 1) := by decide +kernel
theorem dL_law_284 : decode cL_law 284 = .ok (.aload_n 0, 1) := by decide +kernel
theorem dL_law_285 : decode cL_law 285 = .ok (.iload_n 3, 1) := by decide +kernel
theorem dL_law_286 : decode cL_law 286 = .ok (.iconst 1, 1) := by decide +kernel
theorem dL_law_287 : decode cL_law 287 = .ok (.iadd, 1) := by decide +kernel
theorem dL_law_288 : decode cL_law 288 = .ok (.iaload, 1) := by decide +kernel
theorem dL_law_289 : decode cL_law 289 = .ok (.aload_n 0, 1) := by decide +kernel
theorem dL_law_290 : decode cL_law 290 = .ok (.iload_n 3, 1) := by decide +kernel
theorem dL_law_291 : decode cL_law 291 = .ok (.iconst 2, 1) := by decide +kernel
theorem dL_law_292 : decode cL_law 292 = .ok (.iadd, 1) := by decide +kernel
theorem dL_law_293 : decode cL_law 293 = .ok (.iaload, 1) := by decide +kernel
theorem dL_law_294 : decode cL_law 294 = .ok (.invokevirtual 38, 3) := by decide +kernel
theorem dL_law_297 : decode cL_law 297 = .ok (.aload_n 2, 1) := by decide +kernel
theorem dL_law_298 : decode cL_law 298 = .ok (.aload_n 0, 1) := by decide +kernel
theorem dL_law_299 : decode cL_law 299 = .ok (.iload_n 3, 1) := by decide +kernel
theorem dL_law_300 : decode cL_law 300 = .ok (.iconst 1, 1) := by decide +kernel
theorem dL_law_301 : decode cL_law 301 = .ok (.iadd, 1) := by decide +kernel
theorem dL_law_302 : decode cL_law 302 = .ok (.iaload, 1) := by decide +kernel
theorem dL_law_303 : decode cL_law 303 = .ok (.aload_n 0, 1) := by decide +kernel
theorem dL_law_304 : decode cL_law 304 = .ok (.iload_n 3, 1) := by decide +kernel
theorem dL_law_305 : decode cL_law 305 = .ok (.iconst 2, 1) := by decide +kernel
theorem dL_law_306 : decode cL_law 306 = .ok (.iadd, 1) := by decide +kernel
theorem dL_law_307 : decode cL_law 307 = .ok (.iaload, 1) := by decide +kernel
theorem dL_law_308 : decode cL_law 308 = .ok (.invokevirtual 41, 3) := by decide +kernel
theorem dL_law_311 : decode cL_law 311 = .ok (.if_icmp .eq 222, 3) := by decide +kernel
theorem dL_law_314 : decode cL_law 314 = .ok (.iconst 0, 1) := by decide +kernel
theorem dL_law_315 : decode cL_law 315 = .ok (.ireturn, 1) := by decide +kernel
theorem dL_law_316 : decode cL_law 316 = .ok (.aload_n 1, 1) := by decide +kernel
theorem dL_law_317 : decode cL_law 317 = .ok (.aload_n 0, 1) := by decide +kernel
theorem dL_law_318 : decode cL_law 318 = .ok (.iload_n 3, 1) := by decide +kernel
theorem dL_law_319 : decode cL_law 319 = .ok (.iconst 1, 1) := by decide +kernel
theorem dL_law_320 : decode cL_law 320 = .ok (.iadd, 1) := by decide +kernel
theorem dL_law_321 : decode cL_law 321 = .ok (.iaload, 1) := by decide +kernel
theorem dL_law_322 : decode cL_law 322 = .ok (.aload_n 0, 1) := by decide +kernel
theorem dL_law_323 : decode cL_law 323 = .ok (.iload_n 3, 1) := by decide +kernel
theorem dL_law_324 : decode cL_law 324 = .ok (.iconst 2, 1) := by decide +kernel
theorem dL_law_325 : decode cL_law 325 = .ok (.iadd, 1) := by decide +kernel
theorem dL_law_326 : decode cL_law 326 = .ok (.iaload, 1) := by decide +kernel
theorem dL_law_327 : decode cL_law 327 = .ok (.invokevirtual 42, 3) := by decide +kernel
theorem dL_law_330 : decode cL_law 330 = .ok (.aload_n 2, 1) := by decide +kernel
theorem dL_law_331 : decode cL_law 331 = .ok (.aload_n 0, 1) := by decide +kernel
theorem dL_law_332 : decode cL_law 332 = .ok (.iload_n 3, 1) := by decide +kernel
theorem dL_law_333 : decode cL_law 333 = .ok (.iconst 1, 1) := by decide +kernel
theorem dL_law_334 : decode cL_law 334 = .ok (.iadd, 1) := by decide +kernel
theorem dL_law_335 : decode cL_law 335 = .ok (.iaload, 1) := by decide +kernel
theorem dL_law_336 : decode cL_law 336 = .ok (.aload_n 0, 1) := by decide +kernel
theorem dL_law_337 : decode cL_law 337 = .ok (.iload_n 3, 1) := by decide +kernel
theorem dL_law_338 : decode cL_law 338 = .ok (.iconst 2, 1) := by decide +kernel
theorem dL_law_339 : decode cL_law 339 = .ok (.iadd, 1) := by decide +kernel
theorem dL_law_340 : decode cL_law 340 = .ok (.iaload, 1) := by decide +kernel
theorem dL_law_341 : decode cL_law 341 = .ok (.invokevirtual 45, 3) := by decide +kernel
theorem dL_law_344 : decode cL_law 344 = .ok (.if_icmp .eq 189, 3) := by decide +kernel
theorem dL_law_347 : decode cL_law 347 = .ok (.iconst 0, 1) := by decide +kernel
theorem dL_law_348 : decode cL_law 348 = .ok (.ireturn, 1) := by decide +kernel
theorem dL_law_349 : decode cL_law 349 = .ok (.aload_n 1, 1) := by decide +kernel
theorem dL_law_350 : decode cL_law 350 = .ok (.aload_n 0, 1) := by decide +kernel
theorem dL_law_351 : decode cL_law 351 = .ok (.iload_n 3, 1) := by decide +kernel
theorem dL_law_352 : decode cL_law 352 = .ok (.iconst 1, 1) := by decide +kernel
theorem dL_law_353 : decode cL_law 353 = .ok (.iadd, 1) := by decide +kernel
theorem dL_law_354 : decode cL_law 354 = .ok (.iaload, 1) := by decide +kernel
theorem dL_law_355 : decode cL_law 355 = .ok (.invokevirtual 46, 3) := by decide +kernel
theorem dL_law_358 : decode cL_law 358 = .ok (.aload_n 2, 1) := by decide +kernel
theorem dL_law_359 : decode cL_law 359 = .ok (.aload_n 0, 1) := by decide +kernel
theorem dL_law_360 : decode cL_law 360 = .ok (.iload_n 3, 1) := by decide +kernel
theorem dL_law_361 : decode cL_law 361 = .ok (.iconst 1, 1) := by decide +kernel
theorem dL_law_362 : decode cL_law 362 = .ok (.iadd, 1) := by decide +kernel
theorem dL_law_363 : decode cL_law 363 = .ok (.iaload, 1) := by decide +kernel
theorem dL_law_364 : decode cL_law 364 = .ok (.invokevirtual 49, 3) := by decide +kernel
theorem dL_law_367 : decode cL_law 367 = .ok (.if_icmp .eq 166, 3) := by decide +kernel
theorem dL_law_370 : decode cL_law 370 = .ok (.iconst 0, 1) := by decide +kernel
theorem dL_law_371 : decode cL_law 371 = .ok (.ireturn, 1) := by decide +kernel
theorem dL_law_372 : decode cL_law 372 = .ok (.aload_n 1, 1) := by decide +kernel
theorem dL_law_373 : decode cL_law 373 = .ok (.aload_n 0, 1) := by decide +kernel
theorem dL_law_374 : decode cL_law 374 = .ok (.iload_n 3, 1) := by decide +kernel
theorem dL_law_375 : decode cL_law 375 = .ok (.iconst 1, 1) := by decide +kernel
theorem dL_law_376 : decode cL_law 376 = .ok (.iadd, 1) := by decide +kernel
theorem dL_law_377 : decode cL_law 377 = .ok (.iaload, 1) := by decide +kernel
theorem dL_law_378 : decode cL_law 378 = .ok (.aload_n 0, 1) := by decide +kernel
theorem dL_law_379 : decode cL_law 379 = .ok (.iload_n 3, 1) := by decide +kernel
theorem dL_law_380 : decode cL_law 380 = .ok (.iconst 2, 1) := by decide +kernel
theorem dL_law_381 : decode cL_law 381 = .ok (.iadd, 1) := by decide +kernel
theorem dL_law_382 : decode cL_law 382 = .ok (.iaload, 1) := by decide +kernel
theorem dL_law_383 : decode cL_law 383 = .ok (.invokevirtual 50, 3) := by decide +kernel
theorem dL_law_386 : decode cL_law 386 = .ok (.aload_n 2, 1) := by decide +kernel
theorem dL_law_387 : decode cL_law 387 = .ok (.aload_n 0, 1) := by decide +kernel
theorem dL_law_388 : decode cL_law 388 = .ok (.iload_n 3, 1) := by decide +kernel
theorem dL_law_389 : decode cL_law 389 = .ok (.iconst 1, 1) := by decide +kernel
theorem dL_law_390 : decode cL_law 390 = .ok (.iadd, 1) := by decide +kernel
theorem dL_law_391 : decode cL_law 391 = .ok (.iaload, 1) := by decide +kernel
theorem dL_law_392 : decode cL_law 392 = .ok (.aload_n 0, 1) := by decide +kernel
theorem dL_law_393 : decode cL_law 393 = .ok (.iload_n 3, 1) := by decide +kernel
theorem dL_law_394 : decode cL_law 394 = .ok (.iconst 2, 1) := by decide +kernel
theorem dL_law_395 : decode cL_law 395 = .ok (.iadd, 1) := by decide +kernel
theorem dL_law_396 : decode cL_law 396 = .ok (.iaload, 1) := by decide +kernel
theorem dL_law_397 : decode cL_law 397 = .ok (.invokevirtual 53, 3) := by decide +kernel
theorem dL_law_400 : decode cL_law 400 = .ok (.if_icmp .eq 133, 3) := by decide +kernel
theorem dL_law_403 : decode cL_law 403 = .ok (.iconst 0, 1) := by decide +kernel
theorem dL_law_404 : decode cL_law 404 = .ok (.ireturn, 1) := by decide +kernel
theorem dL_law_405 : decode cL_law 405 = .ok (.aload_n 1, 1) := by decide +kernel
theorem dL_law_406 : decode cL_law 406 = .ok (.aload_n 0, 1) := by decide +kernel
theorem dL_law_407 : decode cL_law 407 = .ok (.iload_n 3, 1) := by decide +kernel
theorem dL_law_408 : decode cL_law 408 = .ok (.iconst 1, 1) := by decide +kernel
theorem dL_law_409 : decode cL_law 409 = .ok (.iadd, 1) := by decide +kernel
theorem dL_law_410 : decode cL_law 410 = .ok (.iaload, 1) := by decide +kernel
theorem dL_law_411 : decode cL_law 411 = .ok (.invokevirtual 54, 3) := by decide +kernel
theorem dL_law_414 : decode cL_law 414 = .ok (.aload_n 2, 1) := by decide +kernel
theorem dL_law_415 : decode cL_law 415 = .ok (.aload_n 0, 1) := by decide +kernel
theorem dL_law_416 : decode cL_law 416 = .ok (.iload_n 3, 1) := by decide +kernel
theorem dL_law_417 : decode cL_law 417 = .ok (.iconst 1, 1) := by decide +kernel
theorem dL_law_418 : decode cL_law 418 = .ok (.iadd, 1) := by decide +kernel
theorem dL_law_419 : decode cL_law 419 = .ok (.iaload, 1) := by decide +kernel
theorem dL_law_420 : decode cL_law 420 = .ok (.invokevirtual 57, 3) := by decide +kernel
theorem dL_law_423 : decode cL_law 423 = .ok (.if_icmp .eq 110, 3) := by decide +kernel
theorem dL_law_426 : decode cL_law 426 = .ok (.iconst 0, 1) := by decide +kernel
theorem dL_law_427 : decode cL_law 427 = .ok (.ireturn, 1) := by decide +kernel
theorem dL_law_428 : decode cL_law 428 = .ok (.aload_n 1, 1) := by decide +kernel
theorem dL_law_429 : decode cL_law 429 = .ok (.aload_n 0, 1) := by decide +kernel
theorem dL_law_430 : decode cL_law 430 = .ok (.iload_n 3, 1) := by decide +kernel
theorem dL_law_431 : decode cL_law 431 = .ok (.iconst 1, 1) := by decide +kernel
theorem dL_law_432 : decode cL_law 432 = .ok (.iadd, 1) := by decide +kernel
theorem dL_law_433 : decode cL_law 433 = .ok (.iaload, 1) := by decide +kernel
theorem dL_law_434 : decode cL_law 434 = .ok (.aload_n 0, 1) := by decide +kernel
theorem dL_law_435 : decode cL_law 435 = .ok (.iload_n 3, 1) := by decide +kernel
theorem dL_law_436 : decode cL_law 436 = .ok (.iconst 2, 1) := by decide +kernel
theorem dL_law_437 : decode cL_law 437 = .ok (.iadd, 1) := by decide +kernel
theorem dL_law_438 : decode cL_law 438 = .ok (.iaload, 1) := by decide +kernel
theorem dL_law_439 : decode cL_law 439 = .ok (.invokevirtual 58, 3) := by decide +kernel
theorem dL_law_442 : decode cL_law 442 = .ok (.aload_n 2, 1) := by decide +kernel
theorem dL_law_443 : decode cL_law 443 = .ok (.aload_n 0, 1) := by decide +kernel
theorem dL_law_444 : decode cL_law 444 = .ok (.iload_n 3, 1) := by decide +kernel
theorem dL_law_445 : decode cL_law 445 = .ok (.iconst 1, 1) := by decide +kernel
theorem dL_law_446 : decode cL_law 446 = .ok (.iadd, 1) := by decide +kernel
theorem dL_law_447 : decode cL_law 447 = .ok (.iaload, 1) := by decide +kernel
theorem dL_law_448 : decode cL_law 448 = .ok (.aload_n 0, 1) := by decide +kernel
theorem dL_law_449 : decode cL_law 449 = .ok (.iload_n 3, 1) := by decide +kernel
theorem dL_law_450 : decode cL_law 450 = .ok (.iconst 2, 1) := by decide +kernel
theorem dL_law_451 : decode cL_law 451 = .ok (.iadd, 1) := by decide +kernel
theorem dL_law_452 : decode cL_law 452 = .ok (.iaload, 1) := by decide +kernel
theorem dL_law_453 : decode cL_law 453 = .ok (.invokevirtual 61, 3) := by decide +kernel
theorem dL_law_456 : decode cL_law 456 = .ok (.if_icmp .eq 77, 3) := by decide +kernel
theorem dL_law_459 : decode cL_law 459 = .ok (.iconst 0, 1) := by decide +kernel
theorem dL_law_460 : decode cL_law 460 = .ok (.ireturn, 1) := by decide +kernel
theorem dL_law_461 : decode cL_law 461 = .ok (.aload_n 1, 1) := by decide +kernel
theorem dL_law_462 : decode cL_law 462 = .ok (.aload_n 0, 1) := by decide +kernel
theorem dL_law_463 : decode cL_law 463 = .ok (.iload_n 3, 1) := by decide +kernel
theorem dL_law_464 : decode cL_law 464 = .ok (.iconst 1, 1) := by decide +kernel
theorem dL_law_465 : decode cL_law 465 = .ok (.iadd, 1) := by decide +kernel
theorem dL_law_466 : decode cL_law 466 = .ok (.iaload, 1) := by decide +kernel
theorem dL_law_467 : decode cL_law 467 = .ok (.invokevirtual 62, 3) := by decide +kernel
theorem dL_law_470 : decode cL_law 470 = .ok (.aload_n 2, 1) := by decide +kernel
theorem dL_law_471 : decode cL_law 471 = .ok (.aload_n 0, 1) := by decide +kernel
theorem dL_law_472 : decode cL_law 472 = .ok (.iload_n 3, 1) := by decide +kernel
theorem dL_law_473 : decode cL_law 473 = .ok (.iconst 1, 1) := by decide +kernel
theorem dL_law_474 : decode cL_law 474 = .ok (.iadd, 1) := by decide +kernel
theorem dL_law_475 : decode cL_law 475 = .ok (.iaload, 1) := by decide +kernel
theorem dL_law_476 : decode cL_law 476 = .ok (.invokevirtual 65, 3) := by decide +kernel
theorem dL_law_479 : decode cL_law 479 = .ok (.if_icmp .eq 54, 3) := by decide +kernel
theorem dL_law_482 : decode cL_law 482 = .ok (.iconst 0, 1) := by decide +kernel
theorem dL_law_483 : decode cL_law 483 = .ok (.ireturn, 1) := by decide +kernel
theorem dL_law_484 : decode cL_law 484 = .ok (.aload_n 1, 1) := by decide +kernel
theorem dL_law_485 : decode cL_law 485 = .ok (.invokevirtual 66, 3) := by decide +kernel
theorem dL_law_488 : decode cL_law 488 = .ok (.aload_n 2, 1) := by decide +kernel
theorem dL_law_489 : decode cL_law 489 = .ok (.invokevirtual 70, 3) := by decide +kernel
theorem dL_law_492 : decode cL_law 492 = .ok (.if_icmp .eq 41, 3) := by decide +kernel
theorem dL_law_495 : decode cL_law 495 = .ok (.iconst 0, 1) := by decide +kernel
theorem dL_law_496 : decode cL_law 496 = .ok (.ireturn, 1) := by decide +kernel
theorem dL_law_497 : decode cL_law 497 = .ok (.aload_n 1, 1) := by decide +kernel
theorem dL_law_498 : decode cL_law 498 = .ok (.aload_n 0, 1) := by decide +kernel
theorem dL_law_499 : decode cL_law 499 = .ok (.iload_n 3, 1) := by decide +kernel
theorem dL_law_500 : decode cL_law 500 = .ok (.iconst 1, 1) := by decide +kernel
theorem dL_law_501 : decode cL_law 501 = .ok (.iadd, 1) := by decide +kernel
theorem dL_law_502 : decode cL_law 502 = .ok (.iaload, 1) := by decide +kernel
theorem dL_law_503 : decode cL_law 503 = .ok (.invokevirtual 71, 3) := by decide +kernel
theorem dL_law_506 : decode cL_law 506 = .ok (.aload_n 2, 1) := by decide +kernel
theorem dL_law_507 : decode cL_law 507 = .ok (.aload_n 0, 1) := by decide +kernel
theorem dL_law_508 : decode cL_law 508 = .ok (.iload_n 3, 1) := by decide +kernel
theorem dL_law_509 : decode cL_law 509 = .ok (.iconst 1, 1) := by decide +kernel
theorem dL_law_510 : decode cL_law 510 = .ok (.iadd, 1) := by decide +kernel
theorem dL_law_511 : decode cL_law 511 = .ok (.iaload, 1) := by decide +kernel
theorem dL_law_512 : decode cL_law 512 = .ok (.invokevirtual 74, 3) := by decide +kernel
theorem dL_law_515 : decode cL_law 515 = .ok (.if_icmp .eq 18, 3) := by decide +kernel
theorem dL_law_518 : decode cL_law 518 = .ok (.iconst 0, 1) := by decide +kernel
theorem dL_law_519 : decode cL_law 519 = .ok (.ireturn, 1) := by decide +kernel
theorem dL_law_520 : decode cL_law 520 = .ok (.aload_n 1, 1) := by decide +kernel
theorem dL_law_521 : decode cL_law 521 = .ok (.invokevirtual 75, 3) := by decide +kernel
theorem dL_law_524 : decode cL_law 524 = .ok (.aload_n 2, 1) := by decide +kernel
theorem dL_law_525 : decode cL_law 525 = .ok (.invokevirtual 78, 3) := by decide +kernel
theorem dL_law_528 : decode cL_law 528 = .ok (.if_icmp .eq 5, 3) := by decide +kernel
theorem dL_law_531 : decode cL_law 531 = .ok (.iconst 0, 1) := by decide +kernel
theorem dL_law_532 : decode cL_law 532 = .ok (.ireturn, 1) := by decide +kernel
theorem dL_law_533 : decode cL_law 533 = .ok (.iinc 3 4, 3) := by decide +kernel
theorem dL_law_536 : decode cL_law 536 = .ok (.goto (-518), 3) := by decide +kernel
theorem dL_law_539 : decode cL_law 539 = .ok (.iconst 1, 1) := by decide +kernel
theorem dL_law_540 : decode cL_law 540 = .ok (.ireturn, 1) := by decide +kernel
