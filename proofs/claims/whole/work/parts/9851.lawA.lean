/-! The law: its instructions -/
theorem dl_0 : decode code 0 = .ok (.new 7, 3) := by decide +kernel
theorem dl_3 : decode code 3 = .ok (.dup, 1) := by decide +kernel
theorem dl_4 : decode code 4 = .ok (.invokespecial 9, 3) := by decide +kernel
theorem dl_7 : decode code 7 = .ok (.astore_n 1, 1) := by decide +kernel
theorem dl_8 : decode code 8 = .ok (.new 10, 3) := by decide +kernel
theorem dl_11 : decode code 11 = .ok (.dup, 1) := by decide +kernel
theorem dl_12 : decode code 12 = .ok (.invokespecial 12, 3) := by decide +kernel
theorem dl_15 : decode code 15 = .ok (.astore_n 2, 1) := by decide +kernel
theorem dl_16 : decode code 16 = .ok (.iconst 0, 1) := by decide +kernel
theorem dl_17 : decode code 17 = .ok (.istore_n 3, 1) := by decide +kernel
theorem dl_18 : decode code 18 = .ok (.iload_n 3, 1) := by decide +kernel
theorem dl_19 : decode code 19 = .ok (.aload_n 0, 1) := by decide +kernel
theorem dl_20 : decode code 20 = .ok (.arraylength, 1) := by decide +kernel
theorem dl_21 : decode code 21 = .ok (.iconst 3, 1) := by decide +kernel
theorem dl_22 : decode code 22 = .ok (.isub, 1) := by decide +kernel
theorem dl_23 : decode code 23 = .ok (.if_icmp .gt 380, 3) := by decide +kernel
theorem dl_26 : decode code 26 = .ok (.aload_n 0, 1) := by decide +kernel
theorem dl_27 : decode code 27 = .ok (.iload_n 3, 1) := by decide +kernel
theorem dl_28 : decode code 28 = .ok (.iaload, 1) := by decide +kernel
theorem dl_29 : decode code 29 = .ok (.bipush 15, 2) := by decide +kernel
theorem dl_31 : decode code 31 = .ok (.iand, 1) := by decide +kernel
theorem dl_32 : decode code 32 = .ok (.tableswitch 365 0 13 #[72, 95, 108, 121, 144, 177, 210, 233, 246, 269, 292, 315, 328, 351], 72) := by decide +kernel
theorem dl_104 : decode code 104 = .ok (.aload_n 1, 1) := by decide +kernel
theorem dl_105 : decode code 105 = .ok (.aload_n 0, 1) := by decide +kernel
theorem dl_106 : decode code 106 = .ok (.iload_n 3, 1) := by decide +kernel
theorem dl_107 : decode code 107 = .ok (.iconst 1, 1) := by decide +kernel
theorem dl_108 : decode code 108 = .ok (.iadd, 1) := by decide +kernel
theorem dl_109 : decode code 109 = .ok (.iaload, 1) := by decide +kernel
theorem dl_110 : decode code 110 = .ok (.invokevirtual 13, 3) := by decide +kernel
theorem dl_113 : decode code 113 = .ok (.aload_n 2, 1) := by decide +kernel
theorem dl_114 : decode code 114 = .ok (.aload_n 0, 1) := by decide +kernel
theorem dl_115 : decode code 115 = .ok (.iload_n 3, 1) := by decide +kernel
theorem dl_116 : decode code 116 = .ok (.iconst 1, 1) := by decide +kernel
theorem dl_117 : decode code 117 = .ok (.iadd, 1) := by decide +kernel
theorem dl_118 : decode code 118 = .ok (.iaload, 1) := by decide +kernel
theorem dl_119 : decode code 119 = .ok (.invokevirtual 17, 3) := by decide +kernel
theorem dl_122 : decode code 122 = .ok (.if_icmp .eq 275, 3) := by decide +kernel
theorem dl_125 : decode code 125 = .ok (.iconst 0, 1) := by decide +kernel
theorem dl_126 : decode code 126 = .ok (.ireturn, 1) := by decide +kernel
theorem dl_127 : decode code 127 = .ok (.aload_n 1, 1) := by decide +kernel
theorem dl_128 : decode code 128 = .ok (.invokevirtual 18, 3) := by decide +kernel
theorem dl_131 : decode code 131 = .ok (.aload_n 2, 1) := by decide +kernel
theorem dl_132 : decode code 132 = .ok (.invokevirtual 22, 3) := by decide +kernel
theorem dl_135 : decode code 135 = .ok (.if_icmp .eq 262, 3) := by decide +kernel
theorem dl_138 : decode code 138 = .ok (.iconst 0, 1) := by decide +kernel
theorem dl_139 : decode code 139 = .ok (.ireturn, 1) := by decide +kernel
theorem dl_140 : decode code 140 = .ok (.aload_n 1, 1) := by decide +kernel
theorem dl_141 : decode code 141 = .ok (.invokevirtual 23, 3) := by decide +kernel
theorem dl_144 : decode code 144 = .ok (.aload_n 2, 1) := by decide +kernel
theorem dl_145 : decode code 145 = .ok (.invokevirtual 26, 3) := by decide +kernel
theorem dl_148 : decode code 148 = .ok (.if_icmp .eq 249, 3) := by decide +kernel
theorem dl_151 : decode code 151 = .ok (.iconst 0, 1) := by decide +kernel
theorem dl_152 : decode code 152 = .ok (.ireturn, 1) := by decide +kernel
theorem dl_153 : decode code 153 = .ok (.aload_n 1, 1) := by decide +kernel
theorem dl_154 : decode code 154 = .ok (.aload_n 0, 1) := by decide +kernel
theorem dl_155 : decode code 155 = .ok (.iload_n 3, 1) := by decide +kernel
theorem dl_156 : decode code 156 = .ok (.iconst 1, 1) := by decide +kernel
theorem dl_157 : decode code 157 = .ok (.iadd, 1) := by decide +kernel
theorem dl_158 : decode code 158 = .ok (.iaload, 1) := by decide +kernel
theorem dl_159 : decode code 159 = .ok (.invokevirtual 27, 3) := by decide +kernel
theorem dl_162 : decode code 162 = .ok (.aload_n 2, 1) := by decide +kernel
theorem dl_163 : decode code 163 = .ok (.aload_n 0, 1) := by decide +kernel
theorem dl_164 : decode code 164 = .ok (.iload_n 3, 1) := by decide +kernel
theorem dl_165 : decode code 165 = .ok (.iconst 1, 1) := by decide +kernel
theorem dl_166 : decode code 166 = .ok (.iadd, 1) := by decide +kernel
theorem dl_167 : decode code 167 = .ok (.iaload, 1) := by decide +kernel
theorem dl_168 : decode code 168 = .ok (.invokevirtual 30, 3) := by decide +kernel
theorem dl_171 : decode code 171 = .ok (.if_icmp .eq 226, 3) := by decide +kernel
theorem dl_174 : decode code 174 = .ok (.iconst 0, 1) := by decide +kernel
theorem dl_175 : decode code 175 = .ok (.ireturn, 1) := by decide +kernel
theorem dl_176 : decode code 176 = .ok (.aload_n 1, 1) := by decide +kernel
theorem dl_177 : decode code 177 = .ok (.aload_n 0, 1) := by decide +kernel
theorem dl_178 : decode code 178 = .ok (.iload_n 3, 1) := by decide +kernel
theorem dl_179 : decode code 179 = .ok (.iconst 1, 1) := by decide +kernel
theorem dl_180 : decode code 180 = .ok (.iadd, 1) := by decide +kernel
theorem dl_181 : decode code 181 = .ok (.iaload, 1) := by decide +kernel
theorem dl_182 : decode code 182 = .ok (.aload_n 0, 1) := by decide +kernel
theorem dl_183 : decode code 183 = .ok (.iload_n 3, 1) := by decide +kernel
theorem dl_184 : decode code 184 = .ok (.iconst 2, 1) := by decide +kernel
theorem dl_185 : decode code 185 = .ok (.iadd, 1) := by decide +kernel
theorem dl_186 : decode code 186 = .ok (.iaload, 1) := by decide +kernel
theorem dl_187 : decode code 187 = .ok (.invokevirtual 31, 3) := by decide +kernel
theorem dl_190 : decode code 190 = .ok (.aload_n 2, 1) := by decide +kernel
theorem dl_191 : decode code 191 = .ok (.aload_n 0, 1) := by decide +kernel
theorem dl_192 : decode code 192 = .ok (.iload_n 3, 1) := by decide +kernel
theorem dl_193 : decode code 193 = .ok (.iconst 1, 1) := by decide +kernel
theorem dl_194 : decode code 194 = .ok (.iadd, 1) := by decide +kernel
theorem dl_195 : decode code 195 = .ok (.iaload, 1) := by decide +kernel
theorem dl_196 : decode code 196 = .ok (.aload_n 0, 1) := by decide +kernel
theorem dl_197 : decode code 197 = .ok (.iload_n 3, 1) := by decide +kernel
theorem dl_198 : decode code 198 = .ok (.iconst 2, 1) := by decide +kernel
theorem dl_199 : decode code 199 = .ok (.iadd, 1) := by decide +kernel
theorem dl_200 : decode code 200 = .ok (.iaload, 1) := by decide +kernel
theorem dl_201 : decode code 201 = .ok (.invokevirtual 35, 3) := by decide +kernel
theorem dl_204 : decode code 204 = .ok (.if_icmp .eq 193, 3) := by decide +kernel
theorem dl_207 : decode code 207 = .ok (.iconst 0, 1) := by decide +kernel
theorem dl_208 : decode code 208 = .ok (.ireturn, 1) := by decide +kernel
theorem dl_209 : decode code 209 = .ok (.aload_n 1, 1) := by decide +kernel
theorem dl_210 : decode code 210 = .ok (.aload_n 0, 1) := by decide +kernel
theorem dl_211 : decode code 211 = .ok (.iload_n 3, 1) := by decide +kernel
theorem dl_212 : decode code 212 = .ok (.iconst 1, 1) := by decide +kernel
theorem dl_213 : decode code 213 = .ok (.iadd, 1) := by decide +kernel
theorem dl_214 : decode code 214 = .ok (.iaload, 1) := by decide +kernel
theorem dl_215 : decode code 215 = .ok (.aload_n 0, 1) := by decide +kernel
theorem dl_216 : decode code 216 = .ok (.iload_n 3, 1) := by decide +kernel
theorem dl_217 : decode code 217 = .ok (.iconst 2, 1) := by decide +kernel
theorem dl_218 : decode code 218 = .ok (.iadd, 1) := by decide +kernel
theorem dl_219 : decode code 219 = .ok (.iaload, 1) := by decide +kernel
theorem dl_220 : decode code 220 = .ok (.invokevirtual 36, 3) := by decide +kernel
theorem dl_223 : decode code 223 = .ok (.aload_n 2, 1) := by decide +kernel
theorem dl_224 : decode code 224 = .ok (.aload_n 0, 1) := by decide +kernel
theorem dl_225 : decode code 225 = .ok (.iload_n 3, 1) := by decide +kernel
theorem dl_226 : decode code 226 = .ok (.iconst 1, 1) := by decide +kernel
theorem dl_227 : decode code 227 = .ok (.iadd, 1) := by decide +kernel
theorem dl_228 : decode code 228 = .ok (.iaload, 1) := by decide +kernel
theorem dl_229 : decode code 229 = .ok (.aload_n 0, 1) := by decide +kernel
theorem dl_230 : decode code 230 = .ok (.iload_n 3, 1) := by decide +kernel
