theorem dX11_findWay_121 : decode cX11_findWay 121 = .ok (.iconst (-1), 1) := by decide +kernel
theorem dX11_findWay_122 : decode cX11_findWay 122 = .ok (.if_icmp .ne 25, 3) := by decide +kernel
theorem dX11_findWay_125 : decode cX11_findWay 125 = .ok (.aload_n 0, 1) := by decide +kernel
theorem dX11_findWay_126 : decode cX11_findWay 126 = .ok (.getfield 126, 3) := by decide +kernel
theorem dX11_findWay_129 : decode cX11_findWay 129 = .ok (.iload_n 3, 1) := by decide +kernel
theorem dX11_findWay_130 : decode cX11_findWay 130 = .ok (.iaload, 1) := by decide +kernel
theorem dX11_findWay_131 : decode cX11_findWay 131 = .ok (.ifCond .ne 16, 3) := by decide +kernel
theorem dX11_findWay_134 : decode cX11_findWay 134 = .ok (.aload_n 0, 1) := by decide +kernel
theorem dX11_findWay_135 : decode cX11_findWay 135 = .ok (.iload_n 3, 1) := by decide +kernel
theorem dX11_findWay_136 : decode cX11_findWay 136 = .ok (.invokevirtual 629, 3) := by decide +kernel
theorem dX11_findWay_139 : decode cX11_findWay 139 = .ok (.aload_n 0, 1) := by decide +kernel
theorem dX11_findWay_140 : decode cX11_findWay 140 = .ok (.iload_n 3, 1) := by decide +kernel
theorem dX11_findWay_141 : decode cX11_findWay 141 = .ok (.iload_n 1, 1) := by decide +kernel
theorem dX11_findWay_142 : decode cX11_findWay 142 = .ok (.invokevirtual 626, 3) := by decide +kernel
theorem dX11_findWay_145 : decode cX11_findWay 145 = .ok (.iload_n 3, 1) := by decide +kernel
theorem dX11_findWay_146 : decode cX11_findWay 146 = .ok (.ireturn, 1) := by decide +kernel
theorem dX11_findWay_147 : decode cX11_findWay 147 = .ok (.aload_n 0, 1) := by decide +kernel
theorem dX11_findWay_148 : decode cX11_findWay 148 = .ok (.dup, 1) := by decide +kernel
theorem dX11_findWay_149 : decode cX11_findWay 149 = .ok (.getfield 328, 3) := by decide +kernel
theorem dX11_findWay_152 : decode cX11_findWay 152 = .ok (.iconst 1, 1) := by decide +kernel
theorem dX11_findWay_153 : decode cX11_findWay 153 = .ok (.iadd, 1) := by decide +kernel
theorem dX11_findWay_154 : decode cX11_findWay 154 = .ok (.putfield 328, 3) := by decide +kernel
theorem dX11_findWay_157 : decode cX11_findWay 157 = .ok (.aload_n 0, 1) := by decide +kernel
theorem dX11_findWay_158 : decode cX11_findWay 158 = .ok (.getfield 129, 3) := by decide +kernel
theorem dX11_findWay_161 : decode cX11_findWay 161 = .ok (.iload_n 3, 1) := by decide +kernel
theorem dX11_findWay_162 : decode cX11_findWay 162 = .ok (.bipush 16, 2) := by decide +kernel
theorem dX11_findWay_164 : decode cX11_findWay 164 = .ok (.iastore, 1) := by decide +kernel
theorem dX11_findWay_165 : decode cX11_findWay 165 = .ok (.aload_n 0, 1) := by decide +kernel
theorem dX11_findWay_166 : decode cX11_findWay 166 = .ok (.getfield 135, 3) := by decide +kernel
theorem dX11_findWay_169 : decode cX11_findWay 169 = .ok (.iload_n 3, 1) := by decide +kernel
theorem dX11_findWay_170 : decode cX11_findWay 170 = .ok (.iconst 0, 1) := by decide +kernel
theorem dX11_findWay_171 : decode cX11_findWay 171 = .ok (.iastore, 1) := by decide +kernel
theorem dX11_findWay_172 : decode cX11_findWay 172 = .ok (.iconst 0, 1) := by decide +kernel
theorem dX11_findWay_173 : decode cX11_findWay 173 = .ok (.istore 4, 2) := by decide +kernel
theorem dX11_findWay_175 : decode cX11_findWay 175 = .ok (.iload 4, 2) := by decide +kernel
theorem dX11_findWay_177 : decode cX11_findWay 177 = .ok (.aload_n 0, 1) := by decide +kernel
theorem dX11_findWay_178 : decode cX11_findWay 178 = .ok (.getfield 47, 3) := by decide +kernel
theorem dX11_findWay_181 : decode cX11_findWay 181 = .ok (.iconst 0, 1) := by decide +kernel
theorem dX11_findWay_182 : decode cX11_findWay 182 = .ok (.iaload, 1) := by decide +kernel
theorem dX11_findWay_183 : decode cX11_findWay 183 = .ok (.if_icmp .ge 62, 3) := by decide +kernel
theorem dX11_findWay_186 : decode cX11_findWay 186 = .ok (.aload_n 0, 1) := by decide +kernel
theorem dX11_findWay_187 : decode cX11_findWay 187 = .ok (.getfield 123, 3) := by decide +kernel
theorem dX11_findWay_190 : decode cX11_findWay 190 = .ok (.iload_n 3, 1) := by decide +kernel
theorem dX11_findWay_191 : decode cX11_findWay 191 = .ok (.iaload, 1) := by decide +kernel
theorem dX11_findWay_192 : decode cX11_findWay 192 = .ok (.iload 4, 2) := by decide +kernel
theorem dX11_findWay_194 : decode cX11_findWay 194 = .ok (.if_icmp .eq 20, 3) := by decide +kernel
theorem dX11_findWay_197 : decode cX11_findWay 197 = .ok (.aload_n 0, 1) := by decide +kernel
theorem dX11_findWay_198 : decode cX11_findWay 198 = .ok (.getfield 126, 3) := by decide +kernel
theorem dX11_findWay_201 : decode cX11_findWay 201 = .ok (.iload_n 3, 1) := by decide +kernel
theorem dX11_findWay_202 : decode cX11_findWay 202 = .ok (.iaload, 1) := by decide +kernel
theorem dX11_findWay_203 : decode cX11_findWay 203 = .ok (.iload 4, 2) := by decide +kernel
theorem dX11_findWay_205 : decode cX11_findWay 205 = .ok (.ishr, 1) := by decide +kernel
theorem dX11_findWay_206 : decode cX11_findWay 206 = .ok (.iconst 1, 1) := by decide +kernel
theorem dX11_findWay_207 : decode cX11_findWay 207 = .ok (.iand, 1) := by decide +kernel
theorem dX11_findWay_208 : decode cX11_findWay 208 = .ok (.ifCond .ne 6, 3) := by decide +kernel
theorem dX11_findWay_211 : decode cX11_findWay 211 = .ok (.goto 28, 3) := by decide +kernel
theorem dX11_findWay_214 : decode cX11_findWay 214 = .ok (.aload_n 0, 1) := by decide +kernel
theorem dX11_findWay_215 : decode cX11_findWay 215 = .ok (.iconst 3, 1) := by decide +kernel
theorem dX11_findWay_216 : decode cX11_findWay 216 = .ok (.bipush 16, 2) := by decide +kernel
theorem dX11_findWay_218 : decode cX11_findWay 218 = .ok (.iload 4, 2) := by decide +kernel
theorem dX11_findWay_220 : decode cX11_findWay 220 = .ok (.aload_n 0, 1) := by decide +kernel
theorem dX11_findWay_221 : decode cX11_findWay 221 = .ok (.getfield 114, 3) := by decide +kernel
theorem dX11_findWay_224 : decode cX11_findWay 224 = .ok (.iload_n 3, 1) := by decide +kernel
theorem dX11_findWay_225 : decode cX11_findWay 225 = .ok (.iaload, 1) := by decide +kernel
theorem dX11_findWay_226 : decode cX11_findWay 226 = .ok (.invokevirtual 548, 3) := by decide +kernel
theorem dX11_findWay_229 : decode cX11_findWay 229 = .ok (.aload_n 0, 1) := by decide +kernel
theorem dX11_findWay_230 : decode cX11_findWay 230 = .ok (.getfield 135, 3) := by decide +kernel
theorem dX11_findWay_233 : decode cX11_findWay 233 = .ok (.iload_n 3, 1) := by decide +kernel
theorem dX11_findWay_234 : decode cX11_findWay 234 = .ok (.dup2, 1) := by decide +kernel
theorem dX11_findWay_235 : decode cX11_findWay 235 = .ok (.iaload, 1) := by decide +kernel
theorem dX11_findWay_236 : decode cX11_findWay 236 = .ok (.iconst 1, 1) := by decide +kernel
theorem dX11_findWay_237 : decode cX11_findWay 237 = .ok (.iadd, 1) := by decide +kernel
theorem dX11_findWay_238 : decode cX11_findWay 238 = .ok (.iastore, 1) := by decide +kernel
theorem dX11_findWay_239 : decode cX11_findWay 239 = .ok (.iinc 4 1, 3) := by decide +kernel
theorem dX11_findWay_242 : decode cX11_findWay 242 = .ok (.goto (-67), 3) := by decide +kernel
theorem dX11_findWay_245 : decode cX11_findWay 245 = .ok (.iconst (-1), 1) := by decide +kernel
theorem dX11_findWay_246 : decode cX11_findWay 246 = .ok (.ireturn, 1) := by decide +kernel
theorem dX11_take_0 : decode cX11_take 0 = .ok (.aload_n 0, 1) := by decide +kernel
theorem dX11_take_1 : decode cX11_take 1 = .ok (.iload_n 3, 1) := by decide +kernel
theorem dX11_take_2 : decode cX11_take 2 = .ok (.invokevirtual 632, 3) := by decide +kernel
theorem dX11_take_5 : decode cX11_take 5 = .ok (.istore 5, 2) := by decide +kernel
theorem dX11_take_7 : decode cX11_take 7 = .ok (.iload 5, 2) := by decide +kernel
theorem dX11_take_9 : decode cX11_take 9 = .ok (.iconst (-1), 1) := by decide +kernel
theorem dX11_take_10 : decode cX11_take 10 = .ok (.if_icmp .eq 16, 3) := by decide +kernel
theorem dX11_take_13 : decode cX11_take 13 = .ok (.aload_n 0, 1) := by decide +kernel
theorem dX11_take_14 : decode cX11_take 14 = .ok (.getfield 129, 3) := by decide +kernel
theorem dX11_take_17 : decode cX11_take 17 = .ok (.iload 5, 2) := by decide +kernel
theorem dX11_take_19 : decode cX11_take 19 = .ok (.iaload, 1) := by decide +kernel
theorem dX11_take_20 : decode cX11_take 20 = .ok (.iconst (-1), 1) := by decide +kernel
theorem dX11_take_21 : decode cX11_take 21 = .ok (.if_icmp .eq 5, 3) := by decide +kernel
theorem dX11_take_24 : decode cX11_take 24 = .ok (.iconst 0, 1) := by decide +kernel
theorem dX11_take_25 : decode cX11_take 25 = .ok (.ireturn, 1) := by decide +kernel
theorem dX11_take_26 : decode cX11_take 26 = .ok (.iload_n 1, 1) := by decide +kernel
theorem dX11_take_27 : decode cX11_take 27 = .ok (.iconst 2, 1) := by decide +kernel
theorem dX11_take_28 : decode cX11_take 28 = .ok (.if_icmp .ne 85, 3) := by decide +kernel
theorem dX11_take_31 : decode cX11_take 31 = .ok (.iload 5, 2) := by decide +kernel
theorem dX11_take_33 : decode cX11_take 33 = .ok (.iconst (-1), 1) := by decide +kernel
theorem dX11_take_34 : decode cX11_take 34 = .ok (.if_icmp .eq 67, 3) := by decide +kernel
theorem dX11_take_37 : decode cX11_take 37 = .ok (.aload_n 0, 1) := by decide +kernel
theorem dX11_take_38 : decode cX11_take 38 = .ok (.getfield 123, 3) := by decide +kernel
theorem dX11_take_41 : decode cX11_take 41 = .ok (.iload 5, 2) := by decide +kernel
theorem dX11_take_43 : decode cX11_take 43 = .ok (.iaload, 1) := by decide +kernel
theorem dX11_take_44 : decode cX11_take 44 = .ok (.iload_n 2, 1) := by decide +kernel
theorem dX11_take_45 : decode cX11_take 45 = .ok (.if_icmp .ne 56, 3) := by decide +kernel
theorem dX11_take_48 : decode cX11_take 48 = .ok (.iconst 0, 1) := by decide +kernel
theorem dX11_take_49 : decode cX11_take 49 = .ok (.istore 6, 2) := by decide +kernel
theorem dX11_take_51 : decode cX11_take 51 = .ok (.iload 6, 2) := by decide +kernel
theorem dX11_take_53 : decode cX11_take 53 = .ok (.iconst 4, 1) := by decide +kernel
theorem dX11_take_54 : decode cX11_take 54 = .ok (.if_icmp .ge 31, 3) := by decide +kernel
theorem dX11_take_57 : decode cX11_take 57 = .ok (.aload_n 0, 1) := by decide +kernel
theorem dX11_take_58 : decode cX11_take 58 = .ok (.getfield 117, 3) := by decide +kernel
theorem dX11_take_61 : decode cX11_take 61 = .ok (.iconst 4, 1) := by decide +kernel
theorem dX11_take_62 : decode cX11_take 62 = .ok (.iload 5, 2) := by decide +kernel
theorem dX11_take_64 : decode cX11_take 64 = .ok (.imul, 1) := by decide +kernel
theorem dX11_take_65 : decode cX11_take 65 = .ok (.iload 6, 2) := by decide +kernel
theorem dX11_take_67 : decode cX11_take 67 = .ok (.iadd, 1) := by decide +kernel
theorem dX11_take_68 : decode cX11_take 68 = .ok (.aload_n 0, 1) := by decide +kernel
theorem dX11_take_69 : decode cX11_take 69 = .ok (.getfield 141, 3) := by decide +kernel
theorem dX11_take_72 : decode cX11_take 72 = .ok (.iload 4, 2) := by decide +kernel
theorem dX11_take_74 : decode cX11_take 74 = .ok (.iload 6, 2) := by decide +kernel
theorem dX11_take_76 : decode cX11_take 76 = .ok (.iadd, 1) := by decide +kernel
theorem dX11_take_77 : decode cX11_take 77 = .ok (.iaload, 1) := by decide +kernel
theorem dX11_take_78 : decode cX11_take 78 = .ok (.iastore, 1) := by decide +kernel
theorem dX11_take_79 : decode cX11_take 79 = .ok (.iinc 6 1, 3) := by decide +kernel
theorem dX11_take_82 : decode cX11_take 82 = .ok (.goto (-31), 3) := by decide +kernel
theorem dX11_take_85 : decode cX11_take 85 = .ok (.aload_n 0, 1) := by decide +kernel
theorem dX11_take_86 : decode cX11_take 86 = .ok (.getfield 120, 3) := by decide +kernel
theorem dX11_take_89 : decode cX11_take 89 = .ok (.iload 5, 2) := by decide +kernel
theorem dX11_take_91 : decode cX11_take 91 = .ok (.iconst 1, 1) := by decide +kernel
theorem dX11_take_92 : decode cX11_take 92 = .ok (.bastore, 1) := by decide +kernel
theorem dX11_take_93 : decode cX11_take 93 = .ok (.aload_n 0, 1) := by decide +kernel
theorem dX11_take_94 : decode cX11_take 94 = .ok (.getfield 123, 3) := by decide +kernel
theorem dX11_take_97 : decode cX11_take 97 = .ok (.iload 5, 2) := by decide +kernel
theorem dX11_take_99 : decode cX11_take 99 = .ok (.iconst (-1), 1) := by decide +kernel
theorem dX11_take_100 : decode cX11_take 100 = .ok (.iastore, 1) := by decide +kernel
theorem dX11_take_101 : decode cX11_take 101 = .ok (.aload_n 0, 1) := by decide +kernel
theorem dX11_take_102 : decode cX11_take 102 = .ok (.bipush 9, 2) := by decide +kernel
theorem dX11_take_104 : decode cX11_take 104 = .ok (.bipush 16, 2) := by decide +kernel
theorem dX11_take_106 : decode cX11_take 106 = .ok (.iload_n 2, 1) := by decide +kernel
theorem dX11_take_107 : decode cX11_take 107 = .ok (.iload_n 3, 1) := by decide +kernel
theorem dX11_take_108 : decode cX11_take 108 = .ok (.invokevirtual 548, 3) := by decide +kernel
theorem dX11_take_111 : decode cX11_take 111 = .ok (.iconst 1, 1) := by decide +kernel
theorem dX11_take_112 : decode cX11_take 112 = .ok (.ireturn, 1) := by decide +kernel
theorem dX11_take_113 : decode cX11_take 113 = .ok (.iload 5, 2) := by decide +kernel
theorem dX11_take_115 : decode cX11_take 115 = .ok (.iconst (-1), 1) := by decide +kernel
theorem dX11_take_116 : decode cX11_take 116 = .ok (.if_icmp .ne 10, 3) := by decide +kernel
theorem dX11_take_119 : decode cX11_take 119 = .ok (.aload_n 0, 1) := by decide +kernel
theorem dX11_take_120 : decode cX11_take 120 = .ok (.iload_n 3, 1) := by decide +kernel
theorem dX11_take_121 : decode cX11_take 121 = .ok (.invokevirtual 635, 3) := by decide +kernel
theorem dX11_take_124 : decode cX11_take 124 = .ok (.istore 5, 2) := by decide +kernel
theorem dX11_take_126 : decode cX11_take 126 = .ok (.iload 5, 2) := by decide +kernel
theorem dX11_take_128 : decode cX11_take 128 = .ok (.iconst (-1), 1) := by decide +kernel
theorem dX11_take_129 : decode cX11_take 129 = .ok (.if_icmp .ne 5, 3) := by decide +kernel
theorem dX11_take_132 : decode cX11_take 132 = .ok (.iconst 0, 1) := by decide +kernel
theorem dX11_take_133 : decode cX11_take 133 = .ok (.ireturn, 1) := by decide +kernel
theorem dX11_take_134 : decode cX11_take 134 = .ok (.aload_n 0, 1) := by decide +kernel
theorem dX11_take_135 : decode cX11_take 135 = .ok (.dup, 1) := by decide +kernel
theorem dX11_take_136 : decode cX11_take 136 = .ok (.getfield 638, 3) := by decide +kernel
theorem dX11_take_139 : decode cX11_take 139 = .ok (.iconst 1, 1) := by decide +kernel
theorem dX11_take_140 : decode cX11_take 140 = .ok (.iadd, 1) := by decide +kernel
theorem dX11_take_141 : decode cX11_take 141 = .ok (.putfield 638, 3) := by decide +kernel
theorem dX11_take_144 : decode cX11_take 144 = .ok (.aload_n 0, 1) := by decide +kernel
theorem dX11_take_145 : decode cX11_take 145 = .ok (.getfield 138, 3) := by decide +kernel
theorem dX11_take_148 : decode cX11_take 148 = .ok (.iload 5, 2) := by decide +kernel
theorem dX11_take_150 : decode cX11_take 150 = .ok (.aload_n 0, 1) := by decide +kernel
theorem dX11_take_151 : decode cX11_take 151 = .ok (.getfield 638, 3) := by decide +kernel
theorem dX11_take_154 : decode cX11_take 154 = .ok (.iastore, 1) := by decide +kernel
theorem dX11_take_155 : decode cX11_take 155 = .ok (.aload_n 0, 1) := by decide +kernel
theorem dX11_take_156 : decode cX11_take 156 = .ok (.getfield 129, 3) := by decide +kernel
theorem dX11_take_159 : decode cX11_take 159 = .ok (.iload 5, 2) := by decide +kernel
theorem dX11_take_161 : decode cX11_take 161 = .ok (.iload_n 2, 1) := by decide +kernel
theorem dX11_take_162 : decode cX11_take 162 = .ok (.iastore, 1) := by decide +kernel
theorem dX11_take_163 : decode cX11_take 163 = .ok (.aload_n 0, 1) := by decide +kernel
theorem dX11_take_164 : decode cX11_take 164 = .ok (.getfield 132, 3) := by decide +kernel
theorem dX11_take_167 : decode cX11_take 167 = .ok (.iload 5, 2) := by decide +kernel
theorem dX11_take_169 : decode cX11_take 169 = .ok (.iload_n 1, 1) := by decide +kernel
theorem dX11_take_170 : decode cX11_take 170 = .ok (.iastore, 1) := by decide +kernel
theorem dX11_take_171 : decode cX11_take 171 = .ok (.aload_n 0, 1) := by decide +kernel
theorem dX11_take_172 : decode cX11_take 172 = .ok (.getfield 135, 3) := by decide +kernel
theorem dX11_take_175 : decode cX11_take 175 = .ok (.iload 5, 2) := by decide +kernel
theorem dX11_take_177 : decode cX11_take 177 = .ok (.iconst 0, 1) := by decide +kernel
theorem dX11_take_178 : decode cX11_take 178 = .ok (.iastore, 1) := by decide +kernel
theorem dX11_take_179 : decode cX11_take 179 = .ok (.iload_n 1, 1) := by decide +kernel
theorem dX11_take_180 : decode cX11_take 180 = .ok (.ifCond .ne 13, 3) := by decide +kernel
theorem dX11_take_183 : decode cX11_take 183 = .ok (.aload_n 0, 1) := by decide +kernel
theorem dX11_take_184 : decode cX11_take 184 = .ok (.iload 5, 2) := by decide +kernel
theorem dX11_take_186 : decode cX11_take 186 = .ok (.iload_n 2, 1) := by decide +kernel
theorem dX11_take_187 : decode cX11_take 187 = .ok (.iload_n 3, 1) := by decide +kernel
theorem dX11_take_188 : decode cX11_take 188 = .ok (.invokevirtual 641, 3) := by decide +kernel
theorem dX11_take_191 : decode cX11_take 191 = .ok (.iconst 1, 1) := by decide +kernel
theorem dX11_take_192 : decode cX11_take 192 = .ok (.ireturn, 1) := by decide +kernel
theorem dX11_take_193 : decode cX11_take 193 = .ok (.iconst 0, 1) := by decide +kernel
theorem dX11_take_194 : decode cX11_take 194 = .ok (.istore 6, 2) := by decide +kernel
theorem dX11_take_196 : decode cX11_take 196 = .ok (.iload 6, 2) := by decide +kernel
theorem dX11_take_198 : decode cX11_take 198 = .ok (.aload_n 0, 1) := by decide +kernel
theorem dX11_take_199 : decode cX11_take 199 = .ok (.getfield 47, 3) := by decide +kernel
theorem dX11_take_202 : decode cX11_take 202 = .ok (.iconst 0, 1) := by decide +kernel
theorem dX11_take_203 : decode cX11_take 203 = .ok (.iaload, 1) := by decide +kernel
theorem dX11_take_204 : decode cX11_take 204 = .ok (.if_icmp .ge 66, 3) := by decide +kernel
theorem dX11_take_207 : decode cX11_take 207 = .ok (.iload 6, 2) := by decide +kernel
theorem dX11_take_209 : decode cX11_take 209 = .ok (.iload_n 2, 1) := by decide +kernel
theorem dX11_take_210 : decode cX11_take 210 = .ok (.if_icmp .eq 54, 3) := by decide +kernel
theorem dX11_take_213 : decode cX11_take 213 = .ok (.aload_n 0, 1) := by decide +kernel
theorem dX11_take_214 : decode cX11_take 214 = .ok (.getfield 123, 3) := by decide +kernel
theorem dX11_take_217 : decode cX11_take 217 = .ok (.iload 5, 2) := by decide +kernel
theorem dX11_take_219 : decode cX11_take 219 = .ok (.iaload, 1) := by decide +kernel
theorem dX11_take_220 : decode cX11_take 220 = .ok (.iload 6, 2) := by decide +kernel
theorem dX11_take_222 : decode cX11_take 222 = .ok (.if_icmp .eq 21, 3) := by decide +kernel
theorem dX11_take_225 : decode cX11_take 225 = .ok (.aload_n 0, 1) := by decide +kernel
theorem dX11_take_226 : decode cX11_take 226 = .ok (.getfield 126, 3) := by decide +kernel
theorem dX11_take_229 : decode cX11_take 229 = .ok (.iload 5, 2) := by decide +kernel
theorem dX11_take_231 : decode cX11_take 231 = .ok (.iaload, 1) := by decide +kernel
theorem dX11_take_232 : decode cX11_take 232 = .ok (.iload 6, 2) := by decide +kernel
theorem dX11_take_234 : decode cX11_take 234 = .ok (.ishr, 1) := by decide +kernel
theorem dX11_take_235 : decode cX11_take 235 = .ok (.iconst 1, 1) := by decide +kernel
theorem dX11_take_236 : decode cX11_take 236 = .ok (.iand, 1) := by decide +kernel
theorem dX11_take_237 : decode cX11_take 237 = .ok (.ifCond .ne 6, 3) := by decide +kernel
theorem dX11_take_240 : decode cX11_take 240 = .ok (.goto 24, 3) := by decide +kernel
theorem dX11_take_243 : decode cX11_take 243 = .ok (.aload_n 0, 1) := by decide +kernel
theorem dX11_take_244 : decode cX11_take 244 = .ok (.iconst 3, 1) := by decide +kernel
theorem dX11_take_245 : decode cX11_take 245 = .ok (.bipush 16, 2) := by decide +kernel
theorem dX11_take_247 : decode cX11_take 247 = .ok (.iload 6, 2) := by decide +kernel
theorem dX11_take_249 : decode cX11_take 249 = .ok (.iload_n 3, 1) := by decide +kernel
theorem dX11_take_250 : decode cX11_take 250 = .ok (.invokevirtual 548, 3) := by decide +kernel
theorem dX11_take_253 : decode cX11_take 253 = .ok (.aload_n 0, 1) := by decide +kernel
theorem dX11_take_254 : decode cX11_take 254 = .ok (.getfield 135, 3) := by decide +kernel
theorem dX11_take_257 : decode cX11_take 257 = .ok (.iload 5, 2) := by decide +kernel
theorem dX11_take_259 : decode cX11_take 259 = .ok (.dup2, 1) := by decide +kernel
theorem dX11_take_260 : decode cX11_take 260 = .ok (.iaload, 1) := by decide +kernel
theorem dX11_take_261 : decode cX11_take 261 = .ok (.iconst 1, 1) := by decide +kernel
theorem dX11_take_262 : decode cX11_take 262 = .ok (.iadd, 1) := by decide +kernel
theorem dX11_take_263 : decode cX11_take 263 = .ok (.iastore, 1) := by decide +kernel
theorem dX11_take_264 : decode cX11_take 264 = .ok (.iinc 6 1, 3) := by decide +kernel
theorem dX11_take_267 : decode cX11_take 267 = .ok (.goto (-71), 3) := by decide +kernel
theorem dX11_take_270 : decode cX11_take 270 = .ok (.aload_n 0, 1) := by decide +kernel
theorem dX11_take_271 : decode cX11_take 271 = .ok (.getfield 135, 3) := by decide +kernel
theorem dX11_take_274 : decode cX11_take 274 = .ok (.iload 5, 2) := by decide +kernel
theorem dX11_take_276 : decode cX11_take 276 = .ok (.iaload, 1) := by decide +kernel
theorem dX11_take_277 : decode cX11_take 277 = .ok (.ifCond .ne 9, 3) := by decide +kernel
theorem dX11_take_280 : decode cX11_take 280 = .ok (.aload_n 0, 1) := by decide +kernel
theorem dX11_take_281 : decode cX11_take 281 = .ok (.iload 5, 2) := by decide +kernel
theorem dX11_take_283 : decode cX11_take 283 = .ok (.invokevirtual 644, 3) := by decide +kernel
theorem dX11_take_286 : decode cX11_take 286 = .ok (.iconst 1, 1) := by decide +kernel
theorem dX11_take_287 : decode cX11_take 287 = .ok (.ireturn, 1) := by decide +kernel
theorem dX11_shares_0 : decode cX11_shares 0 = .ok (.aload_n 0, 1) := by decide +kernel
theorem dX11_shares_1 : decode cX11_shares 1 = .ok (.getfield 123, 3) := by decide +kernel
theorem dX11_shares_4 : decode cX11_shares 4 = .ok (.iload_n 1, 1) := by decide +kernel
theorem dX11_shares_5 : decode cX11_shares 5 = .ok (.iaload, 1) := by decide +kernel
theorem dX11_shares_6 : decode cX11_shares 6 = .ok (.iconst (-1), 1) := by decide +kernel
theorem dX11_shares_7 : decode cX11_shares 7 = .ok (.if_icmp .eq 27, 3) := by decide +kernel
theorem dX11_shares_10 : decode cX11_shares 10 = .ok (.aload_n 0, 1) := by decide +kernel
theorem dX11_shares_11 : decode cX11_shares 11 = .ok (.iconst 4, 1) := by decide +kernel
theorem dX11_shares_12 : decode cX11_shares 12 = .ok (.bipush 16, 2) := by decide +kernel
theorem dX11_shares_14 : decode cX11_shares 14 = .ok (.aload_n 0, 1) := by decide +kernel
theorem dX11_shares_15 : decode cX11_shares 15 = .ok (.getfield 123, 3) := by decide +kernel
theorem dX11_shares_18 : decode cX11_shares 18 = .ok (.iload_n 1, 1) := by decide +kernel
theorem dX11_shares_19 : decode cX11_shares 19 = .ok (.iaload, 1) := by decide +kernel
theorem dX11_shares_20 : decode cX11_shares 20 = .ok (.iload_n 3, 1) := by decide +kernel
theorem dX11_shares_21 : decode cX11_shares 21 = .ok (.invokevirtual 548, 3) := by decide +kernel
theorem dX11_shares_24 : decode cX11_shares 24 = .ok (.aload_n 0, 1) := by decide +kernel
theorem dX11_shares_25 : decode cX11_shares 25 = .ok (.getfield 135, 3) := by decide +kernel
theorem dX11_shares_28 : decode cX11_shares 28 = .ok (.iload_n 1, 1) := by decide +kernel
theorem dX11_shares_29 : decode cX11_shares 29 = .ok (.iconst 1, 1) := by decide +kernel
theorem dX11_shares_30 : decode cX11_shares 30 = .ok (.iastore, 1) := by decide +kernel
theorem dX11_shares_31 : decode cX11_shares 31 = .ok (.goto 50, 3) := by decide +kernel
theorem dX11_shares_34 : decode cX11_shares 34 = .ok (.aload_n 0, 1) := by decide +kernel
theorem dX11_shares_35 : decode cX11_shares 35 = .ok (.getfield 126, 3) := by decide +kernel
theorem dX11_shares_38 : decode cX11_shares 38 = .ok (.iload_n 1, 1) := by decide +kernel
theorem dX11_shares_39 : decode cX11_shares 39 = .ok (.iaload, 1) := by decide +kernel
theorem dX11_shares_40 : decode cX11_shares 40 = .ok (.ifCond .ne 21, 3) := by decide +kernel
theorem dX11_shares_43 : decode cX11_shares 43 = .ok (.aload_n 0, 1) := by decide +kernel
theorem dX11_shares_44 : decode cX11_shares 44 = .ok (.getfield 123, 3) := by decide +kernel
theorem dX11_shares_47 : decode cX11_shares 47 = .ok (.iload_n 1, 1) := by decide +kernel
theorem dX11_shares_48 : decode cX11_shares 48 = .ok (.iload_n 2, 1) := by decide +kernel
theorem dX11_shares_49 : decode cX11_shares 49 = .ok (.iastore, 1) := by decide +kernel
theorem dX11_shares_50 : decode cX11_shares 50 = .ok (.aload_n 0, 1) := by decide +kernel
theorem dX11_shares_51 : decode cX11_shares 51 = .ok (.bipush 7, 2) := by decide +kernel
theorem dX11_shares_53 : decode cX11_shares 53 = .ok (.iload_n 2, 1) := by decide +kernel
theorem dX11_shares_54 : decode cX11_shares 54 = .ok (.iload_n 3, 1) := by decide +kernel
theorem dX11_shares_55 : decode cX11_shares 55 = .ok (.invokevirtual 647, 3) := by decide +kernel
theorem dX11_shares_58 : decode cX11_shares 58 = .ok (.goto 23, 3) := by decide +kernel
theorem dX11_shares_61 : decode cX11_shares 61 = .ok (.aload_n 0, 1) := by decide +kernel
theorem dX11_shares_62 : decode cX11_shares 62 = .ok (.getfield 126, 3) := by decide +kernel
theorem dX11_shares_65 : decode cX11_shares 65 = .ok (.iload_n 1, 1) := by decide +kernel
theorem dX11_shares_66 : decode cX11_shares 66 = .ok (.dup2, 1) := by decide +kernel
theorem dX11_shares_67 : decode cX11_shares 67 = .ok (.iaload, 1) := by decide +kernel
theorem dX11_shares_68 : decode cX11_shares 68 = .ok (.iconst 1, 1) := by decide +kernel
theorem dX11_shares_69 : decode cX11_shares 69 = .ok (.iload_n 2, 1) := by decide +kernel
theorem dX11_shares_70 : decode cX11_shares 70 = .ok (.ishl, 1) := by decide +kernel
theorem dX11_shares_71 : decode cX11_shares 71 = .ok (.ior, 1) := by decide +kernel
theorem dX11_shares_72 : decode cX11_shares 72 = .ok (.iastore, 1) := by decide +kernel
theorem dX11_shares_73 : decode cX11_shares 73 = .ok (.aload_n 0, 1) := by decide +kernel
theorem dX11_shares_74 : decode cX11_shares 74 = .ok (.bipush 6, 2) := by decide +kernel
theorem dX11_shares_76 : decode cX11_shares 76 = .ok (.iload_n 2, 1) := by decide +kernel
theorem dX11_shares_77 : decode cX11_shares 77 = .ok (.iload_n 3, 1) := by decide +kernel
theorem dX11_shares_78 : decode cX11_shares 78 = .ok (.invokevirtual 647, 3) := by decide +kernel
theorem dX11_shares_81 : decode cX11_shares 81 = .ok (.return_, 1) := by decide +kernel
theorem dX11_lend_0 : decode cX11_lend 0 = .ok (.aload_n 0, 1) := by decide +kernel
theorem dX11_lend_1 : decode cX11_lend 1 = .ok (.getfield 123, 3) := by decide +kernel
theorem dX11_lend_4 : decode cX11_lend 4 = .ok (.iload_n 1, 1) := by decide +kernel
theorem dX11_lend_5 : decode cX11_lend 5 = .ok (.aload_n 0, 1) := by decide +kernel
theorem dX11_lend_6 : decode cX11_lend 6 = .ok (.getfield 129, 3) := by decide +kernel
theorem dX11_lend_9 : decode cX11_lend 9 = .ok (.iload_n 1, 1) := by decide +kernel
theorem dX11_lend_10 : decode cX11_lend 10 = .ok (.iaload, 1) := by decide +kernel
theorem dX11_lend_11 : decode cX11_lend 11 = .ok (.iastore, 1) := by decide +kernel
theorem dX11_lend_12 : decode cX11_lend 12 = .ok (.aload_n 0, 1) := by decide +kernel
theorem dX11_lend_13 : decode cX11_lend 13 = .ok (.getfield 126, 3) := by decide +kernel
theorem dX11_lend_16 : decode cX11_lend 16 = .ok (.iload_n 1, 1) := by decide +kernel
theorem dX11_lend_17 : decode cX11_lend 17 = .ok (.iconst 0, 1) := by decide +kernel
theorem dX11_lend_18 : decode cX11_lend 18 = .ok (.iastore, 1) := by decide +kernel
theorem dX11_lend_19 : decode cX11_lend 19 = .ok (.aload_n 0, 1) := by decide +kernel
theorem dX11_lend_20 : decode cX11_lend 20 = .ok (.bipush 8, 2) := by decide +kernel
theorem dX11_lend_22 : decode cX11_lend 22 = .ok (.aload_n 0, 1) := by decide +kernel
theorem dX11_lend_23 : decode cX11_lend 23 = .ok (.getfield 129, 3) := by decide +kernel
theorem dX11_lend_26 : decode cX11_lend 26 = .ok (.iload_n 1, 1) := by decide +kernel
theorem dX11_lend_27 : decode cX11_lend 27 = .ok (.iaload, 1) := by decide +kernel
theorem dX11_lend_28 : decode cX11_lend 28 = .ok (.aload_n 0, 1) := by decide +kernel
theorem dX11_lend_29 : decode cX11_lend 29 = .ok (.getfield 114, 3) := by decide +kernel
theorem dX11_lend_32 : decode cX11_lend 32 = .ok (.iload_n 1, 1) := by decide +kernel
theorem dX11_lend_33 : decode cX11_lend 33 = .ok (.iaload, 1) := by decide +kernel
theorem dX11_lend_34 : decode cX11_lend 34 = .ok (.invokevirtual 647, 3) := by decide +kernel
theorem dX11_lend_37 : decode cX11_lend 37 = .ok (.return_, 1) := by decide +kernel
theorem dX11_goOn_0 : decode cX11_goOn 0 = .ok (.iconst 1, 1) := by decide +kernel
theorem dX11_goOn_1 : decode cX11_goOn 1 = .ok (.istore_n 2, 1) := by decide +kernel
theorem dX11_goOn_2 : decode cX11_goOn 2 = .ok (.iload_n 2, 1) := by decide +kernel
theorem dX11_goOn_3 : decode cX11_goOn 3 = .ok (.ifCond .eq 158, 3) := by decide +kernel
theorem dX11_goOn_6 : decode cX11_goOn 6 = .ok (.iconst 0, 1) := by decide +kernel
theorem dX11_goOn_7 : decode cX11_goOn 7 = .ok (.istore_n 3, 1) := by decide +kernel
theorem dX11_goOn_8 : decode cX11_goOn 8 = .ok (.iload_n 3, 1) := by decide +kernel
theorem dX11_goOn_9 : decode cX11_goOn 9 = .ok (.aload_n 0, 1) := by decide +kernel
theorem dX11_goOn_10 : decode cX11_goOn 10 = .ok (.getfield 313, 3) := by decide +kernel
theorem dX11_goOn_13 : decode cX11_goOn 13 = .ok (.if_icmp .ge 29, 3) := by decide +kernel
theorem dX11_goOn_16 : decode cX11_goOn 16 = .ok (.aload_n 0, 1) := by decide +kernel
theorem dX11_goOn_17 : decode cX11_goOn 17 = .ok (.getfield 141, 3) := by decide +kernel
theorem dX11_goOn_20 : decode cX11_goOn 20 = .ok (.bipush 7, 2) := by decide +kernel
theorem dX11_goOn_22 : decode cX11_goOn 22 = .ok (.iload_n 3, 1) := by decide +kernel
theorem dX11_goOn_23 : decode cX11_goOn 23 = .ok (.imul, 1) := by decide +kernel
theorem dX11_goOn_24 : decode cX11_goOn 24 = .ok (.iaload, 1) := by decide +kernel
theorem dX11_goOn_25 : decode cX11_goOn 25 = .ok (.aload_n 0, 1) := by decide +kernel
theorem dX11_goOn_26 : decode cX11_goOn 26 = .ok (.getfield 47, 3) := by decide +kernel
theorem dX11_goOn_29 : decode cX11_goOn 29 = .ok (.iconst 4, 1) := by decide +kernel
theorem dX11_goOn_30 : decode cX11_goOn 30 = .ok (.iaload, 1) := by decide +kernel
theorem dX11_goOn_31 : decode cX11_goOn 31 = .ok (.irem, 1) := by decide +kernel
theorem dX11_goOn_32 : decode cX11_goOn 32 = .ok (.iload_n 1, 1) := by decide +kernel
theorem dX11_goOn_33 : decode cX11_goOn 33 = .ok (.if_icmp .eq 9, 3) := by decide +kernel
theorem dX11_goOn_36 : decode cX11_goOn 36 = .ok (.iinc 3 1, 3) := by decide +kernel
theorem dX11_goOn_39 : decode cX11_goOn 39 = .ok (.goto (-31), 3) := by decide +kernel
theorem dX11_goOn_42 : decode cX11_goOn 42 = .ok (.iload_n 3, 1) := by decide +kernel
theorem dX11_goOn_43 : decode cX11_goOn 43 = .ok (.aload_n 0, 1) := by decide +kernel
theorem dX11_goOn_44 : decode cX11_goOn 44 = .ok (.getfield 313, 3) := by decide +kernel
theorem dX11_goOn_47 : decode cX11_goOn 47 = .ok (.if_icmp .ge 51, 3) := by decide +kernel
theorem dX11_goOn_50 : decode cX11_goOn 50 = .ok (.aload_n 0, 1) := by decide +kernel
theorem dX11_goOn_51 : decode cX11_goOn 51 = .ok (.aload_n 0, 1) := by decide +kernel
theorem dX11_goOn_52 : decode cX11_goOn 52 = .ok (.getfield 141, 3) := by decide +kernel
theorem dX11_goOn_55 : decode cX11_goOn 55 = .ok (.bipush 7, 2) := by decide +kernel
theorem dX11_goOn_57 : decode cX11_goOn 57 = .ok (.iload_n 3, 1) := by decide +kernel
theorem dX11_goOn_58 : decode cX11_goOn 58 = .ok (.imul, 1) := by decide +kernel
theorem dX11_goOn_59 : decode cX11_goOn 59 = .ok (.iconst 1, 1) := by decide +kernel
theorem dX11_goOn_60 : decode cX11_goOn 60 = .ok (.iadd, 1) := by decide +kernel
theorem dX11_goOn_61 : decode cX11_goOn 61 = .ok (.iaload, 1) := by decide +kernel
theorem dX11_goOn_62 : decode cX11_goOn 62 = .ok (.aload_n 0, 1) := by decide +kernel
theorem dX11_goOn_63 : decode cX11_goOn 63 = .ok (.getfield 141, 3) := by decide +kernel
theorem dX11_goOn_66 : decode cX11_goOn 66 = .ok (.bipush 7, 2) := by decide +kernel
theorem dX11_goOn_68 : decode cX11_goOn 68 = .ok (.iload_n 3, 1) := by decide +kernel
theorem dX11_goOn_69 : decode cX11_goOn 69 = .ok (.imul, 1) := by decide +kernel
theorem dX11_goOn_70 : decode cX11_goOn 70 = .ok (.iconst 2, 1) := by decide +kernel
theorem dX11_goOn_71 : decode cX11_goOn 71 = .ok (.iadd, 1) := by decide +kernel
theorem dX11_goOn_72 : decode cX11_goOn 72 = .ok (.iaload, 1) := by decide +kernel
theorem dX11_goOn_73 : decode cX11_goOn 73 = .ok (.aload_n 0, 1) := by decide +kernel
theorem dX11_goOn_74 : decode cX11_goOn 74 = .ok (.getfield 141, 3) := by decide +kernel
theorem dX11_goOn_77 : decode cX11_goOn 77 = .ok (.bipush 7, 2) := by decide +kernel
theorem dX11_goOn_79 : decode cX11_goOn 79 = .ok (.iload_n 3, 1) := by decide +kernel
theorem dX11_goOn_80 : decode cX11_goOn 80 = .ok (.imul, 1) := by decide +kernel
theorem dX11_goOn_81 : decode cX11_goOn 81 = .ok (.iaload, 1) := by decide +kernel
theorem dX11_goOn_82 : decode cX11_goOn 82 = .ok (.bipush 7, 2) := by decide +kernel
theorem dX11_goOn_84 : decode cX11_goOn 84 = .ok (.iload_n 3, 1) := by decide +kernel
theorem dX11_goOn_85 : decode cX11_goOn 85 = .ok (.imul, 1) := by decide +kernel
theorem dX11_goOn_86 : decode cX11_goOn 86 = .ok (.iconst 3, 1) := by decide +kernel
theorem dX11_goOn_87 : decode cX11_goOn 87 = .ok (.iadd, 1) := by decide +kernel
theorem dX11_goOn_88 : decode cX11_goOn 88 = .ok (.invokevirtual 650, 3) := by decide +kernel
theorem dX11_goOn_91 : decode cX11_goOn 91 = .ok (.ifCond .eq 7, 3) := by decide +kernel
theorem dX11_goOn_94 : decode cX11_goOn 94 = .ok (.iconst 1, 1) := by decide +kernel
theorem dX11_goOn_95 : decode cX11_goOn 95 = .ok (.goto 4, 3) := by decide +kernel
theorem dX11_goOn_98 : decode cX11_goOn 98 = .ok (.iconst 0, 1) := by decide +kernel
theorem dX11_goOn_99 : decode cX11_goOn 99 = .ok (.istore_n 2, 1) := by decide +kernel
theorem dX11_goOn_100 : decode cX11_goOn 100 = .ok (.iload_n 2, 1) := by decide +kernel
theorem dX11_goOn_101 : decode cX11_goOn 101 = .ok (.ifCond .ne 6, 3) := by decide +kernel
theorem dX11_goOn_104 : decode cX11_goOn 104 = .ok (.goto (-102), 3) := by decide +kernel
theorem dX11_goOn_107 : decode cX11_goOn 107 = .ok (.aload_n 0, 1) := by decide +kernel
theorem dX11_goOn_108 : decode cX11_goOn 108 = .ok (.dup, 1) := by decide +kernel
theorem dX11_goOn_109 : decode cX11_goOn 109 = .ok (.getfield 313, 3) := by decide +kernel
theorem dX11_goOn_112 : decode cX11_goOn 112 = .ok (.iconst 1, 1) := by decide +kernel
theorem dX11_goOn_113 : decode cX11_goOn 113 = .ok (.isub, 1) := by decide +kernel
theorem dX11_goOn_114 : decode cX11_goOn 114 = .ok (.putfield 313, 3) := by decide +kernel
theorem dX11_goOn_117 : decode cX11_goOn 117 = .ok (.bipush 7, 2) := by decide +kernel
theorem dX11_goOn_119 : decode cX11_goOn 119 = .ok (.iload_n 3, 1) := by decide +kernel
theorem dX11_goOn_120 : decode cX11_goOn 120 = .ok (.imul, 1) := by decide +kernel
theorem dX11_goOn_121 : decode cX11_goOn 121 = .ok (.istore 4, 2) := by decide +kernel
theorem dX11_goOn_123 : decode cX11_goOn 123 = .ok (.iload 4, 2) := by decide +kernel
theorem dX11_goOn_125 : decode cX11_goOn 125 = .ok (.bipush 7, 2) := by decide +kernel
theorem dX11_goOn_127 : decode cX11_goOn 127 = .ok (.aload_n 0, 1) := by decide +kernel
theorem dX11_goOn_128 : decode cX11_goOn 128 = .ok (.getfield 313, 3) := by decide +kernel
theorem dX11_goOn_131 : decode cX11_goOn 131 = .ok (.imul, 1) := by decide +kernel
theorem dX11_goOn_132 : decode cX11_goOn 132 = .ok (.if_icmp .ge 26, 3) := by decide +kernel
theorem dX11_goOn_135 : decode cX11_goOn 135 = .ok (.aload_n 0, 1) := by decide +kernel
theorem dX11_goOn_136 : decode cX11_goOn 136 = .ok (.getfield 141, 3) := by decide +kernel
theorem dX11_goOn_139 : decode cX11_goOn 139 = .ok (.iload 4, 2) := by decide +kernel
theorem dX11_goOn_141 : decode cX11_goOn 141 = .ok (.aload_n 0, 1) := by decide +kernel
theorem dX11_goOn_142 : decode cX11_goOn 142 = .ok (.getfield 141, 3) := by decide +kernel
theorem dX11_goOn_145 : decode cX11_goOn 145 = .ok (.iload 4, 2) := by decide +kernel
theorem dX11_goOn_147 : decode cX11_goOn 147 = .ok (.bipush 7, 2) := by decide +kernel
theorem dX11_goOn_149 : decode cX11_goOn 149 = .ok (.iadd, 1) := by decide +kernel
theorem dX11_goOn_150 : decode cX11_goOn 150 = .ok (.iaload, 1) := by decide +kernel
theorem dX11_goOn_151 : decode cX11_goOn 151 = .ok (.iastore, 1) := by decide +kernel
theorem dX11_goOn_152 : decode cX11_goOn 152 = .ok (.iinc 4 1, 3) := by decide +kernel
theorem dX11_goOn_155 : decode cX11_goOn 155 = .ok (.goto (-32), 3) := by decide +kernel
theorem dX11_goOn_158 : decode cX11_goOn 158 = .ok (.goto (-156), 3) := by decide +kernel
theorem dX11_goOn_161 : decode cX11_goOn 161 = .ok (.return_, 1) := by decide +kernel
theorem dX11_ack_0 : decode cX11_ack 0 = .ok (.aload_n 0, 1) := by decide +kernel
theorem dX11_ack_1 : decode cX11_ack 1 = .ok (.iload_n 1, 1) := by decide +kernel
theorem dX11_ack_2 : decode cX11_ack 2 = .ok (.invokevirtual 632, 3) := by decide +kernel
theorem dX11_ack_5 : decode cX11_ack 5 = .ok (.istore_n 2, 1) := by decide +kernel
theorem dX11_ack_6 : decode cX11_ack 6 = .ok (.aload_n 0, 1) := by decide +kernel
theorem dX11_ack_7 : decode cX11_ack 7 = .ok (.getfield 300, 3) := by decide +kernel
theorem dX11_ack_10 : decode cX11_ack 10 = .ok (.iconst 4, 1) := by decide +kernel
theorem dX11_ack_11 : decode cX11_ack 11 = .ok (.iaload, 1) := by decide +kernel
theorem dX11_ack_12 : decode cX11_ack 12 = .ok (.iconst 1, 1) := by decide +kernel
theorem dX11_ack_13 : decode cX11_ack 13 = .ok (.if_icmp .ne 41, 3) := by decide +kernel
theorem dX11_ack_16 : decode cX11_ack 16 = .ok (.iconst 0, 1) := by decide +kernel
theorem dX11_ack_17 : decode cX11_ack 17 = .ok (.istore_n 3, 1) := by decide +kernel
theorem dX11_ack_18 : decode cX11_ack 18 = .ok (.iload_n 3, 1) := by decide +kernel
theorem dX11_ack_19 : decode cX11_ack 19 = .ok (.iconst 4, 1) := by decide +kernel
theorem dX11_ack_20 : decode cX11_ack 20 = .ok (.if_icmp .ge 27, 3) := by decide +kernel
theorem dX11_ack_23 : decode cX11_ack 23 = .ok (.aload_n 0, 1) := by decide +kernel
theorem dX11_ack_24 : decode cX11_ack 24 = .ok (.getfield 117, 3) := by decide +kernel
theorem dX11_ack_27 : decode cX11_ack 27 = .ok (.iconst 4, 1) := by decide +kernel
theorem dX11_ack_28 : decode cX11_ack 28 = .ok (.iload_n 2, 1) := by decide +kernel
theorem dX11_ack_29 : decode cX11_ack 29 = .ok (.imul, 1) := by decide +kernel
theorem dX11_ack_30 : decode cX11_ack 30 = .ok (.iload_n 3, 1) := by decide +kernel
theorem dX11_ack_31 : decode cX11_ack 31 = .ok (.iadd, 1) := by decide +kernel
theorem dX11_ack_32 : decode cX11_ack 32 = .ok (.aload_n 0, 1) := by decide +kernel
theorem dX11_ack_33 : decode cX11_ack 33 = .ok (.getfield 300, 3) := by decide +kernel
theorem dX11_ack_36 : decode cX11_ack 36 = .ok (.iconst 5, 1) := by decide +kernel
theorem dX11_ack_37 : decode cX11_ack 37 = .ok (.iload_n 3, 1) := by decide +kernel
theorem dX11_ack_38 : decode cX11_ack 38 = .ok (.iadd, 1) := by decide +kernel
theorem dX11_ack_39 : decode cX11_ack 39 = .ok (.iaload, 1) := by decide +kernel
theorem dX11_ack_40 : decode cX11_ack 40 = .ok (.iastore, 1) := by decide +kernel
theorem dX11_ack_41 : decode cX11_ack 41 = .ok (.iinc 3 1, 3) := by decide +kernel
theorem dX11_ack_44 : decode cX11_ack 44 = .ok (.goto (-26), 3) := by decide +kernel
theorem dX11_ack_47 : decode cX11_ack 47 = .ok (.aload_n 0, 1) := by decide +kernel
theorem dX11_ack_48 : decode cX11_ack 48 = .ok (.getfield 120, 3) := by decide +kernel
theorem dX11_ack_51 : decode cX11_ack 51 = .ok (.iload_n 2, 1) := by decide +kernel
theorem dX11_ack_52 : decode cX11_ack 52 = .ok (.iconst 1, 1) := by decide +kernel
theorem dX11_ack_53 : decode cX11_ack 53 = .ok (.bastore, 1) := by decide +kernel
theorem dX11_ack_54 : decode cX11_ack 54 = .ok (.aload_n 0, 1) := by decide +kernel
theorem dX11_ack_55 : decode cX11_ack 55 = .ok (.getfield 135, 3) := by decide +kernel
theorem dX11_ack_58 : decode cX11_ack 58 = .ok (.iload_n 2, 1) := by decide +kernel
theorem dX11_ack_59 : decode cX11_ack 59 = .ok (.dup2, 1) := by decide +kernel
theorem dX11_ack_60 : decode cX11_ack 60 = .ok (.iaload, 1) := by decide +kernel
theorem dX11_ack_61 : decode cX11_ack 61 = .ok (.iconst 1, 1) := by decide +kernel
theorem dX11_ack_62 : decode cX11_ack 62 = .ok (.isub, 1) := by decide +kernel
theorem dX11_ack_63 : decode cX11_ack 63 = .ok (.iastore, 1) := by decide +kernel
theorem dX11_ack_64 : decode cX11_ack 64 = .ok (.aload_n 0, 1) := by decide +kernel
theorem dX11_ack_65 : decode cX11_ack 65 = .ok (.getfield 135, 3) := by decide +kernel
theorem dX11_ack_68 : decode cX11_ack 68 = .ok (.iload_n 2, 1) := by decide +kernel
theorem dX11_ack_69 : decode cX11_ack 69 = .ok (.iaload, 1) := by decide +kernel
theorem dX11_ack_70 : decode cX11_ack 70 = .ok (.ifCond .le 4, 3) := by decide +kernel
theorem dX11_ack_73 : decode cX11_ack 73 = .ok (.return_, 1) := by decide +kernel
theorem dX11_ack_74 : decode cX11_ack 74 = .ok (.aload_n 0, 1) := by decide +kernel
theorem dX11_ack_75 : decode cX11_ack 75 = .ok (.getfield 129, 3) := by decide +kernel
theorem dX11_ack_78 : decode cX11_ack 78 = .ok (.iload_n 2, 1) := by decide +kernel
theorem dX11_ack_79 : decode cX11_ack 79 = .ok (.iaload, 1) := by decide +kernel
theorem dX11_ack_80 : decode cX11_ack 80 = .ok (.bipush 16, 2) := by decide +kernel
theorem dX11_ack_82 : decode cX11_ack 82 = .ok (.if_icmp .ne 51, 3) := by decide +kernel
theorem dX11_ack_85 : decode cX11_ack 85 = .ok (.aload_n 0, 1) := by decide +kernel
theorem dX11_ack_86 : decode cX11_ack 86 = .ok (.iload_n 2, 1) := by decide +kernel
theorem dX11_ack_87 : decode cX11_ack 87 = .ok (.invokevirtual 629, 3) := by decide +kernel
theorem dX11_ack_90 : decode cX11_ack 90 = .ok (.aload_n 0, 1) := by decide +kernel
theorem dX11_ack_91 : decode cX11_ack 91 = .ok (.getfield 114, 3) := by decide +kernel
theorem dX11_ack_94 : decode cX11_ack 94 = .ok (.iload_n 2, 1) := by decide +kernel
theorem dX11_ack_95 : decode cX11_ack 95 = .ok (.iconst (-1), 1) := by decide +kernel
theorem dX11_ack_96 : decode cX11_ack 96 = .ok (.iastore, 1) := by decide +kernel
theorem dX11_ack_97 : decode cX11_ack 97 = .ok (.aload_n 0, 1) := by decide +kernel
theorem dX11_ack_98 : decode cX11_ack 98 = .ok (.getfield 129, 3) := by decide +kernel
theorem dX11_ack_101 : decode cX11_ack 101 = .ok (.iload_n 2, 1) := by decide +kernel
theorem dX11_ack_102 : decode cX11_ack 102 = .ok (.iconst (-1), 1) := by decide +kernel
theorem dX11_ack_103 : decode cX11_ack 103 = .ok (.iastore, 1) := by decide +kernel
theorem dX11_ack_104 : decode cX11_ack 104 = .ok (.aload_n 0, 1) := by decide +kernel
theorem dX11_ack_105 : decode cX11_ack 105 = .ok (.getfield 123, 3) := by decide +kernel
theorem dX11_ack_108 : decode cX11_ack 108 = .ok (.iload_n 2, 1) := by decide +kernel
theorem dX11_ack_109 : decode cX11_ack 109 = .ok (.iconst (-1), 1) := by decide +kernel
theorem dX11_ack_110 : decode cX11_ack 110 = .ok (.iastore, 1) := by decide +kernel
theorem dX11_ack_111 : decode cX11_ack 111 = .ok (.aload_n 0, 1) := by decide +kernel
theorem dX11_ack_112 : decode cX11_ack 112 = .ok (.getfield 126, 3) := by decide +kernel
theorem dX11_ack_115 : decode cX11_ack 115 = .ok (.iload_n 2, 1) := by decide +kernel
theorem dX11_ack_116 : decode cX11_ack 116 = .ok (.iconst 0, 1) := by decide +kernel
theorem dX11_ack_117 : decode cX11_ack 117 = .ok (.iastore, 1) := by decide +kernel
theorem dX11_ack_118 : decode cX11_ack 118 = .ok (.aload_n 0, 1) := by decide +kernel
theorem dX11_ack_119 : decode cX11_ack 119 = .ok (.iload_n 1, 1) := by decide +kernel
theorem dX11_ack_120 : decode cX11_ack 120 = .ok (.aload_n 0, 1) := by decide +kernel
theorem dX11_ack_121 : decode cX11_ack 121 = .ok (.getfield 47, 3) := by decide +kernel
theorem dX11_ack_124 : decode cX11_ack 124 = .ok (.iconst 4, 1) := by decide +kernel
theorem dX11_ack_125 : decode cX11_ack 125 = .ok (.iaload, 1) := by decide +kernel
theorem dX11_ack_126 : decode cX11_ack 126 = .ok (.irem, 1) := by decide +kernel
theorem dX11_ack_127 : decode cX11_ack 127 = .ok (.invokevirtual 654, 3) := by decide +kernel
theorem dX11_ack_130 : decode cX11_ack 130 = .ok (.goto 64, 3) := by decide +kernel
theorem dX11_ack_133 : decode cX11_ack 133 = .ok (.aload_n 0, 1) := by decide +kernel
theorem dX11_ack_134 : decode cX11_ack 134 = .ok (.getfield 132, 3) := by decide +kernel
theorem dX11_ack_137 : decode cX11_ack 137 = .ok (.iload_n 2, 1) := by decide +kernel
theorem dX11_ack_138 : decode cX11_ack 138 = .ok (.iaload, 1) := by decide +kernel
theorem dX11_ack_139 : decode cX11_ack 139 = .ok (.iconst 1, 1) := by decide +kernel
theorem dX11_ack_140 : decode cX11_ack 140 = .ok (.if_icmp .ne 11, 3) := by decide +kernel
theorem dX11_ack_143 : decode cX11_ack 143 = .ok (.aload_n 0, 1) := by decide +kernel
theorem dX11_ack_144 : decode cX11_ack 144 = .ok (.iload_n 2, 1) := by decide +kernel
theorem dX11_ack_145 : decode cX11_ack 145 = .ok (.invokevirtual 644, 3) := by decide +kernel
theorem dX11_ack_148 : decode cX11_ack 148 = .ok (.goto 46, 3) := by decide +kernel
theorem dX11_ack_151 : decode cX11_ack 151 = .ok (.aload_n 0, 1) := by decide +kernel
theorem dX11_ack_152 : decode cX11_ack 152 = .ok (.getfield 126, 3) := by decide +kernel
theorem dX11_ack_155 : decode cX11_ack 155 = .ok (.iload_n 2, 1) := by decide +kernel
theorem dX11_ack_156 : decode cX11_ack 156 = .ok (.iconst 1, 1) := by decide +kernel
theorem dX11_ack_157 : decode cX11_ack 157 = .ok (.aload_n 0, 1) := by decide +kernel
theorem dX11_ack_158 : decode cX11_ack 158 = .ok (.getfield 123, 3) := by decide +kernel
theorem dX11_ack_161 : decode cX11_ack 161 = .ok (.iload_n 2, 1) := by decide +kernel
theorem dX11_ack_162 : decode cX11_ack 162 = .ok (.iaload, 1) := by decide +kernel
theorem dX11_ack_163 : decode cX11_ack 163 = .ok (.ishl, 1) := by decide +kernel
theorem dX11_ack_164 : decode cX11_ack 164 = .ok (.iconst 1, 1) := by decide +kernel
theorem dX11_ack_165 : decode cX11_ack 165 = .ok (.aload_n 0, 1) := by decide +kernel
theorem dX11_ack_166 : decode cX11_ack 166 = .ok (.getfield 129, 3) := by decide +kernel
theorem dX11_ack_169 : decode cX11_ack 169 = .ok (.iload_n 2, 1) := by decide +kernel
theorem dX11_ack_170 : decode cX11_ack 170 = .ok (.iaload, 1) := by decide +kernel
theorem dX11_ack_171 : decode cX11_ack 171 = .ok (.ishl, 1) := by decide +kernel
theorem dX11_ack_172 : decode cX11_ack 172 = .ok (.ior, 1) := by decide +kernel
theorem dX11_ack_173 : decode cX11_ack 173 = .ok (.iastore, 1) := by decide +kernel
theorem dX11_ack_174 : decode cX11_ack 174 = .ok (.aload_n 0, 1) := by decide +kernel
theorem dX11_ack_175 : decode cX11_ack 175 = .ok (.getfield 123, 3) := by decide +kernel
theorem dX11_ack_178 : decode cX11_ack 178 = .ok (.iload_n 2, 1) := by decide +kernel
theorem dX11_ack_179 : decode cX11_ack 179 = .ok (.iconst (-1), 1) := by decide +kernel
theorem dX11_ack_180 : decode cX11_ack 180 = .ok (.iastore, 1) := by decide +kernel
theorem dX11_ack_181 : decode cX11_ack 181 = .ok (.aload_n 0, 1) := by decide +kernel
theorem dX11_ack_182 : decode cX11_ack 182 = .ok (.bipush 6, 2) := by decide +kernel
theorem dX11_ack_184 : decode cX11_ack 184 = .ok (.aload_n 0, 1) := by decide +kernel
theorem dX11_ack_185 : decode cX11_ack 185 = .ok (.getfield 129, 3) := by decide +kernel
theorem dX11_ack_188 : decode cX11_ack 188 = .ok (.iload_n 2, 1) := by decide +kernel
theorem dX11_ack_189 : decode cX11_ack 189 = .ok (.iaload, 1) := by decide +kernel
theorem dX11_ack_190 : decode cX11_ack 190 = .ok (.iload_n 1, 1) := by decide +kernel
theorem dX11_ack_191 : decode cX11_ack 191 = .ok (.invokevirtual 647, 3) := by decide +kernel
theorem dX11_ack_194 : decode cX11_ack 194 = .ok (.return_, 1) := by decide +kernel
theorem dX11_atHome_0 : decode cX11_atHome 0 = .ok (.aload_n 0, 1) := by decide +kernel
theorem dX11_atHome_1 : decode cX11_atHome 1 = .ok (.getfield 300, 3) := by decide +kernel
theorem dX11_atHome_4 : decode cX11_atHome 4 = .ok (.iconst 3, 1) := by decide +kernel
theorem dX11_atHome_5 : decode cX11_atHome 5 = .ok (.iaload, 1) := by decide +kernel
theorem dX11_atHome_6 : decode cX11_atHome 6 = .ok (.istore_n 1, 1) := by decide +kernel
theorem dX11_atHome_7 : decode cX11_atHome 7 = .ok (.aload_n 0, 1) := by decide +kernel
theorem dX11_atHome_8 : decode cX11_atHome 8 = .ok (.getfield 300, 3) := by decide +kernel
theorem dX11_atHome_11 : decode cX11_atHome 11 = .ok (.iconst 0, 1) := by decide +kernel
theorem dX11_atHome_12 : decode cX11_atHome 12 = .ok (.iaload, 1) := by decide +kernel
theorem dX11_atHome_13 : decode cX11_atHome 13 = .ok (.iconst 5, 1) := by decide +kernel
theorem dX11_atHome_14 : decode cX11_atHome 14 = .ok (.if_icmp .ne 11, 3) := by decide +kernel
theorem dX11_atHome_17 : decode cX11_atHome 17 = .ok (.aload_n 0, 1) := by decide +kernel
theorem dX11_atHome_18 : decode cX11_atHome 18 = .ok (.iload_n 1, 1) := by decide +kernel
theorem dX11_atHome_19 : decode cX11_atHome 19 = .ok (.invokevirtual 657, 3) := by decide +kernel
theorem dX11_atHome_22 : decode cX11_atHome 22 = .ok (.goto 152, 3) := by decide +kernel
theorem dX11_atHome_25 : decode cX11_atHome 25 = .ok (.aload_n 0, 1) := by decide +kernel
theorem dX11_atHome_26 : decode cX11_atHome 26 = .ok (.getfield 300, 3) := by decide +kernel
theorem dX11_atHome_29 : decode cX11_atHome 29 = .ok (.iconst 0, 1) := by decide +kernel
theorem dX11_atHome_30 : decode cX11_atHome 30 = .ok (.iaload, 1) := by decide +kernel
theorem dX11_atHome_31 : decode cX11_atHome 31 = .ok (.bipush 10, 2) := by decide +kernel
theorem dX11_atHome_33 : decode cX11_atHome 33 = .ok (.if_icmp .ne 29, 3) := by decide +kernel
theorem dX11_atHome_36 : decode cX11_atHome 36 = .ok (.aload_n 0, 1) := by decide +kernel
theorem dX11_atHome_37 : decode cX11_atHome 37 = .ok (.getfield 129, 3) := by decide +kernel
theorem dX11_atHome_40 : decode cX11_atHome 40 = .ok (.aload_n 0, 1) := by decide +kernel
theorem dX11_atHome_41 : decode cX11_atHome 41 = .ok (.iload_n 1, 1) := by decide +kernel
theorem dX11_atHome_42 : decode cX11_atHome 42 = .ok (.invokevirtual 632, 3) := by decide +kernel
theorem dX11_atHome_45 : decode cX11_atHome 45 = .ok (.iconst (-1), 1) := by decide +kernel
theorem dX11_atHome_46 : decode cX11_atHome 46 = .ok (.iastore, 1) := by decide +kernel
theorem dX11_atHome_47 : decode cX11_atHome 47 = .ok (.aload_n 0, 1) := by decide +kernel
theorem dX11_atHome_48 : decode cX11_atHome 48 = .ok (.iload_n 1, 1) := by decide +kernel
theorem dX11_atHome_49 : decode cX11_atHome 49 = .ok (.aload_n 0, 1) := by decide +kernel
theorem dX11_atHome_50 : decode cX11_atHome 50 = .ok (.getfield 47, 3) := by decide +kernel
theorem dX11_atHome_53 : decode cX11_atHome 53 = .ok (.iconst 4, 1) := by decide +kernel
theorem dX11_atHome_54 : decode cX11_atHome 54 = .ok (.iaload, 1) := by decide +kernel
theorem dX11_atHome_55 : decode cX11_atHome 55 = .ok (.irem, 1) := by decide +kernel
theorem dX11_atHome_56 : decode cX11_atHome 56 = .ok (.invokevirtual 654, 3) := by decide +kernel
theorem dX11_atHome_59 : decode cX11_atHome 59 = .ok (.goto 115, 3) := by decide +kernel
theorem dX11_atHome_62 : decode cX11_atHome 62 = .ok (.aload_n 0, 1) := by decide +kernel
theorem dX11_atHome_63 : decode cX11_atHome 63 = .ok (.getfield 141, 3) := by decide +kernel
theorem dX11_atHome_66 : decode cX11_atHome 66 = .ok (.bipush 7, 2) := by decide +kernel
theorem dX11_atHome_68 : decode cX11_atHome 68 = .ok (.aload_n 0, 1) := by decide +kernel
theorem dX11_atHome_69 : decode cX11_atHome 69 = .ok (.getfield 313, 3) := by decide +kernel
theorem dX11_atHome_72 : decode cX11_atHome 72 = .ok (.imul, 1) := by decide +kernel
theorem dX11_atHome_73 : decode cX11_atHome 73 = .ok (.iload_n 1, 1) := by decide +kernel
theorem dX11_atHome_74 : decode cX11_atHome 74 = .ok (.iastore, 1) := by decide +kernel
theorem dX11_atHome_75 : decode cX11_atHome 75 = .ok (.aload_n 0, 1) := by decide +kernel
theorem dX11_atHome_76 : decode cX11_atHome 76 = .ok (.getfield 141, 3) := by decide +kernel
theorem dX11_atHome_79 : decode cX11_atHome 79 = .ok (.bipush 7, 2) := by decide +kernel
theorem dX11_atHome_81 : decode cX11_atHome 81 = .ok (.aload_n 0, 1) := by decide +kernel
theorem dX11_atHome_82 : decode cX11_atHome 82 = .ok (.getfield 313, 3) := by decide +kernel
theorem dX11_atHome_85 : decode cX11_atHome 85 = .ok (.imul, 1) := by decide +kernel
theorem dX11_atHome_86 : decode cX11_atHome 86 = .ok (.iconst 1, 1) := by decide +kernel
theorem dX11_atHome_87 : decode cX11_atHome 87 = .ok (.iadd, 1) := by decide +kernel
theorem dX11_atHome_88 : decode cX11_atHome 88 = .ok (.aload_n 0, 1) := by decide +kernel
theorem dX11_atHome_89 : decode cX11_atHome 89 = .ok (.getfield 300, 3) := by decide +kernel
theorem dX11_atHome_92 : decode cX11_atHome 92 = .ok (.iconst 0, 1) := by decide +kernel
theorem dX11_atHome_93 : decode cX11_atHome 93 = .ok (.iaload, 1) := by decide +kernel
theorem dX11_atHome_94 : decode cX11_atHome 94 = .ok (.iastore, 1) := by decide +kernel
theorem dX11_atHome_95 : decode cX11_atHome 95 = .ok (.aload_n 0, 1) := by decide +kernel
theorem dX11_atHome_96 : decode cX11_atHome 96 = .ok (.getfield 141, 3) := by decide +kernel
theorem dX11_atHome_99 : decode cX11_atHome 99 = .ok (.bipush 7, 2) := by decide +kernel
theorem dX11_atHome_101 : decode cX11_atHome 101 = .ok (.aload_n 0, 1) := by decide +kernel
theorem dX11_atHome_102 : decode cX11_atHome 102 = .ok (.getfield 313, 3) := by decide +kernel
theorem dX11_atHome_105 : decode cX11_atHome 105 = .ok (.imul, 1) := by decide +kernel
theorem dX11_atHome_106 : decode cX11_atHome 106 = .ok (.iconst 2, 1) := by decide +kernel
theorem dX11_atHome_107 : decode cX11_atHome 107 = .ok (.iadd, 1) := by decide +kernel
theorem dX11_atHome_108 : decode cX11_atHome 108 = .ok (.aload_n 0, 1) := by decide +kernel
theorem dX11_atHome_109 : decode cX11_atHome 109 = .ok (.getfield 300, 3) := by decide +kernel
theorem dX11_atHome_112 : decode cX11_atHome 112 = .ok (.iconst 1, 1) := by decide +kernel
theorem dX11_atHome_113 : decode cX11_atHome 113 = .ok (.iaload, 1) := by decide +kernel
theorem dX11_atHome_114 : decode cX11_atHome 114 = .ok (.iastore, 1) := by decide +kernel
theorem dX11_atHome_115 : decode cX11_atHome 115 = .ok (.iconst 0, 1) := by decide +kernel
theorem dX11_atHome_116 : decode cX11_atHome 116 = .ok (.istore_n 2, 1) := by decide +kernel
theorem dX11_atHome_117 : decode cX11_atHome 117 = .ok (.iload_n 2, 1) := by decide +kernel
theorem dX11_atHome_118 : decode cX11_atHome 118 = .ok (.iconst 4, 1) := by decide +kernel
theorem dX11_atHome_119 : decode cX11_atHome 119 = .ok (.if_icmp .ge 33, 3) := by decide +kernel
theorem dX11_atHome_122 : decode cX11_atHome 122 = .ok (.aload_n 0, 1) := by decide +kernel
theorem dX11_atHome_123 : decode cX11_atHome 123 = .ok (.getfield 141, 3) := by decide +kernel
theorem dX11_atHome_126 : decode cX11_atHome 126 = .ok (.bipush 7, 2) := by decide +kernel
theorem dX11_atHome_128 : decode cX11_atHome 128 = .ok (.aload_n 0, 1) := by decide +kernel
theorem dX11_atHome_129 : decode cX11_atHome 129 = .ok (.getfield 313, 3) := by decide +kernel
theorem dX11_atHome_132 : decode cX11_atHome 132 = .ok (.imul, 1) := by decide +kernel
theorem dX11_atHome_133 : decode cX11_atHome 133 = .ok (.iconst 3, 1) := by decide +kernel
theorem dX11_atHome_134 : decode cX11_atHome 134 = .ok (.iadd, 1) := by decide +kernel
theorem dX11_atHome_135 : decode cX11_atHome 135 = .ok (.iload_n 2, 1) := by decide +kernel
theorem dX11_atHome_136 : decode cX11_atHome 136 = .ok (.iadd, 1) := by decide +kernel
theorem dX11_atHome_137 : decode cX11_atHome 137 = .ok (.aload_n 0, 1) := by decide +kernel
theorem dX11_atHome_138 : decode cX11_atHome 138 = .ok (.getfield 300, 3) := by decide +kernel
theorem dX11_atHome_141 : decode cX11_atHome 141 = .ok (.iconst 5, 1) := by decide +kernel
theorem dX11_atHome_142 : decode cX11_atHome 142 = .ok (.iload_n 2, 1) := by decide +kernel
theorem dX11_atHome_143 : decode cX11_atHome 143 = .ok (.iadd, 1) := by decide +kernel
theorem dX11_atHome_144 : decode cX11_atHome 144 = .ok (.iaload, 1) := by decide +kernel
theorem dX11_atHome_145 : decode cX11_atHome 145 = .ok (.iastore, 1) := by decide +kernel
theorem dX11_atHome_146 : decode cX11_atHome 146 = .ok (.iinc 2 1, 3) := by decide +kernel
theorem dX11_atHome_149 : decode cX11_atHome 149 = .ok (.goto (-32), 3) := by decide +kernel
theorem dX11_atHome_152 : decode cX11_atHome 152 = .ok (.aload_n 0, 1) := by decide +kernel
theorem dX11_atHome_153 : decode cX11_atHome 153 = .ok (.dup, 1) := by decide +kernel
theorem dX11_atHome_154 : decode cX11_atHome 154 = .ok (.getfield 313, 3) := by decide +kernel
theorem dX11_atHome_157 : decode cX11_atHome 157 = .ok (.iconst 1, 1) := by decide +kernel
theorem dX11_atHome_158 : decode cX11_atHome 158 = .ok (.iadd, 1) := by decide +kernel
theorem dX11_atHome_159 : decode cX11_atHome 159 = .ok (.putfield 313, 3) := by decide +kernel
theorem dX11_atHome_162 : decode cX11_atHome 162 = .ok (.aload_n 0, 1) := by decide +kernel
theorem dX11_atHome_163 : decode cX11_atHome 163 = .ok (.iload_n 1, 1) := by decide +kernel
theorem dX11_atHome_164 : decode cX11_atHome 164 = .ok (.aload_n 0, 1) := by decide +kernel
theorem dX11_atHome_165 : decode cX11_atHome 165 = .ok (.getfield 47, 3) := by decide +kernel
theorem dX11_atHome_168 : decode cX11_atHome 168 = .ok (.iconst 4, 1) := by decide +kernel
theorem dX11_atHome_169 : decode cX11_atHome 169 = .ok (.iaload, 1) := by decide +kernel
theorem dX11_atHome_170 : decode cX11_atHome 170 = .ok (.irem, 1) := by decide +kernel
theorem dX11_atHome_171 : decode cX11_atHome 171 = .ok (.invokevirtual 654, 3) := by decide +kernel
theorem dX11_atHome_174 : decode cX11_atHome 174 = .ok (.return_, 1) := by decide +kernel
theorem dX11_answer_0 : decode cX11_answer 0 = .ok (.aload_n 0, 1) := by decide +kernel
theorem dX11_answer_1 : decode cX11_answer 1 = .ok (.iconst 5, 1) := by decide +kernel
theorem dX11_answer_2 : decode cX11_answer 2 = .ok (.iload_n 1, 1) := by decide +kernel
theorem dX11_answer_3 : decode cX11_answer 3 = .ok (.bipush 16, 2) := by decide +kernel
theorem dX11_answer_5 : decode cX11_answer 5 = .ok (.iload_n 2, 1) := by decide +kernel
theorem dX11_answer_6 : decode cX11_answer 6 = .ok (.invokevirtual 532, 3) := by decide +kernel
theorem dX11_answer_9 : decode cX11_answer 9 = .ok (.aload_n 0, 1) := by decide +kernel
theorem dX11_answer_10 : decode cX11_answer 10 = .ok (.iload_n 1, 1) := by decide +kernel
theorem dX11_answer_11 : decode cX11_answer 11 = .ok (.iload_n 2, 1) := by decide +kernel
theorem dX11_answer_12 : decode cX11_answer 12 = .ok (.invokevirtual 539, 3) := by decide +kernel
theorem dX11_answer_15 : decode cX11_answer 15 = .ok (.istore_n 3, 1) := by decide +kernel
theorem dX11_answer_16 : decode cX11_answer 16 = .ok (.iload_n 3, 1) := by decide +kernel
theorem dX11_answer_17 : decode cX11_answer 17 = .ok (.iconst (-1), 1) := by decide +kernel
theorem dX11_answer_18 : decode cX11_answer 18 = .ok (.if_icmp .eq 13, 3) := by decide +kernel
theorem dX11_answer_21 : decode cX11_answer 21 = .ok (.aload_n 0, 1) := by decide +kernel
theorem dX11_answer_22 : decode cX11_answer 22 = .ok (.getfield 108, 3) := by decide +kernel
theorem dX11_answer_25 : decode cX11_answer 25 = .ok (.iload_n 3, 1) := by decide +kernel
theorem dX11_answer_26 : decode cX11_answer 26 = .ok (.iaload, 1) := by decide +kernel
theorem dX11_answer_27 : decode cX11_answer 27 = .ok (.iconst 1, 1) := by decide +kernel
theorem dX11_answer_28 : decode cX11_answer 28 = .ok (.if_icmp .gt 22, 3) := by decide +kernel
theorem dX11_answer_31 : decode cX11_answer 31 = .ok (.aload_n 0, 1) := by decide +kernel
theorem dX11_answer_32 : decode cX11_answer 32 = .ok (.getfield 89, 3) := by decide +kernel
theorem dX11_answer_35 : decode cX11_answer 35 = .ok (.iload_n 1, 1) := by decide +kernel
theorem dX11_answer_36 : decode cX11_answer 36 = .ok (.iaload, 1) := by decide +kernel
theorem dX11_answer_37 : decode cX11_answer 37 = .ok (.iload_n 2, 1) := by decide +kernel
theorem dX11_answer_38 : decode cX11_answer 38 = .ok (.if_icmp .ne 17, 3) := by decide +kernel
theorem dX11_answer_41 : decode cX11_answer 41 = .ok (.aload_n 0, 1) := by decide +kernel
theorem dX11_answer_42 : decode cX11_answer 42 = .ok (.getfield 92, 3) := by decide +kernel
theorem dX11_answer_45 : decode cX11_answer 45 = .ok (.iload_n 1, 1) := by decide +kernel
theorem dX11_answer_46 : decode cX11_answer 46 = .ok (.baload, 1) := by decide +kernel
theorem dX11_answer_47 : decode cX11_answer 47 = .ok (.ifCond .ne 8, 3) := by decide +kernel
theorem dX11_answer_50 : decode cX11_answer 50 = .ok (.aload_n 0, 1) := by decide +kernel
theorem dX11_answer_51 : decode cX11_answer 51 = .ok (.iload_n 2, 1) := by decide +kernel
theorem dX11_answer_52 : decode cX11_answer 52 = .ok (.invokevirtual 551, 3) := by decide +kernel
theorem dX11_answer_55 : decode cX11_answer 55 = .ok (.aload_n 0, 1) := by decide +kernel
theorem dX11_answer_56 : decode cX11_answer 56 = .ok (.getfield 89, 3) := by decide +kernel
theorem dX11_answer_59 : decode cX11_answer 59 = .ok (.iload_n 1, 1) := by decide +kernel
theorem dX11_answer_60 : decode cX11_answer 60 = .ok (.iaload, 1) := by decide +kernel
theorem dX11_answer_61 : decode cX11_answer 61 = .ok (.iload_n 2, 1) := by decide +kernel
theorem dX11_answer_62 : decode cX11_answer 62 = .ok (.if_icmp .ne 10, 3) := by decide +kernel
theorem dX11_answer_65 : decode cX11_answer 65 = .ok (.aload_n 0, 1) := by decide +kernel
theorem dX11_answer_66 : decode cX11_answer 66 = .ok (.getfield 92, 3) := by decide +kernel
theorem dX11_answer_69 : decode cX11_answer 69 = .ok (.iload_n 1, 1) := by decide +kernel
theorem dX11_answer_70 : decode cX11_answer 70 = .ok (.iconst 1, 1) := by decide +kernel
theorem dX11_answer_71 : decode cX11_answer 71 = .ok (.bastore, 1) := by decide +kernel
theorem dX11_answer_72 : decode cX11_answer 72 = .ok (.aload_n 0, 1) := by decide +kernel
theorem dX11_answer_73 : decode cX11_answer 73 = .ok (.invokevirtual 536, 3) := by decide +kernel
theorem dX11_answer_76 : decode cX11_answer 76 = .ok (.return_, 1) := by decide +kernel
theorem dX11_atCore_0 : decode cX11_atCore 0 = .ok (.aload_n 0, 1) := by decide +kernel
theorem dX11_atCore_1 : decode cX11_atCore 1 = .ok (.getfield 300, 3) := by decide +kernel
theorem dX11_atCore_4 : decode cX11_atCore 4 = .ok (.iconst 3, 1) := by decide +kernel
theorem dX11_atCore_5 : decode cX11_atCore 5 = .ok (.iaload, 1) := by decide +kernel
theorem dX11_atCore_6 : decode cX11_atCore 6 = .ok (.istore_n 2, 1) := by decide +kernel
theorem dX11_atCore_7 : decode cX11_atCore 7 = .ok (.aload_n 0, 1) := by decide +kernel
theorem dX11_atCore_8 : decode cX11_atCore 8 = .ok (.iload_n 1, 1) := by decide +kernel
theorem dX11_atCore_9 : decode cX11_atCore 9 = .ok (.iload_n 2, 1) := by decide +kernel
theorem dX11_atCore_10 : decode cX11_atCore 10 = .ok (.invokevirtual 539, 3) := by decide +kernel
theorem dX11_atCore_13 : decode cX11_atCore 13 = .ok (.istore_n 3, 1) := by decide +kernel
theorem dX11_atCore_14 : decode cX11_atCore 14 = .ok (.aload_n 0, 1) := by decide +kernel
theorem dX11_atCore_15 : decode cX11_atCore 15 = .ok (.getfield 300, 3) := by decide +kernel
theorem dX11_atCore_18 : decode cX11_atCore 18 = .ok (.iconst 0, 1) := by decide +kernel
theorem dX11_atCore_19 : decode cX11_atCore 19 = .ok (.iaload, 1) := by decide +kernel
theorem dX11_atCore_20 : decode cX11_atCore 20 = .ok (.tableswitch 143 3 8 #[101, 122, 143, 40, 40, 40], 40) := by decide +kernel
theorem dX11_atCore_60 : decode cX11_atCore 60 = .ok (.iload_n 3, 1) := by decide +kernel
theorem dX11_atCore_61 : decode cX11_atCore 61 = .ok (.iconst (-1), 1) := by decide +kernel
theorem dX11_atCore_62 : decode cX11_atCore 62 = .ok (.if_icmp .ne 10, 3) := by decide +kernel
theorem dX11_atCore_65 : decode cX11_atCore 65 = .ok (.aload_n 0, 1) := by decide +kernel
theorem dX11_atCore_66 : decode cX11_atCore 66 = .ok (.iload_n 1, 1) := by decide +kernel
theorem dX11_atCore_67 : decode cX11_atCore 67 = .ok (.iload_n 2, 1) := by decide +kernel
theorem dX11_atCore_68 : decode cX11_atCore 68 = .ok (.invokevirtual 542, 3) := by decide +kernel
theorem dX11_atCore_71 : decode cX11_atCore 71 = .ok (.istore_n 3, 1) := by decide +kernel
theorem dX11_atCore_72 : decode cX11_atCore 72 = .ok (.aload_n 0, 1) := by decide +kernel
theorem dX11_atCore_73 : decode cX11_atCore 73 = .ok (.getfield 105, 3) := by decide +kernel
theorem dX11_atCore_76 : decode cX11_atCore 76 = .ok (.iload_n 3, 1) := by decide +kernel
theorem dX11_atCore_77 : decode cX11_atCore 77 = .ok (.iload_n 2, 1) := by decide +kernel
theorem dX11_atCore_78 : decode cX11_atCore 78 = .ok (.iastore, 1) := by decide +kernel
theorem dX11_atCore_79 : decode cX11_atCore 79 = .ok (.aload_n 0, 1) := by decide +kernel
theorem dX11_atCore_80 : decode cX11_atCore 80 = .ok (.getfield 108, 3) := by decide +kernel
theorem dX11_atCore_83 : decode cX11_atCore 83 = .ok (.iload_n 3, 1) := by decide +kernel
theorem dX11_atCore_84 : decode cX11_atCore 84 = .ok (.aload_n 0, 1) := by decide +kernel
theorem dX11_atCore_85 : decode cX11_atCore 85 = .ok (.getfield 300, 3) := by decide +kernel
theorem dX11_atCore_88 : decode cX11_atCore 88 = .ok (.iconst 0, 1) := by decide +kernel
theorem dX11_atCore_89 : decode cX11_atCore 89 = .ok (.iaload, 1) := by decide +kernel
theorem dX11_atCore_90 : decode cX11_atCore 90 = .ok (.bipush 6, 2) := by decide +kernel
theorem dX11_atCore_92 : decode cX11_atCore 92 = .ok (.isub, 1) := by decide +kernel
theorem dX11_atCore_93 : decode cX11_atCore 93 = .ok (.iconst 1, 1) := by decide +kernel
theorem dX11_atCore_94 : decode cX11_atCore 94 = .ok (.iadd, 1) := by decide +kernel
theorem dX11_atCore_95 : decode cX11_atCore 95 = .ok (.iastore, 1) := by decide +kernel
theorem dX11_atCore_96 : decode cX11_atCore 96 = .ok (.aload_n 0, 1) := by decide +kernel
theorem dX11_atCore_97 : decode cX11_atCore 97 = .ok (.iload_n 3, 1) := by decide +kernel
theorem dX11_atCore_98 : decode cX11_atCore 98 = .ok (.invokevirtual 564, 3) := by decide +kernel
theorem dX11_atCore_101 : decode cX11_atCore 101 = .ok (.aload_n 0, 1) := by decide +kernel
theorem dX11_atCore_102 : decode cX11_atCore 102 = .ok (.getfield 86, 3) := by decide +kernel
theorem dX11_atCore_105 : decode cX11_atCore 105 = .ok (.iload_n 1, 1) := by decide +kernel
theorem dX11_atCore_106 : decode cX11_atCore 106 = .ok (.iconst (-1), 1) := by decide +kernel
theorem dX11_atCore_107 : decode cX11_atCore 107 = .ok (.iastore, 1) := by decide +kernel
theorem dX11_atCore_108 : decode cX11_atCore 108 = .ok (.aload_n 0, 1) := by decide +kernel
theorem dX11_atCore_109 : decode cX11_atCore 109 = .ok (.bipush 10, 2) := by decide +kernel
theorem dX11_atCore_111 : decode cX11_atCore 111 = .ok (.iload_n 1, 1) := by decide +kernel
theorem dX11_atCore_112 : decode cX11_atCore 112 = .ok (.bipush 16, 2) := by decide +kernel
theorem dX11_atCore_114 : decode cX11_atCore 114 = .ok (.iload_n 2, 1) := by decide +kernel
theorem dX11_atCore_115 : decode cX11_atCore 115 = .ok (.invokevirtual 548, 3) := by decide +kernel
theorem dX11_atCore_118 : decode cX11_atCore 118 = .ok (.goto 59, 3) := by decide +kernel
theorem dX11_atCore_121 : decode cX11_atCore 121 = .ok (.aload_n 0, 1) := by decide +kernel
theorem dX11_atCore_122 : decode cX11_atCore 122 = .ok (.iload_n 1, 1) := by decide +kernel
theorem dX11_atCore_123 : decode cX11_atCore 123 = .ok (.iload_n 2, 1) := by decide +kernel
theorem dX11_atCore_124 : decode cX11_atCore 124 = .ok (.invokevirtual 660, 3) := by decide +kernel
theorem dX11_atCore_127 : decode cX11_atCore 127 = .ok (.iload_n 3, 1) := by decide +kernel
theorem dX11_atCore_128 : decode cX11_atCore 128 = .ok (.iconst (-1), 1) := by decide +kernel
theorem dX11_atCore_129 : decode cX11_atCore 129 = .ok (.if_icmp .eq 48, 3) := by decide +kernel
theorem dX11_atCore_132 : decode cX11_atCore 132 = .ok (.aload_n 0, 1) := by decide +kernel
theorem dX11_atCore_133 : decode cX11_atCore 133 = .ok (.getfield 108, 3) := by decide +kernel
theorem dX11_atCore_136 : decode cX11_atCore 136 = .ok (.iload_n 3, 1) := by decide +kernel
theorem dX11_atCore_137 : decode cX11_atCore 137 = .ok (.iconst 0, 1) := by decide +kernel
theorem dX11_atCore_138 : decode cX11_atCore 138 = .ok (.iastore, 1) := by decide +kernel
theorem dX11_atCore_139 : decode cX11_atCore 139 = .ok (.goto 38, 3) := by decide +kernel
theorem dX11_atCore_142 : decode cX11_atCore 142 = .ok (.aload_n 0, 1) := by decide +kernel
theorem dX11_atCore_143 : decode cX11_atCore 143 = .ok (.iload_n 1, 1) := by decide +kernel
theorem dX11_atCore_144 : decode cX11_atCore 144 = .ok (.iload_n 2, 1) := by decide +kernel
theorem dX11_atCore_145 : decode cX11_atCore 145 = .ok (.invokevirtual 660, 3) := by decide +kernel
theorem dX11_atCore_148 : decode cX11_atCore 148 = .ok (.iload_n 3, 1) := by decide +kernel
theorem dX11_atCore_149 : decode cX11_atCore 149 = .ok (.iconst (-1), 1) := by decide +kernel
theorem dX11_atCore_150 : decode cX11_atCore 150 = .ok (.if_icmp .eq 27, 3) := by decide +kernel
theorem dX11_atCore_153 : decode cX11_atCore 153 = .ok (.aload_n 0, 1) := by decide +kernel
theorem dX11_atCore_154 : decode cX11_atCore 154 = .ok (.getfield 108, 3) := by decide +kernel
theorem dX11_atCore_157 : decode cX11_atCore 157 = .ok (.iload_n 3, 1) := by decide +kernel
theorem dX11_atCore_158 : decode cX11_atCore 158 = .ok (.iconst 1, 1) := by decide +kernel
theorem dX11_atCore_159 : decode cX11_atCore 159 = .ok (.iastore, 1) := by decide +kernel
theorem dX11_atCore_160 : decode cX11_atCore 160 = .ok (.goto 17, 3) := by decide +kernel
theorem dX11_atCore_163 : decode cX11_atCore 163 = .ok (.aload_n 0, 1) := by decide +kernel
theorem dX11_atCore_164 : decode cX11_atCore 164 = .ok (.getfield 89, 3) := by decide +kernel
theorem dX11_atCore_167 : decode cX11_atCore 167 = .ok (.iload_n 1, 1) := by decide +kernel
theorem dX11_atCore_168 : decode cX11_atCore 168 = .ok (.iconst (-1), 1) := by decide +kernel
theorem dX11_atCore_169 : decode cX11_atCore 169 = .ok (.iastore, 1) := by decide +kernel
theorem dX11_atCore_170 : decode cX11_atCore 170 = .ok (.aload_n 0, 1) := by decide +kernel
theorem dX11_atCore_171 : decode cX11_atCore 171 = .ok (.getfield 92, 3) := by decide +kernel
theorem dX11_atCore_174 : decode cX11_atCore 174 = .ok (.iload_n 1, 1) := by decide +kernel
theorem dX11_atCore_175 : decode cX11_atCore 175 = .ok (.iconst 0, 1) := by decide +kernel
theorem dX11_atCore_176 : decode cX11_atCore 176 = .ok (.bastore, 1) := by decide +kernel
theorem dX11_atCore_177 : decode cX11_atCore 177 = .ok (.return_, 1) := by decide +kernel
theorem dX11_bring_0 : decode cX11_bring 0 = .ok (.iconst 0, 1) := by decide +kernel
theorem dX11_bring_1 : decode cX11_bring 1 = .ok (.istore_n 2, 1) := by decide +kernel
theorem dX11_bring_2 : decode cX11_bring 2 = .ok (.iload_n 2, 1) := by decide +kernel
theorem dX11_bring_3 : decode cX11_bring 3 = .ok (.bipush 9, 2) := by decide +kernel
theorem dX11_bring_5 : decode cX11_bring 5 = .ok (.if_icmp .ge 26, 3) := by decide +kernel
theorem dX11_bring_8 : decode cX11_bring 8 = .ok (.aload_n 0, 1) := by decide +kernel
theorem dX11_bring_9 : decode cX11_bring 9 = .ok (.getfield 300, 3) := by decide +kernel
theorem dX11_bring_12 : decode cX11_bring 12 = .ok (.iload_n 2, 1) := by decide +kernel
theorem dX11_bring_13 : decode cX11_bring 13 = .ok (.aload_n 0, 1) := by decide +kernel
theorem dX11_bring_14 : decode cX11_bring 14 = .ok (.getfield 145, 3) := by decide +kernel
theorem dX11_bring_17 : decode cX11_bring 17 = .ok (.bipush 9, 2) := by decide +kernel
theorem dX11_bring_19 : decode cX11_bring 19 = .ok (.iload_n 1, 1) := by decide +kernel
theorem dX11_bring_20 : decode cX11_bring 20 = .ok (.imul, 1) := by decide +kernel
theorem dX11_bring_21 : decode cX11_bring 21 = .ok (.iload_n 2, 1) := by decide +kernel
theorem dX11_bring_22 : decode cX11_bring 22 = .ok (.iadd, 1) := by decide +kernel
theorem dX11_bring_23 : decode cX11_bring 23 = .ok (.iaload, 1) := by decide +kernel
theorem dX11_bring_24 : decode cX11_bring 24 = .ok (.iastore, 1) := by decide +kernel
theorem dX11_bring_25 : decode cX11_bring 25 = .ok (.iinc 2 1, 3) := by decide +kernel
theorem dX11_bring_28 : decode cX11_bring 28 = .ok (.goto (-26), 3) := by decide +kernel
theorem dX11_bring_31 : decode cX11_bring 31 = .ok (.aload_n 0, 1) := by decide +kernel
theorem dX11_bring_32 : decode cX11_bring 32 = .ok (.dup, 1) := by decide +kernel
theorem dX11_bring_33 : decode cX11_bring 33 = .ok (.getfield 316, 3) := by decide +kernel
theorem dX11_bring_36 : decode cX11_bring 36 = .ok (.iconst 1, 1) := by decide +kernel
theorem dX11_bring_37 : decode cX11_bring 37 = .ok (.isub, 1) := by decide +kernel
theorem dX11_bring_38 : decode cX11_bring 38 = .ok (.putfield 316, 3) := by decide +kernel
theorem dX11_bring_41 : decode cX11_bring 41 = .ok (.bipush 9, 2) := by decide +kernel
theorem dX11_bring_43 : decode cX11_bring 43 = .ok (.iload_n 1, 1) := by decide +kernel
theorem dX11_bring_44 : decode cX11_bring 44 = .ok (.imul, 1) := by decide +kernel
theorem dX11_bring_45 : decode cX11_bring 45 = .ok (.istore_n 2, 1) := by decide +kernel
theorem dX11_bring_46 : decode cX11_bring 46 = .ok (.iload_n 2, 1) := by decide +kernel
theorem dX11_bring_47 : decode cX11_bring 47 = .ok (.bipush 9, 2) := by decide +kernel
theorem dX11_bring_49 : decode cX11_bring 49 = .ok (.aload_n 0, 1) := by decide +kernel
theorem dX11_bring_50 : decode cX11_bring 50 = .ok (.getfield 316, 3) := by decide +kernel
theorem dX11_bring_53 : decode cX11_bring 53 = .ok (.imul, 1) := by decide +kernel
theorem dX11_bring_54 : decode cX11_bring 54 = .ok (.if_icmp .ge 24, 3) := by decide +kernel
theorem dX11_bring_57 : decode cX11_bring 57 = .ok (.aload_n 0, 1) := by decide +kernel
theorem dX11_bring_58 : decode cX11_bring 58 = .ok (.getfield 145, 3) := by decide +kernel
theorem dX11_bring_61 : decode cX11_bring 61 = .ok (.iload_n 2, 1) := by decide +kernel
theorem dX11_bring_62 : decode cX11_bring 62 = .ok (.aload_n 0, 1) := by decide +kernel
theorem dX11_bring_63 : decode cX11_bring 63 = .ok (.getfield 145, 3) := by decide +kernel
theorem dX11_bring_66 : decode cX11_bring 66 = .ok (.iload_n 2, 1) := by decide +kernel
theorem dX11_bring_67 : decode cX11_bring 67 = .ok (.bipush 9, 2) := by decide +kernel
theorem dX11_bring_69 : decode cX11_bring 69 = .ok (.iadd, 1) := by decide +kernel
theorem dX11_bring_70 : decode cX11_bring 70 = .ok (.iaload, 1) := by decide +kernel
theorem dX11_bring_71 : decode cX11_bring 71 = .ok (.iastore, 1) := by decide +kernel
theorem dX11_bring_72 : decode cX11_bring 72 = .ok (.iinc 2 1, 3) := by decide +kernel
theorem dX11_bring_75 : decode cX11_bring 75 = .ok (.goto (-29), 3) := by decide +kernel
theorem dX11_bring_78 : decode cX11_bring 78 = .ok (.aload_n 0, 1) := by decide +kernel
theorem dX11_bring_79 : decode cX11_bring 79 = .ok (.dup, 1) := by decide +kernel
theorem dX11_bring_80 : decode cX11_bring 80 = .ok (.getfield 322, 3) := by decide +kernel
theorem dX11_bring_83 : decode cX11_bring 83 = .ok (.iconst 1, 1) := by decide +kernel
theorem dX11_bring_84 : decode cX11_bring 84 = .ok (.iadd, 1) := by decide +kernel
theorem dX11_bring_85 : decode cX11_bring 85 = .ok (.putfield 322, 3) := by decide +kernel
theorem dX11_bring_88 : decode cX11_bring 88 = .ok (.aload_n 0, 1) := by decide +kernel
theorem dX11_bring_89 : decode cX11_bring 89 = .ok (.getfield 300, 3) := by decide +kernel
theorem dX11_bring_92 : decode cX11_bring 92 = .ok (.iconst 2, 1) := by decide +kernel
theorem dX11_bring_93 : decode cX11_bring 93 = .ok (.iaload, 1) := by decide +kernel
theorem dX11_bring_94 : decode cX11_bring 94 = .ok (.bipush 16, 2) := by decide +kernel
theorem dX11_bring_96 : decode cX11_bring 96 = .ok (.if_icmp .ne 10, 3) := by decide +kernel
theorem dX11_bring_99 : decode cX11_bring 99 = .ok (.aload_n 0, 1) := by decide +kernel
theorem dX11_bring_100 : decode cX11_bring 100 = .ok (.invokevirtual 663, 3) := by decide +kernel
theorem dX11_bring_103 : decode cX11_bring 103 = .ok (.goto 13, 3) := by decide +kernel
theorem dX11_bring_106 : decode cX11_bring 106 = .ok (.aload_n 0, 1) := by decide +kernel
theorem dX11_bring_107 : decode cX11_bring 107 = .ok (.aload_n 0, 1) := by decide +kernel
theorem dX11_bring_108 : decode cX11_bring 108 = .ok (.getfield 300, 3) := by decide +kernel
theorem dX11_bring_111 : decode cX11_bring 111 = .ok (.iconst 2, 1) := by decide +kernel
theorem dX11_bring_112 : decode cX11_bring 112 = .ok (.iaload, 1) := by decide +kernel
theorem dX11_bring_113 : decode cX11_bring 113 = .ok (.invokevirtual 666, 3) := by decide +kernel
theorem dX11_bring_116 : decode cX11_bring 116 = .ok (.return_, 1) := by decide +kernel
theorem dX11_channelOf_0 : decode cX11_channelOf 0 = .ok (.iload_n 0, 1) := by decide +kernel
theorem dX11_channelOf_1 : decode cX11_channelOf 1 = .ok (.iconst 2, 1) := by decide +kernel
theorem dX11_channelOf_2 : decode cX11_channelOf 2 = .ok (.if_icmp .gt 7, 3) := by decide +kernel
theorem dX11_channelOf_5 : decode cX11_channelOf 5 = .ok (.iconst 0, 1) := by decide +kernel
theorem dX11_channelOf_6 : decode cX11_channelOf 6 = .ok (.goto 24, 3) := by decide +kernel
theorem dX11_channelOf_9 : decode cX11_channelOf 9 = .ok (.iload_n 0, 1) := by decide +kernel
theorem dX11_channelOf_10 : decode cX11_channelOf 10 = .ok (.iconst 3, 1) := by decide +kernel
theorem dX11_channelOf_11 : decode cX11_channelOf 11 = .ok (.if_icmp .eq 14, 3) := by decide +kernel
theorem dX11_channelOf_14 : decode cX11_channelOf 14 = .ok (.iload_n 0, 1) := by decide +kernel
theorem dX11_channelOf_15 : decode cX11_channelOf 15 = .ok (.iconst 4, 1) := by decide +kernel
theorem dX11_channelOf_16 : decode cX11_channelOf 16 = .ok (.if_icmp .eq 9, 3) := by decide +kernel
theorem dX11_channelOf_19 : decode cX11_channelOf 19 = .ok (.iload_n 0, 1) := by decide +kernel
theorem dX11_channelOf_20 : decode cX11_channelOf 20 = .ok (.bipush 9, 2) := by decide +kernel
theorem dX11_channelOf_22 : decode cX11_channelOf 22 = .ok (.if_icmp .ne 7, 3) := by decide +kernel
theorem dX11_channelOf_25 : decode cX11_channelOf 25 = .ok (.iconst 1, 1) := by decide +kernel
theorem dX11_channelOf_26 : decode cX11_channelOf 26 = .ok (.goto 4, 3) := by decide +kernel
theorem dX11_channelOf_29 : decode cX11_channelOf 29 = .ok (.iconst 2, 1) := by decide +kernel
theorem dX11_channelOf_30 : decode cX11_channelOf 30 = .ok (.ireturn, 1) := by decide +kernel
theorem dX11_isCore_0 : decode cX11_isCore 0 = .ok (.iload_n 1, 1) := by decide +kernel
theorem dX11_isCore_1 : decode cX11_isCore 1 = .ok (.ifCond .lt 17, 3) := by decide +kernel
theorem dX11_isCore_4 : decode cX11_isCore 4 = .ok (.iload_n 1, 1) := by decide +kernel
theorem dX11_isCore_5 : decode cX11_isCore 5 = .ok (.aload_n 0, 1) := by decide +kernel
theorem dX11_isCore_6 : decode cX11_isCore 6 = .ok (.getfield 47, 3) := by decide +kernel
theorem dX11_isCore_9 : decode cX11_isCore 9 = .ok (.iconst 0, 1) := by decide +kernel
theorem dX11_isCore_10 : decode cX11_isCore 10 = .ok (.iaload, 1) := by decide +kernel
theorem dX11_isCore_11 : decode cX11_isCore 11 = .ok (.if_icmp .ge 7, 3) := by decide +kernel
theorem dX11_isCore_14 : decode cX11_isCore 14 = .ok (.iconst 1, 1) := by decide +kernel
theorem dX11_isCore_15 : decode cX11_isCore 15 = .ok (.goto 4, 3) := by decide +kernel
theorem dX11_isCore_18 : decode cX11_isCore 18 = .ok (.iconst 0, 1) := by decide +kernel
theorem dX11_isCore_19 : decode cX11_isCore 19 = .ok (.ireturn, 1) := by decide +kernel
theorem dX11_step_0 : decode cX11_step 0 = .ok (.aload_n 0, 1) := by decide +kernel
theorem dX11_step_1 : decode cX11_step 1 = .ok (.aload_n 0, 1) := by decide +kernel
theorem dX11_step_2 : decode cX11_step 2 = .ok (.iload_n 1, 1) := by decide +kernel
theorem dX11_step_3 : decode cX11_step 3 = .ok (.invokevirtual 669, 3) := by decide +kernel
theorem dX11_step_6 : decode cX11_step 6 = .ok (.ifCond .eq 7, 3) := by decide +kernel
theorem dX11_step_9 : decode cX11_step 9 = .ok (.iconst 0, 1) := by decide +kernel
theorem dX11_step_10 : decode cX11_step 10 = .ok (.goto 4, 3) := by decide +kernel
theorem dX11_step_13 : decode cX11_step 13 = .ok (.iconst 1, 1) := by decide +kernel
theorem dX11_step_14 : decode cX11_step 14 = .ok (.putfield 306, 3) := by decide +kernel
theorem dX11_step_17 : decode cX11_step 17 = .ok (.aload_n 0, 1) := by decide +kernel
theorem dX11_step_18 : decode cX11_step 18 = .ok (.getfield 306, 3) := by decide +kernel
theorem dX11_step_21 : decode cX11_step 21 = .ok (.ifCond .eq 7, 3) := by decide +kernel
theorem dX11_step_24 : decode cX11_step 24 = .ok (.iconst 0, 1) := by decide +kernel
theorem dX11_step_25 : decode cX11_step 25 = .ok (.goto 8, 3) := by decide +kernel
theorem dX11_step_28 : decode cX11_step 28 = .ok (.aload_n 0, 1) := by decide +kernel
theorem dX11_step_29 : decode cX11_step 29 = .ok (.iload_n 1, 1) := by decide +kernel
theorem dX11_step_30 : decode cX11_step 30 = .ok (.invokevirtual 672, 3) := by decide +kernel
theorem dX11_step_33 : decode cX11_step 33 = .ok (.ireturn, 1) := by decide +kernel
theorem dX11_drain_0 : decode cX11_drain 0 = .ok (.aload_n 0, 1) := by decide +kernel
theorem dX11_drain_1 : decode cX11_drain 1 = .ok (.aload_n 0, 1) := by decide +kernel
theorem dX11_drain_2 : decode cX11_drain 2 = .ok (.iload_n 1, 1) := by decide +kernel
theorem dX11_drain_3 : decode cX11_drain 3 = .ok (.invokevirtual 669, 3) := by decide +kernel
theorem dX11_drain_6 : decode cX11_drain 6 = .ok (.ifCond .eq 7, 3) := by decide +kernel
theorem dX11_drain_9 : decode cX11_drain 9 = .ok (.iconst 0, 1) := by decide +kernel
theorem dX11_drain_10 : decode cX11_drain 10 = .ok (.goto 4, 3) := by decide +kernel
theorem dX11_drain_13 : decode cX11_drain 13 = .ok (.iconst 1, 1) := by decide +kernel
theorem dX11_drain_14 : decode cX11_drain 14 = .ok (.putfield 306, 3) := by decide +kernel
theorem dX11_drain_17 : decode cX11_drain 17 = .ok (.aload_n 0, 1) := by decide +kernel
theorem dX11_drain_18 : decode cX11_drain 18 = .ok (.getfield 306, 3) := by decide +kernel
theorem dX11_drain_21 : decode cX11_drain 21 = .ok (.ifCond .eq 7, 3) := by decide +kernel
theorem dX11_drain_24 : decode cX11_drain 24 = .ok (.iconst 0, 1) := by decide +kernel
theorem dX11_drain_25 : decode cX11_drain 25 = .ok (.goto 8, 3) := by decide +kernel
theorem dX11_drain_28 : decode cX11_drain 28 = .ok (.aload_n 0, 1) := by decide +kernel
theorem dX11_drain_29 : decode cX11_drain 29 = .ok (.iload_n 1, 1) := by decide +kernel
theorem dX11_drain_30 : decode cX11_drain 30 = .ok (.invokevirtual 675, 3) := by decide +kernel
theorem dX11_drain_33 : decode cX11_drain 33 = .ok (.ireturn, 1) := by decide +kernel
theorem dX11_deliver_0 : decode cX11_deliver 0 = .ok (.aload_n 0, 1) := by decide +kernel
theorem dX11_deliver_1 : decode cX11_deliver 1 = .ok (.iconst 0, 1) := by decide +kernel
theorem dX11_deliver_2 : decode cX11_deliver 2 = .ok (.putfield 306, 3) := by decide +kernel
theorem dX11_deliver_5 : decode cX11_deliver 5 = .ok (.aload_n 0, 1) := by decide +kernel
theorem dX11_deliver_6 : decode cX11_deliver 6 = .ok (.iload_n 1, 1) := by decide +kernel
theorem dX11_deliver_7 : decode cX11_deliver 7 = .ok (.invokevirtual 678, 3) := by decide +kernel
theorem dX11_deliver_10 : decode cX11_deliver 10 = .ok (.ireturn, 1) := by decide +kernel
theorem dX11_brings_0 : decode cX11_brings 0 = .ok (.iload_n 1, 1) := by decide +kernel
theorem dX11_brings_1 : decode cX11_brings 1 = .ok (.ifCond .lt 11, 3) := by decide +kernel
theorem dX11_brings_4 : decode cX11_brings 4 = .ok (.iload_n 1, 1) := by decide +kernel
theorem dX11_brings_5 : decode cX11_brings 5 = .ok (.aload_n 0, 1) := by decide +kernel
theorem dX11_brings_6 : decode cX11_brings 6 = .ok (.getfield 316, 3) := by decide +kernel
theorem dX11_brings_9 : decode cX11_brings 9 = .ok (.if_icmp .lt 5, 3) := by decide +kernel
theorem dX11_brings_12 : decode cX11_brings 12 = .ok (.iconst 0, 1) := by decide +kernel
theorem dX11_brings_13 : decode cX11_brings 13 = .ok (.ireturn, 1) := by decide +kernel
theorem dX11_brings_14 : decode cX11_brings 14 = .ok (.aload_n 0, 1) := by decide +kernel
theorem dX11_brings_15 : decode cX11_brings 15 = .ok (.iload_n 1, 1) := by decide +kernel
theorem dX11_brings_16 : decode cX11_brings 16 = .ok (.invokevirtual 681, 3) := by decide +kernel
theorem dX11_brings_19 : decode cX11_brings 19 = .ok (.iconst 1, 1) := by decide +kernel
theorem dX11_brings_20 : decode cX11_brings 20 = .ok (.ireturn, 1) := by decide +kernel
theorem dX11_deliverOn_0 : decode cX11_deliverOn 0 = .ok (.aload_n 0, 1) := by decide +kernel
theorem dX11_deliverOn_1 : decode cX11_deliverOn 1 = .ok (.iconst 0, 1) := by decide +kernel
theorem dX11_deliverOn_2 : decode cX11_deliverOn 2 = .ok (.putfield 306, 3) := by decide +kernel
theorem dX11_deliverOn_5 : decode cX11_deliverOn 5 = .ok (.aload_n 0, 1) := by decide +kernel
theorem dX11_deliverOn_6 : decode cX11_deliverOn 6 = .ok (.iload_n 1, 1) := by decide +kernel
theorem dX11_deliverOn_7 : decode cX11_deliverOn 7 = .ok (.iload_n 2, 1) := by decide +kernel
theorem dX11_deliverOn_8 : decode cX11_deliverOn 8 = .ok (.invokevirtual 684, 3) := by decide +kernel
theorem dX11_deliverOn_11 : decode cX11_deliverOn 11 = .ok (.ireturn, 1) := by decide +kernel
theorem dX11_bringsOn_0 : decode cX11_bringsOn 0 = .ok (.iload_n 2, 1) := by decide +kernel
theorem dX11_bringsOn_1 : decode cX11_bringsOn 1 = .ok (.istore_n 3, 1) := by decide +kernel
theorem dX11_bringsOn_2 : decode cX11_bringsOn 2 = .ok (.iconst 0, 1) := by decide +kernel
theorem dX11_bringsOn_3 : decode cX11_bringsOn 3 = .ok (.istore 4, 2) := by decide +kernel
theorem dX11_bringsOn_5 : decode cX11_bringsOn 5 = .ok (.iload 4, 2) := by decide +kernel
theorem dX11_bringsOn_7 : decode cX11_bringsOn 7 = .ok (.aload_n 0, 1) := by decide +kernel
theorem dX11_bringsOn_8 : decode cX11_bringsOn 8 = .ok (.getfield 316, 3) := by decide +kernel
theorem dX11_bringsOn_11 : decode cX11_bringsOn 11 = .ok (.if_icmp .ge 48, 3) := by decide +kernel
theorem dX11_bringsOn_14 : decode cX11_bringsOn 14 = .ok (.iload_n 2, 1) := by decide +kernel
theorem dX11_bringsOn_15 : decode cX11_bringsOn 15 = .ok (.ifCond .lt 44, 3) := by decide +kernel
theorem dX11_bringsOn_18 : decode cX11_bringsOn 18 = .ok (.aload_n 0, 1) := by decide +kernel
theorem dX11_bringsOn_19 : decode cX11_bringsOn 19 = .ok (.getfield 145, 3) := by decide +kernel
theorem dX11_bringsOn_22 : decode cX11_bringsOn 22 = .ok (.bipush 9, 2) := by decide +kernel
theorem dX11_bringsOn_24 : decode cX11_bringsOn 24 = .ok (.iload 4, 2) := by decide +kernel
theorem dX11_bringsOn_26 : decode cX11_bringsOn 26 = .ok (.imul, 1) := by decide +kernel
theorem dX11_bringsOn_27 : decode cX11_bringsOn 27 = .ok (.iaload, 1) := by decide +kernel
theorem dX11_bringsOn_28 : decode cX11_bringsOn 28 = .ok (.invokestatic 687, 3) := by decide +kernel
theorem dX11_bringsOn_31 : decode cX11_bringsOn 31 = .ok (.iload_n 1, 1) := by decide +kernel
theorem dX11_bringsOn_32 : decode cX11_bringsOn 32 = .ok (.if_icmp .eq 6, 3) := by decide +kernel
theorem dX11_bringsOn_35 : decode cX11_bringsOn 35 = .ok (.goto 18, 3) := by decide +kernel
theorem dX11_bringsOn_38 : decode cX11_bringsOn 38 = .ok (.iload_n 3, 1) := by decide +kernel
theorem dX11_bringsOn_39 : decode cX11_bringsOn 39 = .ok (.ifCond .ne 11, 3) := by decide +kernel
theorem dX11_bringsOn_42 : decode cX11_bringsOn 42 = .ok (.aload_n 0, 1) := by decide +kernel
theorem dX11_bringsOn_43 : decode cX11_bringsOn 43 = .ok (.iload 4, 2) := by decide +kernel
theorem dX11_bringsOn_45 : decode cX11_bringsOn 45 = .ok (.invokevirtual 681, 3) := by decide +kernel
theorem dX11_bringsOn_48 : decode cX11_bringsOn 48 = .ok (.iconst 1, 1) := by decide +kernel
theorem dX11_bringsOn_49 : decode cX11_bringsOn 49 = .ok (.ireturn, 1) := by decide +kernel
theorem dX11_bringsOn_50 : decode cX11_bringsOn 50 = .ok (.iinc 3 (-1), 3) := by decide +kernel
theorem dX11_bringsOn_53 : decode cX11_bringsOn 53 = .ok (.iinc 4 1, 3) := by decide +kernel
theorem dX11_bringsOn_56 : decode cX11_bringsOn 56 = .ok (.goto (-51), 3) := by decide +kernel
theorem dX11_bringsOn_59 : decode cX11_bringsOn 59 = .ok (.iconst 0, 1) := by decide +kernel
theorem dX11_bringsOn_60 : decode cX11_bringsOn 60 = .ok (.ireturn, 1) := by decide +kernel
theorem dX11_run_0 : decode cX11_run 0 = .ok (.iload_n 1, 1) := by decide +kernel
theorem dX11_run_1 : decode cX11_run 1 = .ok (.iconst 1, 1) := by decide +kernel
theorem dX11_run_2 : decode cX11_run 2 = .ok (.if_icmp .lt 10, 3) := by decide +kernel
theorem dX11_run_5 : decode cX11_run 5 = .ok (.iload_n 1, 1) := by decide +kernel
theorem dX11_run_6 : decode cX11_run 6 = .ok (.sipush 200, 3) := by decide +kernel
theorem dX11_run_9 : decode cX11_run 9 = .ok (.if_icmp .le 9, 3) := by decide +kernel
theorem dX11_run_12 : decode cX11_run 12 = .ok (.aload_n 0, 1) := by decide +kernel
theorem dX11_run_13 : decode cX11_run 13 = .ok (.iconst 1, 1) := by decide +kernel
theorem dX11_run_14 : decode cX11_run 14 = .ok (.invokevirtual 525, 3) := by decide +kernel
theorem dX11_run_17 : decode cX11_run 17 = .ok (.ireturn, 1) := by decide +kernel
theorem dX11_run_18 : decode cX11_run 18 = .ok (.aload_n 0, 1) := by decide +kernel
theorem dX11_run_19 : decode cX11_run 19 = .ok (.iconst 0, 1) := by decide +kernel
theorem dX11_run_20 : decode cX11_run 20 = .ok (.putfield 306, 3) := by decide +kernel
theorem dX11_run_23 : decode cX11_run 23 = .ok (.aload_n 0, 1) := by decide +kernel
theorem dX11_run_24 : decode cX11_run 24 = .ok (.getfield 319, 3) := by decide +kernel
theorem dX11_run_27 : decode cX11_run 27 = .ok (.istore_n 2, 1) := by decide +kernel
theorem dX11_run_28 : decode cX11_run 28 = .ok (.iconst 0, 1) := by decide +kernel
theorem dX11_run_29 : decode cX11_run 29 = .ok (.istore_n 3, 1) := by decide +kernel
theorem dX11_run_30 : decode cX11_run 30 = .ok (.iload_n 3, 1) := by decide +kernel
theorem dX11_run_31 : decode cX11_run 31 = .ok (.iload_n 1, 1) := by decide +kernel
theorem dX11_run_32 : decode cX11_run 32 = .ok (.if_icmp .ge 58, 3) := by decide +kernel
theorem dX11_run_35 : decode cX11_run 35 = .ok (.iconst 0, 1) := by decide +kernel
theorem dX11_run_36 : decode cX11_run 36 = .ok (.istore 4, 2) := by decide +kernel
theorem dX11_run_38 : decode cX11_run 38 = .ok (.iload 4, 2) := by decide +kernel
theorem dX11_run_40 : decode cX11_run 40 = .ok (.aload_n 0, 1) := by decide +kernel
theorem dX11_run_41 : decode cX11_run 41 = .ok (.getfield 47, 3) := by decide +kernel
theorem dX11_run_44 : decode cX11_run 44 = .ok (.iconst 0, 1) := by decide +kernel
theorem dX11_run_45 : decode cX11_run 45 = .ok (.iaload, 1) := by decide +kernel
theorem dX11_run_46 : decode cX11_run 46 = .ok (.if_icmp .ge 23, 3) := by decide +kernel
theorem dX11_run_49 : decode cX11_run 49 = .ok (.aload_n 0, 1) := by decide +kernel
theorem dX11_run_50 : decode cX11_run 50 = .ok (.iload 4, 2) := by decide +kernel
theorem dX11_run_52 : decode cX11_run 52 = .ok (.invokevirtual 672, 3) := by decide +kernel
theorem dX11_run_55 : decode cX11_run 55 = .ok (.pop, 1) := by decide +kernel
theorem dX11_run_56 : decode cX11_run 56 = .ok (.aload_n 0, 1) := by decide +kernel
theorem dX11_run_57 : decode cX11_run 57 = .ok (.iload 4, 2) := by decide +kernel
theorem dX11_run_59 : decode cX11_run 59 = .ok (.invokevirtual 675, 3) := by decide +kernel
theorem dX11_run_62 : decode cX11_run 62 = .ok (.pop, 1) := by decide +kernel
theorem dX11_run_63 : decode cX11_run 63 = .ok (.iinc 4 1, 3) := by decide +kernel
theorem dX11_run_66 : decode cX11_run 66 = .ok (.goto (-28), 3) := by decide +kernel
theorem dX11_run_69 : decode cX11_run 69 = .ok (.aload_n 0, 1) := by decide +kernel
theorem dX11_run_70 : decode cX11_run 70 = .ok (.getfield 316, 3) := by decide +kernel
theorem dX11_run_73 : decode cX11_run 73 = .ok (.ifCond .le 11, 3) := by decide +kernel
theorem dX11_run_76 : decode cX11_run 76 = .ok (.aload_n 0, 1) := by decide +kernel
theorem dX11_run_77 : decode cX11_run 77 = .ok (.iconst 0, 1) := by decide +kernel
theorem dX11_run_78 : decode cX11_run 78 = .ok (.invokevirtual 681, 3) := by decide +kernel
theorem dX11_run_81 : decode cX11_run 81 = .ok (.goto (-12), 3) := by decide +kernel
theorem dX11_run_84 : decode cX11_run 84 = .ok (.iinc 3 1, 3) := by decide +kernel
theorem dX11_run_87 : decode cX11_run 87 = .ok (.goto (-57), 3) := by decide +kernel
theorem dX11_run_90 : decode cX11_run 90 = .ok (.aload_n 0, 1) := by decide +kernel
theorem dX11_run_91 : decode cX11_run 91 = .ok (.getfield 319, 3) := by decide +kernel
theorem dX11_run_94 : decode cX11_run 94 = .ok (.iload_n 2, 1) := by decide +kernel
theorem dX11_run_95 : decode cX11_run 95 = .ok (.isub, 1) := by decide +kernel
theorem dX11_run_96 : decode cX11_run 96 = .ok (.ireturn, 1) := by decide +kernel
theorem dX11_digitAt_0 : decode cX11_digitAt 0 = .ok (.aload_n 0, 1) := by decide +kernel
theorem dX11_digitAt_1 : decode cX11_digitAt 1 = .ok (.iload_n 1, 1) := by decide +kernel
theorem dX11_digitAt_2 : decode cX11_digitAt 2 = .ok (.invokevirtual 357, 3) := by decide +kernel
theorem dX11_digitAt_5 : decode cX11_digitAt 5 = .ok (.invokestatic 360, 3) := by decide +kernel
theorem dX11_digitAt_8 : decode cX11_digitAt 8 = .ok (.ifCond .eq 39, 3) := by decide +kernel
theorem dX11_digitAt_11 : decode cX11_digitAt 11 = .ok (.aload_n 0, 1) := by decide +kernel
theorem dX11_digitAt_12 : decode cX11_digitAt 12 = .ok (.iload_n 1, 1) := by decide +kernel
theorem dX11_digitAt_13 : decode cX11_digitAt 13 = .ok (.invokevirtual 357, 3) := by decide +kernel
theorem dX11_digitAt_16 : decode cX11_digitAt 16 = .ok (.invokestatic 342, 3) := by decide +kernel
theorem dX11_digitAt_19 : decode cX11_digitAt 19 = .ok (.ifCond .eq 14, 3) := by decide +kernel
theorem dX11_digitAt_22 : decode cX11_digitAt 22 = .ok (.aload_n 0, 1) := by decide +kernel
theorem dX11_digitAt_23 : decode cX11_digitAt 23 = .ok (.iload_n 1, 1) := by decide +kernel
theorem dX11_digitAt_24 : decode cX11_digitAt 24 = .ok (.invokevirtual 357, 3) := by decide +kernel
theorem dX11_digitAt_27 : decode cX11_digitAt 27 = .ok (.bipush 48, 2) := by decide +kernel
theorem dX11_digitAt_29 : decode cX11_digitAt 29 = .ok (.isub, 1) := by decide +kernel
theorem dX11_digitAt_30 : decode cX11_digitAt 30 = .ok (.goto 18, 3) := by decide +kernel
theorem dX11_digitAt_33 : decode cX11_digitAt 33 = .ok (.aload_n 0, 1) := by decide +kernel
theorem dX11_digitAt_34 : decode cX11_digitAt 34 = .ok (.iload_n 1, 1) := by decide +kernel
theorem dX11_digitAt_35 : decode cX11_digitAt 35 = .ok (.invokevirtual 357, 3) := by decide +kernel
theorem dX11_digitAt_38 : decode cX11_digitAt 38 = .ok (.bipush 97, 2) := by decide +kernel
theorem dX11_digitAt_40 : decode cX11_digitAt 40 = .ok (.isub, 1) := by decide +kernel
theorem dX11_digitAt_41 : decode cX11_digitAt 41 = .ok (.bipush 10, 2) := by decide +kernel
theorem dX11_digitAt_43 : decode cX11_digitAt 43 = .ok (.iadd, 1) := by decide +kernel
theorem dX11_digitAt_44 : decode cX11_digitAt 44 = .ok (.goto 4, 3) := by decide +kernel
theorem dX11_digitAt_47 : decode cX11_digitAt 47 = .ok (.iconst (-1), 1) := by decide +kernel
theorem dX11_digitAt_48 : decode cX11_digitAt 48 = .ok (.ireturn, 1) := by decide +kernel
theorem dX11_endOf_0 : decode cX11_endOf 0 = .ok (.aload_n 0, 1) := by decide +kernel
theorem dX11_endOf_1 : decode cX11_endOf 1 = .ok (.iload_n 1, 1) := by decide +kernel
theorem dX11_endOf_2 : decode cX11_endOf 2 = .ok (.invokevirtual 357, 3) := by decide +kernel
theorem dX11_endOf_5 : decode cX11_endOf 5 = .ok (.istore_n 2, 1) := by decide +kernel
theorem dX11_endOf_6 : decode cX11_endOf 6 = .ok (.iload_n 2, 1) := by decide +kernel
theorem dX11_endOf_7 : decode cX11_endOf 7 = .ok (.bipush 115, 2) := by decide +kernel
theorem dX11_endOf_9 : decode cX11_endOf 9 = .ok (.if_icmp .eq 9, 3) := by decide +kernel
theorem dX11_endOf_12 : decode cX11_endOf 12 = .ok (.iload_n 2, 1) := by decide +kernel
theorem dX11_endOf_13 : decode cX11_endOf 13 = .ok (.bipush 100, 2) := by decide +kernel
theorem dX11_endOf_15 : decode cX11_endOf 15 = .ok (.if_icmp .ne 7, 3) := by decide +kernel
theorem dX11_endOf_18 : decode cX11_endOf 18 = .ok (.iconst 1, 1) := by decide +kernel
theorem dX11_endOf_19 : decode cX11_endOf 19 = .ok (.goto 20, 3) := by decide +kernel
theorem dX11_endOf_22 : decode cX11_endOf 22 = .ok (.iload_n 2, 1) := by decide +kernel
theorem dX11_endOf_23 : decode cX11_endOf 23 = .ok (.bipush 109, 2) := by decide +kernel
theorem dX11_endOf_25 : decode cX11_endOf 25 = .ok (.if_icmp .eq 9, 3) := by decide +kernel
theorem dX11_endOf_28 : decode cX11_endOf 28 = .ok (.iload_n 2, 1) := by decide +kernel
theorem dX11_endOf_29 : decode cX11_endOf 29 = .ok (.bipush 114, 2) := by decide +kernel
theorem dX11_endOf_31 : decode cX11_endOf 31 = .ok (.if_icmp .ne 7, 3) := by decide +kernel
theorem dX11_endOf_34 : decode cX11_endOf 34 = .ok (.iconst 2, 1) := by decide +kernel
theorem dX11_endOf_35 : decode cX11_endOf 35 = .ok (.goto 4, 3) := by decide +kernel
theorem dX11_endOf_38 : decode cX11_endOf 38 = .ok (.iconst 0, 1) := by decide +kernel
theorem dX11_endOf_39 : decode cX11_endOf 39 = .ok (.istore_n 3, 1) := by decide +kernel
theorem dX11_endOf_40 : decode cX11_endOf 40 = .ok (.iload_n 3, 1) := by decide +kernel
theorem dX11_endOf_41 : decode cX11_endOf 41 = .ok (.ifCond .ne 7, 3) := by decide +kernel
theorem dX11_endOf_44 : decode cX11_endOf 44 = .ok (.iconst (-1), 1) := by decide +kernel
theorem dX11_endOf_45 : decode cX11_endOf 45 = .ok (.iload_n 1, 1) := by decide +kernel
theorem dX11_endOf_46 : decode cX11_endOf 46 = .ok (.isub, 1) := by decide +kernel
theorem dX11_endOf_47 : decode cX11_endOf 47 = .ok (.ireturn, 1) := by decide +kernel
theorem dX11_endOf_48 : decode cX11_endOf 48 = .ok (.iload_n 1, 1) := by decide +kernel
theorem dX11_endOf_49 : decode cX11_endOf 49 = .ok (.iconst 1, 1) := by decide +kernel
theorem dX11_endOf_50 : decode cX11_endOf 50 = .ok (.iadd, 1) := by decide +kernel
theorem dX11_endOf_51 : decode cX11_endOf 51 = .ok (.istore 4, 2) := by decide +kernel
theorem dX11_endOf_53 : decode cX11_endOf 53 = .ok (.iload 4, 2) := by decide +kernel
theorem dX11_endOf_55 : decode cX11_endOf 55 = .ok (.iload_n 1, 1) := by decide +kernel
theorem dX11_endOf_56 : decode cX11_endOf 56 = .ok (.iload_n 3, 1) := by decide +kernel
theorem dX11_endOf_57 : decode cX11_endOf 57 = .ok (.iadd, 1) := by decide +kernel
theorem dX11_endOf_58 : decode cX11_endOf 58 = .ok (.if_icmp .gt 48, 3) := by decide +kernel
theorem dX11_endOf_61 : decode cX11_endOf 61 = .ok (.aload_n 0, 1) := by decide +kernel
theorem dX11_endOf_62 : decode cX11_endOf 62 = .ok (.iload 4, 2) := by decide +kernel
theorem dX11_endOf_64 : decode cX11_endOf 64 = .ok (.invokevirtual 690, 3) := by decide +kernel
theorem dX11_endOf_67 : decode cX11_endOf 67 = .ok (.iconst (-1), 1) := by decide +kernel
theorem dX11_endOf_68 : decode cX11_endOf 68 = .ok (.if_icmp .eq 27, 3) := by decide +kernel
theorem dX11_endOf_71 : decode cX11_endOf 71 = .ok (.iload_n 2, 1) := by decide +kernel
theorem dX11_endOf_72 : decode cX11_endOf 72 = .ok (.bipush 114, 2) := by decide +kernel
theorem dX11_endOf_74 : decode cX11_endOf 74 = .ok (.if_icmp .ne 26, 3) := by decide +kernel
theorem dX11_endOf_77 : decode cX11_endOf 77 = .ok (.iload 4, 2) := by decide +kernel
theorem dX11_endOf_79 : decode cX11_endOf 79 = .ok (.iload_n 1, 1) := by decide +kernel
theorem dX11_endOf_80 : decode cX11_endOf 80 = .ok (.iconst 1, 1) := by decide +kernel
theorem dX11_endOf_81 : decode cX11_endOf 81 = .ok (.iadd, 1) := by decide +kernel
theorem dX11_endOf_82 : decode cX11_endOf 82 = .ok (.if_icmp .ne 18, 3) := by decide +kernel
theorem dX11_endOf_85 : decode cX11_endOf 85 = .ok (.aload_n 0, 1) := by decide +kernel
theorem dX11_endOf_86 : decode cX11_endOf 86 = .ok (.iload 4, 2) := by decide +kernel
theorem dX11_endOf_88 : decode cX11_endOf 88 = .ok (.invokevirtual 690, 3) := by decide +kernel
theorem dX11_endOf_91 : decode cX11_endOf 91 = .ok (.iconst 2, 1) := by decide +kernel
theorem dX11_endOf_92 : decode cX11_endOf 92 = .ok (.if_icmp .le 8, 3) := by decide +kernel
theorem dX11_endOf_95 : decode cX11_endOf 95 = .ok (.iconst (-1), 1) := by decide +kernel
theorem dX11_endOf_96 : decode cX11_endOf 96 = .ok (.iload 4, 2) := by decide +kernel
theorem dX11_endOf_98 : decode cX11_endOf 98 = .ok (.isub, 1) := by decide +kernel
theorem dX11_endOf_99 : decode cX11_endOf 99 = .ok (.ireturn, 1) := by decide +kernel
theorem dX11_endOf_100 : decode cX11_endOf 100 = .ok (.iinc 4 1, 3) := by decide +kernel
theorem dX11_endOf_103 : decode cX11_endOf 103 = .ok (.goto (-50), 3) := by decide +kernel
theorem dX11_endOf_106 : decode cX11_endOf 106 = .ok (.iload_n 1, 1) := by decide +kernel
theorem dX11_endOf_107 : decode cX11_endOf 107 = .ok (.iconst 1, 1) := by decide +kernel
theorem dX11_endOf_108 : decode cX11_endOf 108 = .ok (.iadd, 1) := by decide +kernel
theorem dX11_endOf_109 : decode cX11_endOf 109 = .ok (.iload_n 3, 1) := by decide +kernel
theorem dX11_endOf_110 : decode cX11_endOf 110 = .ok (.iadd, 1) := by decide +kernel
theorem dX11_endOf_111 : decode cX11_endOf 111 = .ok (.ireturn, 1) := by decide +kernel
theorem dX11_isDone_0 : decode cX11_isDone 0 = .ok (.aload_n 0, 1) := by decide +kernel
theorem dX11_isDone_1 : decode cX11_isDone 1 = .ok (.iload_n 1, 1) := by decide +kernel
theorem dX11_isDone_2 : decode cX11_isDone 2 = .ok (.invokevirtual 357, 3) := by decide +kernel
theorem dX11_isDone_5 : decode cX11_isDone 5 = .ok (.istore_n 2, 1) := by decide +kernel
theorem dX11_isDone_6 : decode cX11_isDone 6 = .ok (.aload_n 0, 1) := by decide +kernel
theorem dX11_isDone_7 : decode cX11_isDone 7 = .ok (.iload_n 1, 1) := by decide +kernel
theorem dX11_isDone_8 : decode cX11_isDone 8 = .ok (.iconst 1, 1) := by decide +kernel
theorem dX11_isDone_9 : decode cX11_isDone 9 = .ok (.iadd, 1) := by decide +kernel
theorem dX11_isDone_10 : decode cX11_isDone 10 = .ok (.invokevirtual 690, 3) := by decide +kernel
theorem dX11_isDone_13 : decode cX11_isDone 13 = .ok (.istore_n 3, 1) := by decide +kernel
theorem dX11_isDone_14 : decode cX11_isDone 14 = .ok (.aload_n 0, 1) := by decide +kernel
theorem dX11_isDone_15 : decode cX11_isDone 15 = .ok (.iload_n 1, 1) := by decide +kernel
theorem dX11_isDone_16 : decode cX11_isDone 16 = .ok (.iconst 2, 1) := by decide +kernel
theorem dX11_isDone_17 : decode cX11_isDone 17 = .ok (.iadd, 1) := by decide +kernel
theorem dX11_isDone_18 : decode cX11_isDone 18 = .ok (.invokevirtual 690, 3) := by decide +kernel
theorem dX11_isDone_21 : decode cX11_isDone 21 = .ok (.istore 4, 2) := by decide +kernel
theorem dX11_isDone_23 : decode cX11_isDone 23 = .ok (.iload_n 2, 1) := by decide +kernel
theorem dX11_isDone_24 : decode cX11_isDone 24 = .ok (.bipush 115, 2) := by decide +kernel
theorem dX11_isDone_26 : decode cX11_isDone 26 = .ok (.if_icmp .ne 27, 3) := by decide +kernel
theorem dX11_isDone_29 : decode cX11_isDone 29 = .ok (.iload_n 3, 1) := by decide +kernel
theorem dX11_isDone_30 : decode cX11_isDone 30 = .ok (.aload_n 0, 1) := by decide +kernel
theorem dX11_isDone_31 : decode cX11_isDone 31 = .ok (.getfield 47, 3) := by decide +kernel
theorem dX11_isDone_34 : decode cX11_isDone 34 = .ok (.iconst 0, 1) := by decide +kernel
theorem dX11_isDone_35 : decode cX11_isDone 35 = .ok (.iaload, 1) := by decide +kernel
theorem dX11_isDone_36 : decode cX11_isDone 36 = .ok (.if_icmp .ge 15, 3) := by decide +kernel
theorem dX11_isDone_39 : decode cX11_isDone 39 = .ok (.aload_n 0, 1) := by decide +kernel
theorem dX11_isDone_40 : decode cX11_isDone 40 = .ok (.iload_n 3, 1) := by decide +kernel
theorem dX11_isDone_41 : decode cX11_isDone 41 = .ok (.invokevirtual 672, 3) := by decide +kernel
theorem dX11_isDone_44 : decode cX11_isDone 44 = .ok (.ifCond .le 7, 3) := by decide +kernel
theorem dX11_isDone_47 : decode cX11_isDone 47 = .ok (.iconst 1, 1) := by decide +kernel
theorem dX11_isDone_48 : decode cX11_isDone 48 = .ok (.goto 4, 3) := by decide +kernel
theorem dX11_isDone_51 : decode cX11_isDone 51 = .ok (.iconst 0, 1) := by decide +kernel
theorem dX11_isDone_52 : decode cX11_isDone 52 = .ok (.ireturn, 1) := by decide +kernel
theorem dX11_isDone_53 : decode cX11_isDone 53 = .ok (.iload_n 2, 1) := by decide +kernel
theorem dX11_isDone_54 : decode cX11_isDone 54 = .ok (.bipush 100, 2) := by decide +kernel
theorem dX11_isDone_56 : decode cX11_isDone 56 = .ok (.if_icmp .ne 27, 3) := by decide +kernel
theorem dX11_isDone_59 : decode cX11_isDone 59 = .ok (.iload_n 3, 1) := by decide +kernel
theorem dX11_isDone_60 : decode cX11_isDone 60 = .ok (.aload_n 0, 1) := by decide +kernel
theorem dX11_isDone_61 : decode cX11_isDone 61 = .ok (.getfield 47, 3) := by decide +kernel
theorem dX11_isDone_64 : decode cX11_isDone 64 = .ok (.iconst 0, 1) := by decide +kernel
theorem dX11_isDone_65 : decode cX11_isDone 65 = .ok (.iaload, 1) := by decide +kernel
theorem dX11_isDone_66 : decode cX11_isDone 66 = .ok (.if_icmp .ge 15, 3) := by decide +kernel
theorem dX11_isDone_69 : decode cX11_isDone 69 = .ok (.aload_n 0, 1) := by decide +kernel
theorem dX11_isDone_70 : decode cX11_isDone 70 = .ok (.iload_n 3, 1) := by decide +kernel
theorem dX11_isDone_71 : decode cX11_isDone 71 = .ok (.invokevirtual 675, 3) := by decide +kernel
theorem dX11_isDone_74 : decode cX11_isDone 74 = .ok (.ifCond .le 7, 3) := by decide +kernel
theorem dX11_isDone_77 : decode cX11_isDone 77 = .ok (.iconst 1, 1) := by decide +kernel
theorem dX11_isDone_78 : decode cX11_isDone 78 = .ok (.goto 4, 3) := by decide +kernel
theorem dX11_isDone_81 : decode cX11_isDone 81 = .ok (.iconst 0, 1) := by decide +kernel
theorem dX11_isDone_82 : decode cX11_isDone 82 = .ok (.ireturn, 1) := by decide +kernel
theorem dX11_isDone_83 : decode cX11_isDone 83 = .ok (.iload_n 2, 1) := by decide +kernel
theorem dX11_isDone_84 : decode cX11_isDone 84 = .ok (.bipush 109, 2) := by decide +kernel
theorem dX11_isDone_86 : decode cX11_isDone 86 = .ok (.if_icmp .ne 17, 3) := by decide +kernel
theorem dX11_isDone_89 : decode cX11_isDone 89 = .ok (.aload_n 0, 1) := by decide +kernel
theorem dX11_isDone_90 : decode cX11_isDone 90 = .ok (.bipush 16, 2) := by decide +kernel
theorem dX11_isDone_92 : decode cX11_isDone 92 = .ok (.iload_n 3, 1) := by decide +kernel
theorem dX11_isDone_93 : decode cX11_isDone 93 = .ok (.imul, 1) := by decide +kernel
theorem dX11_isDone_94 : decode cX11_isDone 94 = .ok (.iload 4, 2) := by decide +kernel
theorem dX11_isDone_96 : decode cX11_isDone 96 = .ok (.iadd, 1) := by decide +kernel
theorem dX11_isDone_97 : decode cX11_isDone 97 = .ok (.invokevirtual 678, 3) := by decide +kernel
theorem dX11_isDone_100 : decode cX11_isDone 100 = .ok (.goto 10, 3) := by decide +kernel
theorem dX11_isDone_103 : decode cX11_isDone 103 = .ok (.aload_n 0, 1) := by decide +kernel
theorem dX11_isDone_104 : decode cX11_isDone 104 = .ok (.iload_n 3, 1) := by decide +kernel
theorem dX11_isDone_105 : decode cX11_isDone 105 = .ok (.iload 4, 2) := by decide +kernel
theorem dX11_isDone_107 : decode cX11_isDone 107 = .ok (.invokevirtual 684, 3) := by decide +kernel
theorem dX11_isDone_110 : decode cX11_isDone 110 = .ok (.ireturn, 1) := by decide +kernel
theorem dX11_entry_0 : decode cX11_entry 0 = .ok (.iconst 0, 1) := by decide +kernel
theorem dX11_entry_1 : decode cX11_entry 1 = .ok (.istore_n 2, 1) := by decide +kernel
theorem dX11_entry_2 : decode cX11_entry 2 = .ok (.iload_n 2, 1) := by decide +kernel
theorem dX11_entry_3 : decode cX11_entry 3 = .ok (.aload_n 0, 1) := by decide +kernel
theorem dX11_entry_4 : decode cX11_entry 4 = .ok (.getfield 47, 3) := by decide +kernel
theorem dX11_entry_7 : decode cX11_entry 7 = .ok (.iconst 0, 1) := by decide +kernel
theorem dX11_entry_8 : decode cX11_entry 8 = .ok (.iaload, 1) := by decide +kernel
theorem dX11_entry_9 : decode cX11_entry 9 = .ok (.if_icmp .ge 68, 3) := by decide +kernel
theorem dX11_entry_12 : decode cX11_entry 12 = .ok (.aload_n 0, 1) := by decide +kernel
theorem dX11_entry_13 : decode cX11_entry 13 = .ok (.getfield 96, 3) := by decide +kernel
theorem dX11_entry_16 : decode cX11_entry 16 = .ok (.iload_n 2, 1) := by decide +kernel
theorem dX11_entry_17 : decode cX11_entry 17 = .ok (.dup2, 1) := by decide +kernel
theorem dX11_entry_18 : decode cX11_entry 18 = .ok (.iaload, 1) := by decide +kernel
theorem dX11_entry_19 : decode cX11_entry 19 = .ok (.aload_n 0, 1) := by decide +kernel
theorem dX11_entry_20 : decode cX11_entry 20 = .ok (.getfield 65, 3) := by decide +kernel
theorem dX11_entry_23 : decode cX11_entry 23 = .ok (.iload_n 2, 1) := by decide +kernel
theorem dX11_entry_24 : decode cX11_entry 24 = .ok (.iaload, 1) := by decide +kernel
theorem dX11_entry_25 : decode cX11_entry 25 = .ok (.ifCond .ne 7, 3) := by decide +kernel
theorem dX11_entry_28 : decode cX11_entry 28 = .ok (.iconst 1, 1) := by decide +kernel
theorem dX11_entry_29 : decode cX11_entry 29 = .ok (.goto 4, 3) := by decide +kernel
theorem dX11_entry_32 : decode cX11_entry 32 = .ok (.iconst 0, 1) := by decide +kernel
theorem dX11_entry_33 : decode cX11_entry 33 = .ok (.iadd, 1) := by decide +kernel
theorem dX11_entry_34 : decode cX11_entry 34 = .ok (.iastore, 1) := by decide +kernel
theorem dX11_entry_35 : decode cX11_entry 35 = .ok (.aload_n 0, 1) := by decide +kernel
theorem dX11_entry_36 : decode cX11_entry 36 = .ok (.getfield 99, 3) := by decide +kernel
theorem dX11_entry_39 : decode cX11_entry 39 = .ok (.iload_n 2, 1) := by decide +kernel
theorem dX11_entry_40 : decode cX11_entry 40 = .ok (.aload_n 0, 1) := by decide +kernel
theorem dX11_entry_41 : decode cX11_entry 41 = .ok (.getfield 96, 3) := by decide +kernel
theorem dX11_entry_44 : decode cX11_entry 44 = .ok (.iload_n 2, 1) := by decide +kernel
theorem dX11_entry_45 : decode cX11_entry 45 = .ok (.iaload, 1) := by decide +kernel
theorem dX11_entry_46 : decode cX11_entry 46 = .ok (.aload_n 0, 1) := by decide +kernel
theorem dX11_entry_47 : decode cX11_entry 47 = .ok (.getfield 99, 3) := by decide +kernel
theorem dX11_entry_50 : decode cX11_entry 50 = .ok (.iload_n 2, 1) := by decide +kernel
theorem dX11_entry_51 : decode cX11_entry 51 = .ok (.iaload, 1) := by decide +kernel
theorem dX11_entry_52 : decode cX11_entry 52 = .ok (.if_icmp .le 12, 3) := by decide +kernel
theorem dX11_entry_55 : decode cX11_entry 55 = .ok (.aload_n 0, 1) := by decide +kernel
theorem dX11_entry_56 : decode cX11_entry 56 = .ok (.getfield 96, 3) := by decide +kernel
theorem dX11_entry_59 : decode cX11_entry 59 = .ok (.iload_n 2, 1) := by decide +kernel
theorem dX11_entry_60 : decode cX11_entry 60 = .ok (.iaload, 1) := by decide +kernel
theorem dX11_entry_61 : decode cX11_entry 61 = .ok (.goto 9, 3) := by decide +kernel
theorem dX11_entry_64 : decode cX11_entry 64 = .ok (.aload_n 0, 1) := by decide +kernel
theorem dX11_entry_65 : decode cX11_entry 65 = .ok (.getfield 99, 3) := by decide +kernel
theorem dX11_entry_68 : decode cX11_entry 68 = .ok (.iload_n 2, 1) := by decide +kernel
theorem dX11_entry_69 : decode cX11_entry 69 = .ok (.iaload, 1) := by decide +kernel
theorem dX11_entry_70 : decode cX11_entry 70 = .ok (.iastore, 1) := by decide +kernel
theorem dX11_entry_71 : decode cX11_entry 71 = .ok (.iinc 2 1, 3) := by decide +kernel
theorem dX11_entry_74 : decode cX11_entry 74 = .ok (.goto (-72), 3) := by decide +kernel
theorem dX11_entry_77 : decode cX11_entry 77 = .ok (.aload_n 0, 1) := by decide +kernel
theorem dX11_entry_78 : decode cX11_entry 78 = .ok (.iload_n 1, 1) := by decide +kernel
theorem dX11_entry_79 : decode cX11_entry 79 = .ok (.invokevirtual 693, 3) := by decide +kernel
theorem dX11_entry_82 : decode cX11_entry 82 = .ok (.istore_n 2, 1) := by decide +kernel
theorem dX11_entry_83 : decode cX11_entry 83 = .ok (.aload_n 0, 1) := by decide +kernel
theorem dX11_entry_84 : decode cX11_entry 84 = .ok (.dup, 1) := by decide +kernel
theorem dX11_entry_85 : decode cX11_entry 85 = .ok (.getfield 331, 3) := by decide +kernel
theorem dX11_entry_88 : decode cX11_entry 88 = .ok (.iconst 1, 1) := by decide +kernel
theorem dX11_entry_89 : decode cX11_entry 89 = .ok (.iadd, 1) := by decide +kernel
theorem dX11_entry_90 : decode cX11_entry 90 = .ok (.putfield 331, 3) := by decide +kernel
theorem dX11_entry_93 : decode cX11_entry 93 = .ok (.aload_n 0, 1) := by decide +kernel
theorem dX11_entry_94 : decode cX11_entry 94 = .ok (.dup, 1) := by decide +kernel
theorem dX11_entry_95 : decode cX11_entry 95 = .ok (.getfield 334, 3) := by decide +kernel
theorem dX11_entry_98 : decode cX11_entry 98 = .ok (.iload_n 2, 1) := by decide +kernel
theorem dX11_entry_99 : decode cX11_entry 99 = .ok (.ifCond .eq 7, 3) := by decide +kernel
theorem dX11_entry_102 : decode cX11_entry 102 = .ok (.iconst 0, 1) := by decide +kernel
theorem dX11_entry_103 : decode cX11_entry 103 = .ok (.goto 4, 3) := by decide +kernel
theorem dX11_entry_106 : decode cX11_entry 106 = .ok (.iconst 1, 1) := by decide +kernel
theorem dX11_entry_107 : decode cX11_entry 107 = .ok (.iadd, 1) := by decide +kernel
theorem dX11_entry_108 : decode cX11_entry 108 = .ok (.putfield 334, 3) := by decide +kernel
theorem dX11_entry_111 : decode cX11_entry 111 = .ok (.return_, 1) := by decide +kernel
theorem dX11_play_0 : decode cX11_play 0 = .ok (.aload_n 0, 1) := by decide +kernel
theorem dX11_play_1 : decode cX11_play 1 = .ok (.iconst 0, 1) := by decide +kernel
theorem dX11_play_2 : decode cX11_play 2 = .ok (.putfield 372, 3) := by decide +kernel
theorem dX11_play_5 : decode cX11_play 5 = .ok (.aload_n 0, 1) := by decide +kernel
theorem dX11_play_6 : decode cX11_play 6 = .ok (.iconst 0, 1) := by decide +kernel
theorem dX11_play_7 : decode cX11_play 7 = .ok (.putfield 375, 3) := by decide +kernel
theorem dX11_play_10 : decode cX11_play 10 = .ok (.iconst 0, 1) := by decide +kernel
theorem dX11_play_11 : decode cX11_play 11 = .ok (.istore_n 1, 1) := by decide +kernel
theorem dX11_play_12 : decode cX11_play 12 = .ok (.iload_n 1, 1) := by decide +kernel
theorem dX11_play_13 : decode cX11_play 13 = .ok (.ifCond .lt 36, 3) := by decide +kernel
theorem dX11_play_16 : decode cX11_play 16 = .ok (.iload_n 1, 1) := by decide +kernel
theorem dX11_play_17 : decode cX11_play 17 = .ok (.aload_n 0, 1) := by decide +kernel
theorem dX11_play_18 : decode cX11_play 18 = .ok (.getfield 337, 3) := by decide +kernel
theorem dX11_play_21 : decode cX11_play 21 = .ok (.if_icmp .ge 28, 3) := by decide +kernel
theorem dX11_play_24 : decode cX11_play 24 = .ok (.aload_n 0, 1) := by decide +kernel
theorem dX11_play_25 : decode cX11_play 25 = .ok (.iload_n 1, 1) := by decide +kernel
theorem dX11_play_26 : decode cX11_play 26 = .ok (.invokevirtual 357, 3) := by decide +kernel
theorem dX11_play_29 : decode cX11_play 29 = .ok (.bipush 32, 2) := by decide +kernel
theorem dX11_play_31 : decode cX11_play 31 = .ok (.if_icmp .ne 9, 3) := by decide +kernel
theorem dX11_play_34 : decode cX11_play 34 = .ok (.iload_n 1, 1) := by decide +kernel
theorem dX11_play_35 : decode cX11_play 35 = .ok (.iconst 1, 1) := by decide +kernel
theorem dX11_play_36 : decode cX11_play 36 = .ok (.iadd, 1) := by decide +kernel
theorem dX11_play_37 : decode cX11_play 37 = .ok (.goto 8, 3) := by decide +kernel
theorem dX11_play_40 : decode cX11_play 40 = .ok (.aload_n 0, 1) := by decide +kernel
theorem dX11_play_41 : decode cX11_play 41 = .ok (.iload_n 1, 1) := by decide +kernel
theorem dX11_play_42 : decode cX11_play 42 = .ok (.invokevirtual 696, 3) := by decide +kernel
theorem dX11_play_45 : decode cX11_play 45 = .ok (.istore_n 1, 1) := by decide +kernel
theorem dX11_play_46 : decode cX11_play 46 = .ok (.goto (-34), 3) := by decide +kernel
theorem dX11_play_49 : decode cX11_play 49 = .ok (.iload_n 1, 1) := by decide +kernel
theorem dX11_play_50 : decode cX11_play 50 = .ok (.ifCond .ge 26, 3) := by decide +kernel
theorem dX11_play_53 : decode cX11_play 53 = .ok (.aload_n 0, 1) := by decide +kernel
theorem dX11_play_54 : decode cX11_play 54 = .ok (.iconst 4, 1) := by decide +kernel
theorem dX11_play_55 : decode cX11_play 55 = .ok (.putfield 372, 3) := by decide +kernel
theorem dX11_play_58 : decode cX11_play 58 = .ok (.aload_n 0, 1) := by decide +kernel
theorem dX11_play_59 : decode cX11_play 59 = .ok (.iconst (-1), 1) := by decide +kernel
theorem dX11_play_60 : decode cX11_play 60 = .ok (.iload_n 1, 1) := by decide +kernel
theorem dX11_play_61 : decode cX11_play 61 = .ok (.isub, 1) := by decide +kernel
theorem dX11_play_62 : decode cX11_play 62 = .ok (.putfield 375, 3) := by decide +kernel
theorem dX11_play_65 : decode cX11_play 65 = .ok (.aload_n 0, 1) := by decide +kernel
theorem dX11_play_66 : decode cX11_play 66 = .ok (.iconst 0, 1) := by decide +kernel
theorem dX11_play_67 : decode cX11_play 67 = .ok (.putfield 337, 3) := by decide +kernel
theorem dX11_play_70 : decode cX11_play 70 = .ok (.aload_n 0, 1) := by decide +kernel
theorem dX11_play_71 : decode cX11_play 71 = .ok (.iconst 1, 1) := by decide +kernel
theorem dX11_play_72 : decode cX11_play 72 = .ok (.invokevirtual 525, 3) := by decide +kernel
theorem dX11_play_75 : decode cX11_play 75 = .ok (.ireturn, 1) := by decide +kernel
theorem dX11_play_76 : decode cX11_play 76 = .ok (.aload_n 0, 1) := by decide +kernel
theorem dX11_play_77 : decode cX11_play 77 = .ok (.iconst 0, 1) := by decide +kernel
theorem dX11_play_78 : decode cX11_play 78 = .ok (.putfield 306, 3) := by decide +kernel
theorem dX11_play_81 : decode cX11_play 81 = .ok (.aload_n 0, 1) := by decide +kernel
theorem dX11_play_82 : decode cX11_play 82 = .ok (.getfield 334, 3) := by decide +kernel
theorem dX11_play_85 : decode cX11_play 85 = .ok (.istore_n 2, 1) := by decide +kernel
theorem dX11_play_86 : decode cX11_play 86 = .ok (.iconst 0, 1) := by decide +kernel
theorem dX11_play_87 : decode cX11_play 87 = .ok (.istore_n 1, 1) := by decide +kernel
theorem dX11_play_88 : decode cX11_play 88 = .ok (.iload_n 1, 1) := by decide +kernel
theorem dX11_play_89 : decode cX11_play 89 = .ok (.aload_n 0, 1) := by decide +kernel
theorem dX11_play_90 : decode cX11_play 90 = .ok (.getfield 337, 3) := by decide +kernel
theorem dX11_play_93 : decode cX11_play 93 = .ok (.if_icmp .ge 43, 3) := by decide +kernel
theorem dX11_play_96 : decode cX11_play 96 = .ok (.aload_n 0, 1) := by decide +kernel
theorem dX11_play_97 : decode cX11_play 97 = .ok (.iload_n 1, 1) := by decide +kernel
theorem dX11_play_98 : decode cX11_play 98 = .ok (.invokevirtual 357, 3) := by decide +kernel
theorem dX11_play_101 : decode cX11_play 101 = .ok (.bipush 32, 2) := by decide +kernel
theorem dX11_play_103 : decode cX11_play 103 = .ok (.if_icmp .eq 8, 3) := by decide +kernel
theorem dX11_play_106 : decode cX11_play 106 = .ok (.aload_n 0, 1) := by decide +kernel
theorem dX11_play_107 : decode cX11_play 107 = .ok (.iload_n 1, 1) := by decide +kernel
theorem dX11_play_108 : decode cX11_play 108 = .ok (.invokevirtual 699, 3) := by decide +kernel
theorem dX11_play_111 : decode cX11_play 111 = .ok (.aload_n 0, 1) := by decide +kernel
theorem dX11_play_112 : decode cX11_play 112 = .ok (.iload_n 1, 1) := by decide +kernel
theorem dX11_play_113 : decode cX11_play 113 = .ok (.invokevirtual 357, 3) := by decide +kernel
theorem dX11_play_116 : decode cX11_play 116 = .ok (.bipush 32, 2) := by decide +kernel
theorem dX11_play_118 : decode cX11_play 118 = .ok (.if_icmp .ne 9, 3) := by decide +kernel
theorem dX11_play_121 : decode cX11_play 121 = .ok (.iload_n 1, 1) := by decide +kernel
theorem dX11_play_122 : decode cX11_play 122 = .ok (.iconst 1, 1) := by decide +kernel
theorem dX11_play_123 : decode cX11_play 123 = .ok (.iadd, 1) := by decide +kernel
theorem dX11_play_124 : decode cX11_play 124 = .ok (.goto 8, 3) := by decide +kernel
theorem dX11_play_127 : decode cX11_play 127 = .ok (.aload_n 0, 1) := by decide +kernel
theorem dX11_play_128 : decode cX11_play 128 = .ok (.iload_n 1, 1) := by decide +kernel
theorem dX11_play_129 : decode cX11_play 129 = .ok (.invokevirtual 696, 3) := by decide +kernel
theorem dX11_play_132 : decode cX11_play 132 = .ok (.istore_n 1, 1) := by decide +kernel
theorem dX11_play_133 : decode cX11_play 133 = .ok (.goto (-45), 3) := by decide +kernel
theorem dX11_play_136 : decode cX11_play 136 = .ok (.aload_n 0, 1) := by decide +kernel
theorem dX11_play_137 : decode cX11_play 137 = .ok (.iconst 0, 1) := by decide +kernel
theorem dX11_play_138 : decode cX11_play 138 = .ok (.putfield 337, 3) := by decide +kernel
theorem dX11_play_141 : decode cX11_play 141 = .ok (.aload_n 0, 1) := by decide +kernel
theorem dX11_play_142 : decode cX11_play 142 = .ok (.getfield 334, 3) := by decide +kernel
theorem dX11_play_145 : decode cX11_play 145 = .ok (.iload_n 2, 1) := by decide +kernel
theorem dX11_play_146 : decode cX11_play 146 = .ok (.isub, 1) := by decide +kernel
theorem dX11_play_147 : decode cX11_play 147 = .ok (.ireturn, 1) := by decide +kernel
theorem dX11_trace_0 : decode cX11_trace 0 = .ok (.aload_n 0, 1) := by decide +kernel
theorem dX11_trace_1 : decode cX11_trace 1 = .ok (.iload_n 1, 1) := by decide +kernel
theorem dX11_trace_2 : decode cX11_trace 2 = .ok (.invokevirtual 669, 3) := by decide +kernel
theorem dX11_trace_5 : decode cX11_trace 5 = .ok (.ifCond .eq 51, 3) := by decide +kernel
theorem dX11_trace_8 : decode cX11_trace 8 = .ok (.iload_n 2, 1) := by decide +kernel
theorem dX11_trace_9 : decode cX11_trace 9 = .ok (.ifCond .lt 47, 3) := by decide +kernel
theorem dX11_trace_12 : decode cX11_trace 12 = .ok (.iload_n 2, 1) := by decide +kernel
theorem dX11_trace_13 : decode cX11_trace 13 = .ok (.bipush 32, 2) := by decide +kernel
theorem dX11_trace_15 : decode cX11_trace 15 = .ok (.if_icmp .ge 41, 3) := by decide +kernel
theorem dX11_trace_18 : decode cX11_trace 18 = .ok (.iload_n 2, 1) := by decide +kernel
theorem dX11_trace_19 : decode cX11_trace 19 = .ok (.aload_n 0, 1) := by decide +kernel
theorem dX11_trace_20 : decode cX11_trace 20 = .ok (.getfield 68, 3) := by decide +kernel
theorem dX11_trace_23 : decode cX11_trace 23 = .ok (.iload_n 1, 1) := by decide +kernel
theorem dX11_trace_24 : decode cX11_trace 24 = .ok (.ifCond .lt 9, 3) := by decide +kernel
theorem dX11_trace_27 : decode cX11_trace 27 = .ok (.iload_n 1, 1) := by decide +kernel
theorem dX11_trace_28 : decode cX11_trace 28 = .ok (.bipush 16, 2) := by decide +kernel
theorem dX11_trace_30 : decode cX11_trace 30 = .ok (.if_icmp .lt 7, 3) := by decide +kernel
theorem dX11_trace_33 : decode cX11_trace 33 = .ok (.iconst 0, 1) := by decide +kernel
theorem dX11_trace_34 : decode cX11_trace 34 = .ok (.goto 4, 3) := by decide +kernel
theorem dX11_trace_37 : decode cX11_trace 37 = .ok (.iload_n 1, 1) := by decide +kernel
theorem dX11_trace_38 : decode cX11_trace 38 = .ok (.iaload, 1) := by decide +kernel
theorem dX11_trace_39 : decode cX11_trace 39 = .ok (.if_icmp .ge 17, 3) := by decide +kernel
theorem dX11_trace_42 : decode cX11_trace 42 = .ok (.iload_n 3, 1) := by decide +kernel
theorem dX11_trace_43 : decode cX11_trace 43 = .ok (.ifCond .lt 13, 3) := by decide +kernel
theorem dX11_trace_46 : decode cX11_trace 46 = .ok (.iload_n 3, 1) := by decide +kernel
theorem dX11_trace_47 : decode cX11_trace 47 = .ok (.bipush 8, 2) := by decide +kernel
theorem dX11_trace_49 : decode cX11_trace 49 = .ok (.if_icmp .ge 7, 3) := by decide +kernel
theorem dX11_trace_52 : decode cX11_trace 52 = .ok (.iconst 1, 1) := by decide +kernel
theorem dX11_trace_53 : decode cX11_trace 53 = .ok (.goto 4, 3) := by decide +kernel
theorem dX11_trace_56 : decode cX11_trace 56 = .ok (.iconst 0, 1) := by decide +kernel
theorem dX11_trace_57 : decode cX11_trace 57 = .ok (.istore 4, 2) := by decide +kernel
theorem dX11_trace_59 : decode cX11_trace 59 = .ok (.iload 4, 2) := by decide +kernel
theorem dX11_trace_61 : decode cX11_trace 61 = .ok (.ifCond .ne 9, 3) := by decide +kernel
theorem dX11_trace_64 : decode cX11_trace 64 = .ok (.aload_n 0, 1) := by decide +kernel
theorem dX11_trace_65 : decode cX11_trace 65 = .ok (.iconst 1, 1) := by decide +kernel
theorem dX11_trace_66 : decode cX11_trace 66 = .ok (.invokevirtual 525, 3) := by decide +kernel
theorem dX11_trace_69 : decode cX11_trace 69 = .ok (.ireturn, 1) := by decide +kernel
theorem dX11_trace_70 : decode cX11_trace 70 = .ok (.aload_n 0, 1) := by decide +kernel
theorem dX11_trace_71 : decode cX11_trace 71 = .ok (.iconst 0, 1) := by decide +kernel
theorem dX11_trace_72 : decode cX11_trace 72 = .ok (.putfield 306, 3) := by decide +kernel
theorem dX11_trace_75 : decode cX11_trace 75 = .ok (.aload_n 0, 1) := by decide +kernel
theorem dX11_trace_76 : decode cX11_trace 76 = .ok (.getfield 68, 3) := by decide +kernel
theorem dX11_trace_79 : decode cX11_trace 79 = .ok (.iload_n 1, 1) := by decide +kernel
theorem dX11_trace_80 : decode cX11_trace 80 = .ok (.iaload, 1) := by decide +kernel
theorem dX11_trace_81 : decode cX11_trace 81 = .ok (.iconst 1, 1) := by decide +kernel
theorem dX11_trace_82 : decode cX11_trace 82 = .ok (.isub, 1) := by decide +kernel
theorem dX11_trace_83 : decode cX11_trace 83 = .ok (.iload_n 2, 1) := by decide +kernel
theorem dX11_trace_84 : decode cX11_trace 84 = .ok (.isub, 1) := by decide +kernel
theorem dX11_trace_85 : decode cX11_trace 85 = .ok (.istore 5, 2) := by decide +kernel
theorem dX11_trace_87 : decode cX11_trace 87 = .ok (.iload_n 3, 1) := by decide +kernel
theorem dX11_trace_88 : decode cX11_trace 88 = .ok (.bipush 7, 2) := by decide +kernel
theorem dX11_trace_90 : decode cX11_trace 90 = .ok (.if_icmp .ne 8, 3) := by decide +kernel
theorem dX11_trace_93 : decode cX11_trace 93 = .ok (.iload 5, 2) := by decide +kernel
theorem dX11_trace_95 : decode cX11_trace 95 = .ok (.goto 23, 3) := by decide +kernel
theorem dX11_trace_98 : decode cX11_trace 98 = .ok (.aload_n 0, 1) := by decide +kernel
theorem dX11_trace_99 : decode cX11_trace 99 = .ok (.getfield 102, 3) := by decide +kernel
theorem dX11_trace_102 : decode cX11_trace 102 = .ok (.bipush 7, 2) := by decide +kernel
theorem dX11_trace_104 : decode cX11_trace 104 = .ok (.bipush 32, 2) := by decide +kernel
theorem dX11_trace_106 : decode cX11_trace 106 = .ok (.iload_n 1, 1) := by decide +kernel
theorem dX11_trace_107 : decode cX11_trace 107 = .ok (.imul, 1) := by decide +kernel
theorem dX11_trace_108 : decode cX11_trace 108 = .ok (.iload 5, 2) := by decide +kernel
theorem dX11_trace_110 : decode cX11_trace 110 = .ok (.bipush 32, 2) := by decide +kernel
theorem dX11_trace_112 : decode cX11_trace 112 = .ok (.irem, 1) := by decide +kernel
theorem dX11_trace_113 : decode cX11_trace 113 = .ok (.iadd, 1) := by decide +kernel
theorem dX11_trace_114 : decode cX11_trace 114 = .ok (.imul, 1) := by decide +kernel
theorem dX11_trace_115 : decode cX11_trace 115 = .ok (.iload_n 3, 1) := by decide +kernel
theorem dX11_trace_116 : decode cX11_trace 116 = .ok (.iadd, 1) := by decide +kernel
theorem dX11_trace_117 : decode cX11_trace 117 = .ok (.iaload, 1) := by decide +kernel
theorem dX11_trace_118 : decode cX11_trace 118 = .ok (.ireturn, 1) := by decide +kernel
theorem dX11_core_0 : decode cX11_core 0 = .ok (.aload_n 0, 1) := by decide +kernel
theorem dX11_core_1 : decode cX11_core 1 = .ok (.iconst 0, 1) := by decide +kernel
theorem dX11_core_2 : decode cX11_core 2 = .ok (.putfield 306, 3) := by decide +kernel
theorem dX11_core_5 : decode cX11_core 5 = .ok (.aload_n 0, 1) := by decide +kernel
theorem dX11_core_6 : decode cX11_core 6 = .ok (.iload_n 1, 1) := by decide +kernel
theorem dX11_core_7 : decode cX11_core 7 = .ok (.invokevirtual 669, 3) := by decide +kernel
theorem dX11_core_10 : decode cX11_core 10 = .ok (.ifCond .ne 9, 3) := by decide +kernel
theorem dX11_core_13 : decode cX11_core 13 = .ok (.aload_n 0, 1) := by decide +kernel
theorem dX11_core_14 : decode cX11_core 14 = .ok (.iconst 1, 1) := by decide +kernel
theorem dX11_core_15 : decode cX11_core 15 = .ok (.invokevirtual 525, 3) := by decide +kernel
theorem dX11_core_18 : decode cX11_core 18 = .ok (.ireturn, 1) := by decide +kernel
theorem dX11_core_19 : decode cX11_core 19 = .ok (.iload_n 2, 1) := by decide +kernel
theorem dX11_core_20 : decode cX11_core 20 = .ok (.bipush 100, 2) := by decide +kernel
theorem dX11_core_22 : decode cX11_core 22 = .ok (.if_icmp .lt 69, 3) := by decide +kernel
theorem dX11_core_25 : decode cX11_core 25 = .ok (.iload_n 2, 1) := by decide +kernel
theorem dX11_core_26 : decode cX11_core 26 = .ok (.bipush 100, 2) := by decide +kernel
theorem dX11_core_28 : decode cX11_core 28 = .ok (.iconst 3, 1) := by decide +kernel
theorem dX11_core_29 : decode cX11_core 29 = .ok (.aload_n 0, 1) := by decide +kernel
theorem dX11_core_30 : decode cX11_core 30 = .ok (.getfield 74, 3) := by decide +kernel
theorem dX11_core_33 : decode cX11_core 33 = .ok (.iload_n 1, 1) := by decide +kernel
theorem dX11_core_34 : decode cX11_core 34 = .ok (.iaload, 1) := by decide +kernel
theorem dX11_core_35 : decode cX11_core 35 = .ok (.imul, 1) := by decide +kernel
theorem dX11_core_36 : decode cX11_core 36 = .ok (.iadd, 1) := by decide +kernel
theorem dX11_core_37 : decode cX11_core 37 = .ok (.if_icmp .ge 54, 3) := by decide +kernel
theorem dX11_core_40 : decode cX11_core 40 = .ok (.bipush 16, 2) := by decide +kernel
theorem dX11_core_42 : decode cX11_core 42 = .ok (.iload_n 1, 1) := by decide +kernel
theorem dX11_core_43 : decode cX11_core 43 = .ok (.imul, 1) := by decide +kernel
theorem dX11_core_44 : decode cX11_core 44 = .ok (.iload_n 2, 1) := by decide +kernel
theorem dX11_core_45 : decode cX11_core 45 = .ok (.bipush 100, 2) := by decide +kernel
theorem dX11_core_47 : decode cX11_core 47 = .ok (.isub, 1) := by decide +kernel
theorem dX11_core_48 : decode cX11_core 48 = .ok (.iconst 3, 1) := by decide +kernel
theorem dX11_core_49 : decode cX11_core 49 = .ok (.idiv, 1) := by decide +kernel
theorem dX11_core_50 : decode cX11_core 50 = .ok (.iadd, 1) := by decide +kernel
theorem dX11_core_51 : decode cX11_core 51 = .ok (.istore_n 3, 1) := by decide +kernel
theorem dX11_core_52 : decode cX11_core 52 = .ok (.iload_n 2, 1) := by decide +kernel
theorem dX11_core_53 : decode cX11_core 53 = .ok (.iconst 3, 1) := by decide +kernel
theorem dX11_core_54 : decode cX11_core 54 = .ok (.irem, 1) := by decide +kernel
theorem dX11_core_55 : decode cX11_core 55 = .ok (.iconst 1, 1) := by decide +kernel
theorem dX11_core_56 : decode cX11_core 56 = .ok (.if_icmp .ne 12, 3) := by decide +kernel
theorem dX11_core_59 : decode cX11_core 59 = .ok (.aload_n 0, 1) := by decide +kernel
theorem dX11_core_60 : decode cX11_core 60 = .ok (.getfield 77, 3) := by decide +kernel
theorem dX11_core_63 : decode cX11_core 63 = .ok (.iload_n 3, 1) := by decide +kernel
theorem dX11_core_64 : decode cX11_core 64 = .ok (.iaload, 1) := by decide +kernel
theorem dX11_core_65 : decode cX11_core 65 = .ok (.goto 25, 3) := by decide +kernel
theorem dX11_core_68 : decode cX11_core 68 = .ok (.iload_n 2, 1) := by decide +kernel
theorem dX11_core_69 : decode cX11_core 69 = .ok (.iconst 3, 1) := by decide +kernel
theorem dX11_core_70 : decode cX11_core 70 = .ok (.irem, 1) := by decide +kernel
theorem dX11_core_71 : decode cX11_core 71 = .ok (.iconst 2, 1) := by decide +kernel
theorem dX11_core_72 : decode cX11_core 72 = .ok (.if_icmp .ne 12, 3) := by decide +kernel
theorem dX11_core_75 : decode cX11_core 75 = .ok (.aload_n 0, 1) := by decide +kernel
theorem dX11_core_76 : decode cX11_core 76 = .ok (.getfield 80, 3) := by decide +kernel
theorem dX11_core_79 : decode cX11_core 79 = .ok (.iload_n 3, 1) := by decide +kernel
theorem dX11_core_80 : decode cX11_core 80 = .ok (.iaload, 1) := by decide +kernel
theorem dX11_core_81 : decode cX11_core 81 = .ok (.goto 9, 3) := by decide +kernel
theorem dX11_core_84 : decode cX11_core 84 = .ok (.aload_n 0, 1) := by decide +kernel
theorem dX11_core_85 : decode cX11_core 85 = .ok (.getfield 83, 3) := by decide +kernel
theorem dX11_core_88 : decode cX11_core 88 = .ok (.iload_n 3, 1) := by decide +kernel
theorem dX11_core_89 : decode cX11_core 89 = .ok (.iaload, 1) := by decide +kernel
theorem dX11_core_90 : decode cX11_core 90 = .ok (.ireturn, 1) := by decide +kernel
theorem dX11_core_91 : decode cX11_core 91 = .ok (.iload_n 2, 1) := by decide +kernel
theorem dX11_core_92 : decode cX11_core 92 = .ok (.ifCond .lt 16, 3) := by decide +kernel
theorem dX11_core_95 : decode cX11_core 95 = .ok (.iload_n 2, 1) := by decide +kernel
theorem dX11_core_96 : decode cX11_core 96 = .ok (.bipush 32, 2) := by decide +kernel
theorem dX11_core_98 : decode cX11_core 98 = .ok (.if_icmp .ge 10, 3) := by decide +kernel
theorem dX11_core_101 : decode cX11_core 101 = .ok (.aload_n 0, 1) := by decide +kernel
theorem dX11_core_102 : decode cX11_core 102 = .ok (.iload_n 1, 1) := by decide +kernel
theorem dX11_core_103 : decode cX11_core 103 = .ok (.iload_n 2, 1) := by decide +kernel
theorem dX11_core_104 : decode cX11_core 104 = .ok (.invokevirtual 573, 3) := by decide +kernel
theorem dX11_core_107 : decode cX11_core 107 = .ok (.ireturn, 1) := by decide +kernel
theorem dX11_core_108 : decode cX11_core 108 = .ok (.iload_n 2, 1) := by decide +kernel
theorem dX11_core_109 : decode cX11_core 109 = .ok (.tableswitch 114 32 40 #[51, 58, 65, 72, 79, 86, 93, 100, 107], 51) := by decide +kernel
theorem dX11_core_160 : decode cX11_core 160 = .ok (.aload_n 0, 1) := by decide +kernel
theorem dX11_core_161 : decode cX11_core 161 = .ok (.getfield 62, 3) := by decide +kernel
theorem dX11_core_164 : decode cX11_core 164 = .ok (.iload_n 1, 1) := by decide +kernel
theorem dX11_core_165 : decode cX11_core 165 = .ok (.iaload, 1) := by decide +kernel
theorem dX11_core_166 : decode cX11_core 166 = .ok (.ireturn, 1) := by decide +kernel
theorem dX11_core_167 : decode cX11_core 167 = .ok (.aload_n 0, 1) := by decide +kernel
theorem dX11_core_168 : decode cX11_core 168 = .ok (.getfield 65, 3) := by decide +kernel
theorem dX11_core_171 : decode cX11_core 171 = .ok (.iload_n 1, 1) := by decide +kernel
theorem dX11_core_172 : decode cX11_core 172 = .ok (.iaload, 1) := by decide +kernel
theorem dX11_core_173 : decode cX11_core 173 = .ok (.ireturn, 1) := by decide +kernel
theorem dX11_core_174 : decode cX11_core 174 = .ok (.aload_n 0, 1) := by decide +kernel
theorem dX11_core_175 : decode cX11_core 175 = .ok (.getfield 74, 3) := by decide +kernel
theorem dX11_core_178 : decode cX11_core 178 = .ok (.iload_n 1, 1) := by decide +kernel
theorem dX11_core_179 : decode cX11_core 179 = .ok (.iaload, 1) := by decide +kernel
theorem dX11_core_180 : decode cX11_core 180 = .ok (.ireturn, 1) := by decide +kernel
theorem dX11_core_181 : decode cX11_core 181 = .ok (.aload_n 0, 1) := by decide +kernel
theorem dX11_core_182 : decode cX11_core 182 = .ok (.getfield 68, 3) := by decide +kernel
theorem dX11_core_185 : decode cX11_core 185 = .ok (.iload_n 1, 1) := by decide +kernel
theorem dX11_core_186 : decode cX11_core 186 = .ok (.iaload, 1) := by decide +kernel
theorem dX11_core_187 : decode cX11_core 187 = .ok (.ireturn, 1) := by decide +kernel
theorem dX11_core_188 : decode cX11_core 188 = .ok (.aload_n 0, 1) := by decide +kernel
theorem dX11_core_189 : decode cX11_core 189 = .ok (.getfield 86, 3) := by decide +kernel
theorem dX11_core_192 : decode cX11_core 192 = .ok (.iload_n 1, 1) := by decide +kernel
theorem dX11_core_193 : decode cX11_core 193 = .ok (.iaload, 1) := by decide +kernel
theorem dX11_core_194 : decode cX11_core 194 = .ok (.ireturn, 1) := by decide +kernel
theorem dX11_core_195 : decode cX11_core 195 = .ok (.aload_n 0, 1) := by decide +kernel
theorem dX11_core_196 : decode cX11_core 196 = .ok (.getfield 89, 3) := by decide +kernel
theorem dX11_core_199 : decode cX11_core 199 = .ok (.iload_n 1, 1) := by decide +kernel
theorem dX11_core_200 : decode cX11_core 200 = .ok (.iaload, 1) := by decide +kernel
theorem dX11_core_201 : decode cX11_core 201 = .ok (.ireturn, 1) := by decide +kernel
theorem dX11_core_202 : decode cX11_core 202 = .ok (.aload_n 0, 1) := by decide +kernel
theorem dX11_core_203 : decode cX11_core 203 = .ok (.getfield 71, 3) := by decide +kernel
theorem dX11_core_206 : decode cX11_core 206 = .ok (.iload_n 1, 1) := by decide +kernel
theorem dX11_core_207 : decode cX11_core 207 = .ok (.iaload, 1) := by decide +kernel
theorem dX11_core_208 : decode cX11_core 208 = .ok (.ireturn, 1) := by decide +kernel
theorem dX11_core_209 : decode cX11_core 209 = .ok (.aload_n 0, 1) := by decide +kernel
theorem dX11_core_210 : decode cX11_core 210 = .ok (.getfield 96, 3) := by decide +kernel
theorem dX11_core_213 : decode cX11_core 213 = .ok (.iload_n 1, 1) := by decide +kernel
theorem dX11_core_214 : decode cX11_core 214 = .ok (.iaload, 1) := by decide +kernel
theorem dX11_core_215 : decode cX11_core 215 = .ok (.ireturn, 1) := by decide +kernel
theorem dX11_core_216 : decode cX11_core 216 = .ok (.aload_n 0, 1) := by decide +kernel
theorem dX11_core_217 : decode cX11_core 217 = .ok (.getfield 99, 3) := by decide +kernel
theorem dX11_core_220 : decode cX11_core 220 = .ok (.iload_n 1, 1) := by decide +kernel
theorem dX11_core_221 : decode cX11_core 221 = .ok (.iaload, 1) := by decide +kernel
theorem dX11_core_222 : decode cX11_core 222 = .ok (.ireturn, 1) := by decide +kernel
theorem dX11_core_223 : decode cX11_core 223 = .ok (.aload_n 0, 1) := by decide +kernel
theorem dX11_core_224 : decode cX11_core 224 = .ok (.iconst 1, 1) := by decide +kernel
theorem dX11_core_225 : decode cX11_core 225 = .ok (.invokevirtual 525, 3) := by decide +kernel
theorem dX11_core_228 : decode cX11_core 228 = .ok (.ireturn, 1) := by decide +kernel
theorem dX11_cached_0 : decode cX11_cached 0 = .ok (.aload_n 0, 1) := by decide +kernel
theorem dX11_cached_1 : decode cX11_cached 1 = .ok (.iconst 0, 1) := by decide +kernel
theorem dX11_cached_2 : decode cX11_cached 2 = .ok (.putfield 306, 3) := by decide +kernel
theorem dX11_cached_5 : decode cX11_cached 5 = .ok (.aload_n 0, 1) := by decide +kernel
theorem dX11_cached_6 : decode cX11_cached 6 = .ok (.iload_n 1, 1) := by decide +kernel
theorem dX11_cached_7 : decode cX11_cached 7 = .ok (.invokevirtual 669, 3) := by decide +kernel
theorem dX11_cached_10 : decode cX11_cached 10 = .ok (.ifCond .eq 14, 3) := by decide +kernel
theorem dX11_cached_13 : decode cX11_cached 13 = .ok (.iload_n 2, 1) := by decide +kernel
theorem dX11_cached_14 : decode cX11_cached 14 = .ok (.ifCond .lt 10, 3) := by decide +kernel
theorem dX11_cached_17 : decode cX11_cached 17 = .ok (.iload_n 2, 1) := by decide +kernel
theorem dX11_cached_18 : decode cX11_cached 18 = .ok (.sipush 512, 3) := by decide +kernel
theorem dX11_cached_21 : decode cX11_cached 21 = .ok (.if_icmp .lt 5, 3) := by decide +kernel
theorem dX11_cached_24 : decode cX11_cached 24 = .ok (.iconst (-1), 1) := by decide +kernel
theorem dX11_cached_25 : decode cX11_cached 25 = .ok (.ireturn, 1) := by decide +kernel
theorem dX11_cached_26 : decode cX11_cached 26 = .ok (.aload_n 0, 1) := by decide +kernel
theorem dX11_cached_27 : decode cX11_cached 27 = .ok (.iload_n 1, 1) := by decide +kernel
theorem dX11_cached_28 : decode cX11_cached 28 = .ok (.iload_n 2, 1) := by decide +kernel
theorem dX11_cached_29 : decode cX11_cached 29 = .ok (.invokevirtual 539, 3) := by decide +kernel
theorem dX11_cached_32 : decode cX11_cached 32 = .ok (.istore_n 3, 1) := by decide +kernel
theorem dX11_cached_33 : decode cX11_cached 33 = .ok (.iload_n 3, 1) := by decide +kernel
theorem dX11_cached_34 : decode cX11_cached 34 = .ok (.iconst (-1), 1) := by decide +kernel
theorem dX11_cached_35 : decode cX11_cached 35 = .ok (.if_icmp .ne 7, 3) := by decide +kernel
theorem dX11_cached_38 : decode cX11_cached 38 = .ok (.iconst 0, 1) := by decide +kernel
theorem dX11_cached_39 : decode cX11_cached 39 = .ok (.goto 9, 3) := by decide +kernel
theorem dX11_cached_42 : decode cX11_cached 42 = .ok (.aload_n 0, 1) := by decide +kernel
theorem dX11_cached_43 : decode cX11_cached 43 = .ok (.getfield 108, 3) := by decide +kernel
theorem dX11_cached_46 : decode cX11_cached 46 = .ok (.iload_n 3, 1) := by decide +kernel
theorem dX11_cached_47 : decode cX11_cached 47 = .ok (.iaload, 1) := by decide +kernel
theorem dX11_cached_48 : decode cX11_cached 48 = .ok (.ireturn, 1) := by decide +kernel
theorem dX11_isAddress_0 : decode cX11_isAddress 0 = .ok (.iload_n 0, 1) := by decide +kernel
theorem dX11_isAddress_1 : decode cX11_isAddress 1 = .ok (.ifCond .lt 20, 3) := by decide +kernel
theorem dX11_isAddress_4 : decode cX11_isAddress 4 = .ok (.iload_n 0, 1) := by decide +kernel
theorem dX11_isAddress_5 : decode cX11_isAddress 5 = .ok (.sipush 8192, 3) := by decide +kernel
theorem dX11_isAddress_8 : decode cX11_isAddress 8 = .ok (.if_icmp .ge 13, 3) := by decide +kernel
theorem dX11_isAddress_11 : decode cX11_isAddress 11 = .ok (.iload_n 0, 1) := by decide +kernel
theorem dX11_isAddress_12 : decode cX11_isAddress 12 = .ok (.iconst 4, 1) := by decide +kernel
theorem dX11_isAddress_13 : decode cX11_isAddress 13 = .ok (.irem, 1) := by decide +kernel
theorem dX11_isAddress_14 : decode cX11_isAddress 14 = .ok (.ifCond .ne 7, 3) := by decide +kernel
theorem dX11_isAddress_17 : decode cX11_isAddress 17 = .ok (.iconst 1, 1) := by decide +kernel
theorem dX11_isAddress_18 : decode cX11_isAddress 18 = .ok (.goto 4, 3) := by decide +kernel
theorem dX11_isAddress_21 : decode cX11_isAddress 21 = .ok (.iconst 0, 1) := by decide +kernel
theorem dX11_isAddress_22 : decode cX11_isAddress 22 = .ok (.ireturn, 1) := by decide +kernel
theorem dX11_copy_0 : decode cX11_copy 0 = .ok (.aload_n 0, 1) := by decide +kernel
theorem dX11_copy_1 : decode cX11_copy 1 = .ok (.iload_n 1, 1) := by decide +kernel
theorem dX11_copy_2 : decode cX11_copy 2 = .ok (.invokevirtual 669, 3) := by decide +kernel
theorem dX11_copy_5 : decode cX11_copy 5 = .ok (.ifCond .eq 27, 3) := by decide +kernel
theorem dX11_copy_8 : decode cX11_copy 8 = .ok (.iload_n 2, 1) := by decide +kernel
theorem dX11_copy_9 : decode cX11_copy 9 = .ok (.invokestatic 702, 3) := by decide +kernel
theorem dX11_copy_12 : decode cX11_copy 12 = .ok (.ifCond .eq 20, 3) := by decide +kernel
theorem dX11_copy_15 : decode cX11_copy 15 = .ok (.aload_n 0, 1) := by decide +kernel
theorem dX11_copy_16 : decode cX11_copy 16 = .ok (.iload_n 1, 1) := by decide +kernel
theorem dX11_copy_17 : decode cX11_copy 17 = .ok (.iload_n 2, 1) := by decide +kernel
theorem dX11_copy_18 : decode cX11_copy 18 = .ok (.bipush 16, 2) := by decide +kernel
theorem dX11_copy_20 : decode cX11_copy 20 = .ok (.idiv, 1) := by decide +kernel
theorem dX11_copy_21 : decode cX11_copy 21 = .ok (.invokevirtual 539, 3) := by decide +kernel
theorem dX11_copy_24 : decode cX11_copy 24 = .ok (.iconst (-1), 1) := by decide +kernel
theorem dX11_copy_25 : decode cX11_copy 25 = .ok (.if_icmp .eq 7, 3) := by decide +kernel
theorem dX11_copy_28 : decode cX11_copy 28 = .ok (.iconst 1, 1) := by decide +kernel
theorem dX11_copy_29 : decode cX11_copy 29 = .ok (.goto 4, 3) := by decide +kernel
theorem dX11_copy_32 : decode cX11_copy 32 = .ok (.iconst 0, 1) := by decide +kernel
theorem dX11_copy_33 : decode cX11_copy 33 = .ok (.istore_n 3, 1) := by decide +kernel
theorem dX11_copy_34 : decode cX11_copy 34 = .ok (.aload_n 0, 1) := by decide +kernel
theorem dX11_copy_35 : decode cX11_copy 35 = .ok (.iload_n 3, 1) := by decide +kernel
theorem dX11_copy_36 : decode cX11_copy 36 = .ok (.ifCond .eq 7, 3) := by decide +kernel
theorem dX11_copy_39 : decode cX11_copy 39 = .ok (.iconst 0, 1) := by decide +kernel
theorem dX11_copy_40 : decode cX11_copy 40 = .ok (.goto 4, 3) := by decide +kernel
theorem dX11_copy_43 : decode cX11_copy 43 = .ok (.iconst 1, 1) := by decide +kernel
theorem dX11_copy_44 : decode cX11_copy 44 = .ok (.putfield 306, 3) := by decide +kernel
theorem dX11_copy_47 : decode cX11_copy 47 = .ok (.iload_n 3, 1) := by decide +kernel
theorem dX11_copy_48 : decode cX11_copy 48 = .ok (.ifCond .eq 14, 3) := by decide +kernel
theorem dX11_copy_51 : decode cX11_copy 51 = .ok (.aload_n 0, 1) := by decide +kernel
theorem dX11_copy_52 : decode cX11_copy 52 = .ok (.getfield 53, 3) := by decide +kernel
theorem dX11_copy_55 : decode cX11_copy 55 = .ok (.iload_n 2, 1) := by decide +kernel
theorem dX11_copy_56 : decode cX11_copy 56 = .ok (.iconst 4, 1) := by decide +kernel
theorem dX11_copy_57 : decode cX11_copy 57 = .ok (.idiv, 1) := by decide +kernel
theorem dX11_copy_58 : decode cX11_copy 58 = .ok (.iaload, 1) := by decide +kernel
theorem dX11_copy_59 : decode cX11_copy 59 = .ok (.goto 4, 3) := by decide +kernel
theorem dX11_copy_62 : decode cX11_copy 62 = .ok (.iconst 0, 1) := by decide +kernel
theorem dX11_copy_63 : decode cX11_copy 63 = .ok (.ireturn, 1) := by decide +kernel
theorem dX11_home_0 : decode cX11_home 0 = .ok (.iload_n 1, 1) := by decide +kernel
theorem dX11_home_1 : decode cX11_home 1 = .ok (.ifCond .lt 10, 3) := by decide +kernel
theorem dX11_home_4 : decode cX11_home 4 = .ok (.iload_n 1, 1) := by decide +kernel
theorem dX11_home_5 : decode cX11_home 5 = .ok (.sipush 512, 3) := by decide +kernel
theorem dX11_home_8 : decode cX11_home 8 = .ok (.if_icmp .lt 7, 3) := by decide +kernel
theorem dX11_home_11 : decode cX11_home 11 = .ok (.iconst (-1), 1) := by decide +kernel
theorem dX11_home_12 : decode cX11_home 12 = .ok (.goto 8, 3) := by decide +kernel
theorem dX11_home_15 : decode cX11_home 15 = .ok (.aload_n 0, 1) := by decide +kernel
theorem dX11_home_16 : decode cX11_home 16 = .ok (.iload_n 1, 1) := by decide +kernel
theorem dX11_home_17 : decode cX11_home 17 = .ok (.invokevirtual 632, 3) := by decide +kernel
theorem dX11_home_20 : decode cX11_home 20 = .ok (.istore_n 3, 1) := by decide +kernel
theorem dX11_home_21 : decode cX11_home 21 = .ok (.iload_n 3, 1) := by decide +kernel
theorem dX11_home_22 : decode cX11_home 22 = .ok (.iconst (-1), 1) := by decide +kernel
theorem dX11_home_23 : decode cX11_home 23 = .ok (.if_icmp .eq 13, 3) := by decide +kernel
theorem dX11_home_26 : decode cX11_home 26 = .ok (.iload_n 2, 1) := by decide +kernel
theorem dX11_home_27 : decode cX11_home 27 = .ok (.ifCond .lt 9, 3) := by decide +kernel
theorem dX11_home_30 : decode cX11_home 30 = .ok (.iload_n 2, 1) := by decide +kernel
theorem dX11_home_31 : decode cX11_home 31 = .ok (.bipush 9, 2) := by decide +kernel
theorem dX11_home_33 : decode cX11_home 33 = .ok (.if_icmp .le 9, 3) := by decide +kernel
theorem dX11_home_36 : decode cX11_home 36 = .ok (.aload_n 0, 1) := by decide +kernel
theorem dX11_home_37 : decode cX11_home 37 = .ok (.iconst 1, 1) := by decide +kernel
theorem dX11_home_38 : decode cX11_home 38 = .ok (.invokevirtual 525, 3) := by decide +kernel
theorem dX11_home_41 : decode cX11_home 41 = .ok (.ireturn, 1) := by decide +kernel
theorem dX11_home_42 : decode cX11_home 42 = .ok (.aload_n 0, 1) := by decide +kernel
theorem dX11_home_43 : decode cX11_home 43 = .ok (.iconst 0, 1) := by decide +kernel
theorem dX11_home_44 : decode cX11_home 44 = .ok (.putfield 306, 3) := by decide +kernel
theorem dX11_home_47 : decode cX11_home 47 = .ok (.iload_n 2, 1) := by decide +kernel
theorem dX11_home_48 : decode cX11_home 48 = .ok (.tableswitch 118 0 9 #[56, 63, 70, 77, 98, 118, 118, 118, 118, 113], 56) := by decide +kernel
theorem dX11_home_104 : decode cX11_home 104 = .ok (.aload_n 0, 1) := by decide +kernel
theorem dX11_home_105 : decode cX11_home 105 = .ok (.getfield 123, 3) := by decide +kernel
theorem dX11_home_108 : decode cX11_home 108 = .ok (.iload_n 3, 1) := by decide +kernel
theorem dX11_home_109 : decode cX11_home 109 = .ok (.iaload, 1) := by decide +kernel
theorem dX11_home_110 : decode cX11_home 110 = .ok (.ireturn, 1) := by decide +kernel
theorem dX11_home_111 : decode cX11_home 111 = .ok (.aload_n 0, 1) := by decide +kernel
theorem dX11_home_112 : decode cX11_home 112 = .ok (.getfield 126, 3) := by decide +kernel
theorem dX11_home_115 : decode cX11_home 115 = .ok (.iload_n 3, 1) := by decide +kernel
theorem dX11_home_116 : decode cX11_home 116 = .ok (.iaload, 1) := by decide +kernel
theorem dX11_home_117 : decode cX11_home 117 = .ok (.ireturn, 1) := by decide +kernel
theorem dX11_home_118 : decode cX11_home 118 = .ok (.aload_n 0, 1) := by decide +kernel
theorem dX11_home_119 : decode cX11_home 119 = .ok (.getfield 129, 3) := by decide +kernel
theorem dX11_home_122 : decode cX11_home 122 = .ok (.iload_n 3, 1) := by decide +kernel
theorem dX11_home_123 : decode cX11_home 123 = .ok (.iaload, 1) := by decide +kernel
theorem dX11_home_124 : decode cX11_home 124 = .ok (.ireturn, 1) := by decide +kernel
theorem dX11_home_125 : decode cX11_home 125 = .ok (.aload_n 0, 1) := by decide +kernel
theorem dX11_home_126 : decode cX11_home 126 = .ok (.getfield 129, 3) := by decide +kernel
theorem dX11_home_129 : decode cX11_home 129 = .ok (.iload_n 3, 1) := by decide +kernel
theorem dX11_home_130 : decode cX11_home 130 = .ok (.iaload, 1) := by decide +kernel
theorem dX11_home_131 : decode cX11_home 131 = .ok (.iconst (-1), 1) := by decide +kernel
theorem dX11_home_132 : decode cX11_home 132 = .ok (.if_icmp .ne 7, 3) := by decide +kernel
theorem dX11_home_135 : decode cX11_home 135 = .ok (.iconst 0, 1) := by decide +kernel
theorem dX11_home_136 : decode cX11_home 136 = .ok (.goto 9, 3) := by decide +kernel
theorem dX11_home_139 : decode cX11_home 139 = .ok (.aload_n 0, 1) := by decide +kernel
theorem dX11_home_140 : decode cX11_home 140 = .ok (.getfield 135, 3) := by decide +kernel
theorem dX11_home_143 : decode cX11_home 143 = .ok (.iload_n 3, 1) := by decide +kernel
theorem dX11_home_144 : decode cX11_home 144 = .ok (.iaload, 1) := by decide +kernel
theorem dX11_home_145 : decode cX11_home 145 = .ok (.ireturn, 1) := by decide +kernel
theorem dX11_home_146 : decode cX11_home 146 = .ok (.aload_n 0, 1) := by decide +kernel
theorem dX11_home_147 : decode cX11_home 147 = .ok (.getfield 120, 3) := by decide +kernel
theorem dX11_home_150 : decode cX11_home 150 = .ok (.iload_n 3, 1) := by decide +kernel
theorem dX11_home_151 : decode cX11_home 151 = .ok (.baload, 1) := by decide +kernel
theorem dX11_home_152 : decode cX11_home 152 = .ok (.ifCond .eq 7, 3) := by decide +kernel
theorem dX11_home_155 : decode cX11_home 155 = .ok (.iconst 1, 1) := by decide +kernel
theorem dX11_home_156 : decode cX11_home 156 = .ok (.goto 4, 3) := by decide +kernel
theorem dX11_home_159 : decode cX11_home 159 = .ok (.iconst 0, 1) := by decide +kernel
theorem dX11_home_160 : decode cX11_home 160 = .ok (.ireturn, 1) := by decide +kernel
theorem dX11_home_161 : decode cX11_home 161 = .ok (.iload_n 3, 1) := by decide +kernel
theorem dX11_home_162 : decode cX11_home 162 = .ok (.bipush 8, 2) := by decide +kernel
theorem dX11_home_164 : decode cX11_home 164 = .ok (.irem, 1) := by decide +kernel
theorem dX11_home_165 : decode cX11_home 165 = .ok (.ireturn, 1) := by decide +kernel
theorem dX11_home_166 : decode cX11_home 166 = .ok (.aload_n 0, 1) := by decide +kernel
theorem dX11_home_167 : decode cX11_home 167 = .ok (.getfield 117, 3) := by decide +kernel
theorem dX11_home_170 : decode cX11_home 170 = .ok (.iconst 4, 1) := by decide +kernel
theorem dX11_home_171 : decode cX11_home 171 = .ok (.iload_n 3, 1) := by decide +kernel
