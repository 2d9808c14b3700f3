theorem dX13_packBlock_60 : decode cX13_packBlock 60 = .ok (.invokevirtual 221, 3) := by decide +kernel
theorem dX13_packBlock_63 : decode cX13_packBlock 63 = .ok (.aload_n 0, 1) := by decide +kernel
theorem dX13_packBlock_64 : decode cX13_packBlock 64 = .ok (.ldc2_w 224, 3) := by decide +kernel
theorem dX13_packBlock_67 : decode cX13_packBlock 67 = .ok (.bipush 48, 2) := by decide +kernel
theorem dX13_packBlock_69 : decode cX13_packBlock 69 = .ok (.invokevirtual 202, 3) := by decide +kernel
theorem dX13_packBlock_72 : decode cX13_packBlock 72 = .ok (.aload_n 0, 1) := by decide +kernel
theorem dX13_packBlock_73 : decode cX13_packBlock 73 = .ok (.iload 4, 2) := by decide +kernel
theorem dX13_packBlock_75 : decode cX13_packBlock 75 = .ok (.i2l, 1) := by decide +kernel
theorem dX13_packBlock_76 : decode cX13_packBlock 76 = .ok (.ldc2_w 226, 3) := by decide +kernel
theorem dX13_packBlock_79 : decode cX13_packBlock 79 = .ok (.land, 1) := by decide +kernel
theorem dX13_packBlock_80 : decode cX13_packBlock 80 = .ok (.bipush 32, 2) := by decide +kernel
theorem dX13_packBlock_82 : decode cX13_packBlock 82 = .ok (.invokevirtual 202, 3) := by decide +kernel
theorem dX13_packBlock_85 : decode cX13_packBlock 85 = .ok (.aload_n 0, 1) := by decide +kernel
theorem dX13_packBlock_86 : decode cX13_packBlock 86 = .ok (.iconst 0, 1) := by decide +kernel
theorem dX13_packBlock_87 : decode cX13_packBlock 87 = .ok (.invokevirtual 157, 3) := by decide +kernel
theorem dX13_packBlock_90 : decode cX13_packBlock 90 = .ok (.aload_n 0, 1) := by decide +kernel
theorem dX13_packBlock_91 : decode cX13_packBlock 91 = .ok (.iload 5, 2) := by decide +kernel
theorem dX13_packBlock_93 : decode cX13_packBlock 93 = .ok (.i2l, 1) := by decide +kernel
theorem dX13_packBlock_94 : decode cX13_packBlock 94 = .ok (.bipush 24, 2) := by decide +kernel
theorem dX13_packBlock_96 : decode cX13_packBlock 96 = .ok (.invokevirtual 202, 3) := by decide +kernel
theorem dX13_packBlock_99 : decode cX13_packBlock 99 = .ok (.aload_n 0, 1) := by decide +kernel
theorem dX13_packBlock_100 : decode cX13_packBlock 100 = .ok (.invokevirtual 228, 3) := by decide +kernel
theorem dX13_packBlock_103 : decode cX13_packBlock 103 = .ok (.aload_n 0, 1) := by decide +kernel
theorem dX13_packBlock_104 : decode cX13_packBlock 104 = .ok (.aload_n 0, 1) := by decide +kernel
theorem dX13_packBlock_105 : decode cX13_packBlock 105 = .ok (.getfield 189, 3) := by decide +kernel
theorem dX13_packBlock_108 : decode cX13_packBlock 108 = .ok (.i2l, 1) := by decide +kernel
theorem dX13_packBlock_109 : decode cX13_packBlock 109 = .ok (.iconst 3, 1) := by decide +kernel
theorem dX13_packBlock_110 : decode cX13_packBlock 110 = .ok (.invokevirtual 202, 3) := by decide +kernel
theorem dX13_packBlock_113 : decode cX13_packBlock 113 = .ok (.aload_n 0, 1) := by decide +kernel
theorem dX13_packBlock_114 : decode cX13_packBlock 114 = .ok (.aload_n 0, 1) := by decide +kernel
theorem dX13_packBlock_115 : decode cX13_packBlock 115 = .ok (.getfield 195, 3) := by decide +kernel
theorem dX13_packBlock_118 : decode cX13_packBlock 118 = .ok (.i2l, 1) := by decide +kernel
theorem dX13_packBlock_119 : decode cX13_packBlock 119 = .ok (.bipush 15, 2) := by decide +kernel
theorem dX13_packBlock_121 : decode cX13_packBlock 121 = .ok (.invokevirtual 202, 3) := by decide +kernel
theorem dX13_packBlock_124 : decode cX13_packBlock 124 = .ok (.aload_n 0, 1) := by decide +kernel
theorem dX13_packBlock_125 : decode cX13_packBlock 125 = .ok (.invokevirtual 231, 3) := by decide +kernel
theorem dX13_packBlock_128 : decode cX13_packBlock 128 = .ok (.iconst 0, 1) := by decide +kernel
theorem dX13_packBlock_129 : decode cX13_packBlock 129 = .ok (.istore 7, 2) := by decide +kernel
theorem dX13_packBlock_131 : decode cX13_packBlock 131 = .ok (.iload 7, 2) := by decide +kernel
theorem dX13_packBlock_133 : decode cX13_packBlock 133 = .ok (.aload_n 0, 1) := by decide +kernel
theorem dX13_packBlock_134 : decode cX13_packBlock 134 = .ok (.getfield 189, 3) := by decide +kernel
theorem dX13_packBlock_137 : decode cX13_packBlock 137 = .ok (.if_icmp .ge 25, 3) := by decide +kernel
theorem dX13_packBlock_140 : decode cX13_packBlock 140 = .ok (.aload_n 0, 1) := by decide +kernel
theorem dX13_packBlock_141 : decode cX13_packBlock 141 = .ok (.iload 7, 2) := by decide +kernel
theorem dX13_packBlock_143 : decode cX13_packBlock 143 = .ok (.iload 6, 2) := by decide +kernel
theorem dX13_packBlock_145 : decode cX13_packBlock 145 = .ok (.invokevirtual 234, 3) := by decide +kernel
theorem dX13_packBlock_148 : decode cX13_packBlock 148 = .ok (.aload_n 0, 1) := by decide +kernel
theorem dX13_packBlock_149 : decode cX13_packBlock 149 = .ok (.iload 7, 2) := by decide +kernel
theorem dX13_packBlock_151 : decode cX13_packBlock 151 = .ok (.iload 6, 2) := by decide +kernel
theorem dX13_packBlock_153 : decode cX13_packBlock 153 = .ok (.invokevirtual 237, 3) := by decide +kernel
theorem dX13_packBlock_156 : decode cX13_packBlock 156 = .ok (.iinc 7 1, 3) := by decide +kernel
theorem dX13_packBlock_159 : decode cX13_packBlock 159 = .ok (.goto (-28), 3) := by decide +kernel
theorem dX13_packBlock_162 : decode cX13_packBlock 162 = .ok (.iconst 0, 1) := by decide +kernel
theorem dX13_packBlock_163 : decode cX13_packBlock 163 = .ok (.istore 7, 2) := by decide +kernel
theorem dX13_packBlock_165 : decode cX13_packBlock 165 = .ok (.iload 7, 2) := by decide +kernel
theorem dX13_packBlock_167 : decode cX13_packBlock 167 = .ok (.aload_n 0, 1) := by decide +kernel
theorem dX13_packBlock_168 : decode cX13_packBlock 168 = .ok (.getfield 174, 3) := by decide +kernel
theorem dX13_packBlock_171 : decode cX13_packBlock 171 = .ok (.if_icmp .ge 52, 3) := by decide +kernel
theorem dX13_packBlock_174 : decode cX13_packBlock 174 = .ok (.sipush 260, 3) := by decide +kernel
theorem dX13_packBlock_177 : decode cX13_packBlock 177 = .ok (.aload_n 0, 1) := by decide +kernel
theorem dX13_packBlock_178 : decode cX13_packBlock 178 = .ok (.getfield 72, 3) := by decide +kernel
theorem dX13_packBlock_181 : decode cX13_packBlock 181 = .ok (.iload 7, 2) := by decide +kernel
theorem dX13_packBlock_183 : decode cX13_packBlock 183 = .ok (.bipush 50, 2) := by decide +kernel
theorem dX13_packBlock_185 : decode cX13_packBlock 185 = .ok (.idiv, 1) := by decide +kernel
theorem dX13_packBlock_186 : decode cX13_packBlock 186 = .ok (.iaload, 1) := by decide +kernel
theorem dX13_packBlock_187 : decode cX13_packBlock 187 = .ok (.imul, 1) := by decide +kernel
theorem dX13_packBlock_188 : decode cX13_packBlock 188 = .ok (.aload_n 0, 1) := by decide +kernel
theorem dX13_packBlock_189 : decode cX13_packBlock 189 = .ok (.getfield 53, 3) := by decide +kernel
theorem dX13_packBlock_192 : decode cX13_packBlock 192 = .ok (.iload 7, 2) := by decide +kernel
theorem dX13_packBlock_194 : decode cX13_packBlock 194 = .ok (.iaload, 1) := by decide +kernel
theorem dX13_packBlock_195 : decode cX13_packBlock 195 = .ok (.iadd, 1) := by decide +kernel
theorem dX13_packBlock_196 : decode cX13_packBlock 196 = .ok (.istore 8, 2) := by decide +kernel
theorem dX13_packBlock_198 : decode cX13_packBlock 198 = .ok (.aload_n 0, 1) := by decide +kernel
theorem dX13_packBlock_199 : decode cX13_packBlock 199 = .ok (.aload_n 0, 1) := by decide +kernel
theorem dX13_packBlock_200 : decode cX13_packBlock 200 = .ok (.getfield 85, 3) := by decide +kernel
theorem dX13_packBlock_203 : decode cX13_packBlock 203 = .ok (.iload 8, 2) := by decide +kernel
theorem dX13_packBlock_205 : decode cX13_packBlock 205 = .ok (.iaload, 1) := by decide +kernel
theorem dX13_packBlock_206 : decode cX13_packBlock 206 = .ok (.i2l, 1) := by decide +kernel
theorem dX13_packBlock_207 : decode cX13_packBlock 207 = .ok (.aload_n 0, 1) := by decide +kernel
theorem dX13_packBlock_208 : decode cX13_packBlock 208 = .ok (.getfield 63, 3) := by decide +kernel
theorem dX13_packBlock_211 : decode cX13_packBlock 211 = .ok (.iload 8, 2) := by decide +kernel
theorem dX13_packBlock_213 : decode cX13_packBlock 213 = .ok (.iaload, 1) := by decide +kernel
theorem dX13_packBlock_214 : decode cX13_packBlock 214 = .ok (.invokevirtual 202, 3) := by decide +kernel
theorem dX13_packBlock_217 : decode cX13_packBlock 217 = .ok (.iinc 7 1, 3) := by decide +kernel
theorem dX13_packBlock_220 : decode cX13_packBlock 220 = .ok (.goto (-55), 3) := by decide +kernel
theorem dX13_packBlock_223 : decode cX13_packBlock 223 = .ok (.aload_n 0, 1) := by decide +kernel
theorem dX13_packBlock_224 : decode cX13_packBlock 224 = .ok (.iload_n 3, 1) := by decide +kernel
theorem dX13_packBlock_225 : decode cX13_packBlock 225 = .ok (.iload_n 2, 1) := by decide +kernel
theorem dX13_packBlock_226 : decode cX13_packBlock 226 = .ok (.iload_n 1, 1) := by decide +kernel
theorem dX13_packBlock_227 : decode cX13_packBlock 227 = .ok (.isub, 1) := by decide +kernel
theorem dX13_packBlock_228 : decode cX13_packBlock 228 = .ok (.aload_n 0, 1) := by decide +kernel
theorem dX13_packBlock_229 : decode cX13_packBlock 229 = .ok (.getfield 161, 3) := by decide +kernel
theorem dX13_packBlock_232 : decode cX13_packBlock 232 = .ok (.iload 5, 2) := by decide +kernel
theorem dX13_packBlock_234 : decode cX13_packBlock 234 = .ok (.aload_n 0, 1) := by decide +kernel
theorem dX13_packBlock_235 : decode cX13_packBlock 235 = .ok (.getfield 171, 3) := by decide +kernel
theorem dX13_packBlock_238 : decode cX13_packBlock 238 = .ok (.aload_n 0, 1) := by decide +kernel
theorem dX13_packBlock_239 : decode cX13_packBlock 239 = .ok (.getfield 189, 3) := by decide +kernel
theorem dX13_packBlock_242 : decode cX13_packBlock 242 = .ok (.aload_n 0, 1) := by decide +kernel
theorem dX13_packBlock_243 : decode cX13_packBlock 243 = .ok (.getfield 195, 3) := by decide +kernel
theorem dX13_packBlock_246 : decode cX13_packBlock 246 = .ok (.iconst 0, 1) := by decide +kernel
theorem dX13_packBlock_247 : decode cX13_packBlock 247 = .ok (.aload_n 0, 1) := by decide +kernel
theorem dX13_packBlock_248 : decode cX13_packBlock 248 = .ok (.getfield 174, 3) := by decide +kernel
theorem dX13_packBlock_251 : decode cX13_packBlock 251 = .ok (.iload 4, 2) := by decide +kernel
theorem dX13_packBlock_253 : decode cX13_packBlock 253 = .ok (.invokevirtual 240, 3) := by decide +kernel
theorem dX13_packBlock_256 : decode cX13_packBlock 256 = .ok (.aload_n 0, 1) := by decide +kernel
theorem dX13_packBlock_257 : decode cX13_packBlock 257 = .ok (.aload_n 0, 1) := by decide +kernel
theorem dX13_packBlock_258 : decode cX13_packBlock 258 = .ok (.getfield 189, 3) := by decide +kernel
theorem dX13_packBlock_261 : decode cX13_packBlock 261 = .ok (.iload 6, 2) := by decide +kernel
theorem dX13_packBlock_263 : decode cX13_packBlock 263 = .ok (.aload_n 0, 1) := by decide +kernel
theorem dX13_packBlock_264 : decode cX13_packBlock 264 = .ok (.getfield 195, 3) := by decide +kernel
theorem dX13_packBlock_267 : decode cX13_packBlock 267 = .ok (.invokevirtual 244, 3) := by decide +kernel
theorem dX13_packBlock_270 : decode cX13_packBlock 270 = .ok (.iload 4, 2) := by decide +kernel
theorem dX13_packBlock_272 : decode cX13_packBlock 272 = .ok (.ireturn, 1) := by decide +kernel
theorem dX13_pack_0 : decode cX13_pack 0 = .ok (.aload_n 0, 1) := by decide +kernel
theorem dX13_pack_1 : decode cX13_pack 1 = .ok (.iconst 0, 1) := by decide +kernel
theorem dX13_pack_2 : decode cX13_pack 2 = .ok (.putfield 1, 3) := by decide +kernel
theorem dX13_pack_5 : decode cX13_pack 5 = .ok (.aload_n 0, 1) := by decide +kernel
theorem dX13_pack_6 : decode cX13_pack 6 = .ok (.iconst 0, 1) := by decide +kernel
theorem dX13_pack_7 : decode cX13_pack 7 = .ok (.putfield 131, 3) := by decide +kernel
theorem dX13_pack_10 : decode cX13_pack 10 = .ok (.aload_n 0, 1) := by decide +kernel
theorem dX13_pack_11 : decode cX13_pack 11 = .ok (.iconst 0, 1) := by decide +kernel
theorem dX13_pack_12 : decode cX13_pack 12 = .ok (.putfield 140, 3) := by decide +kernel
theorem dX13_pack_15 : decode cX13_pack 15 = .ok (.aload_n 0, 1) := by decide +kernel
theorem dX13_pack_16 : decode cX13_pack 16 = .ok (.iconst 0, 1) := by decide +kernel
theorem dX13_pack_17 : decode cX13_pack 17 = .ok (.putfield 146, 3) := by decide +kernel
theorem dX13_pack_20 : decode cX13_pack 20 = .ok (.aload_n 0, 1) := by decide +kernel
theorem dX13_pack_21 : decode cX13_pack 21 = .ok (.iconst 0, 1) := by decide +kernel
theorem dX13_pack_22 : decode cX13_pack 22 = .ok (.putfield 150, 3) := by decide +kernel
theorem dX13_pack_25 : decode cX13_pack 25 = .ok (.aload_n 0, 1) := by decide +kernel
theorem dX13_pack_26 : decode cX13_pack 26 = .ok (.iconst 0, 1) := by decide +kernel
theorem dX13_pack_27 : decode cX13_pack 27 = .ok (.putfield 153, 3) := by decide +kernel
theorem dX13_pack_30 : decode cX13_pack 30 = .ok (.aload_n 0, 1) := by decide +kernel
theorem dX13_pack_31 : decode cX13_pack 31 = .ok (.ldc2_w 248, 3) := by decide +kernel
theorem dX13_pack_34 : decode cX13_pack 34 = .ok (.bipush 8, 2) := by decide +kernel
theorem dX13_pack_36 : decode cX13_pack 36 = .ok (.invokevirtual 202, 3) := by decide +kernel
theorem dX13_pack_39 : decode cX13_pack 39 = .ok (.aload_n 0, 1) := by decide +kernel
theorem dX13_pack_40 : decode cX13_pack 40 = .ok (.ldc2_w 250, 3) := by decide +kernel
theorem dX13_pack_43 : decode cX13_pack 43 = .ok (.bipush 8, 2) := by decide +kernel
theorem dX13_pack_45 : decode cX13_pack 45 = .ok (.invokevirtual 202, 3) := by decide +kernel
theorem dX13_pack_48 : decode cX13_pack 48 = .ok (.aload_n 0, 1) := by decide +kernel
theorem dX13_pack_49 : decode cX13_pack 49 = .ok (.ldc2_w 252, 3) := by decide +kernel
theorem dX13_pack_52 : decode cX13_pack 52 = .ok (.bipush 8, 2) := by decide +kernel
theorem dX13_pack_54 : decode cX13_pack 54 = .ok (.invokevirtual 202, 3) := by decide +kernel
theorem dX13_pack_57 : decode cX13_pack 57 = .ok (.aload_n 0, 1) := by decide +kernel
theorem dX13_pack_58 : decode cX13_pack 58 = .ok (.bipush 48, 2) := by decide +kernel
theorem dX13_pack_60 : decode cX13_pack 60 = .ok (.aload_n 0, 1) := by decide +kernel
theorem dX13_pack_61 : decode cX13_pack 61 = .ok (.getfield 106, 3) := by decide +kernel
theorem dX13_pack_64 : decode cX13_pack 64 = .ok (.iadd, 1) := by decide +kernel
theorem dX13_pack_65 : decode cX13_pack 65 = .ok (.i2l, 1) := by decide +kernel
theorem dX13_pack_66 : decode cX13_pack 66 = .ok (.bipush 8, 2) := by decide +kernel
theorem dX13_pack_68 : decode cX13_pack 68 = .ok (.invokevirtual 202, 3) := by decide +kernel
theorem dX13_pack_71 : decode cX13_pack 71 = .ok (.iconst 0, 1) := by decide +kernel
theorem dX13_pack_72 : decode cX13_pack 72 = .ok (.istore_n 1, 1) := by decide +kernel
theorem dX13_pack_73 : decode cX13_pack 73 = .ok (.iconst 0, 1) := by decide +kernel
theorem dX13_pack_74 : decode cX13_pack 74 = .ok (.istore_n 2, 1) := by decide +kernel
theorem dX13_pack_75 : decode cX13_pack 75 = .ok (.iload_n 2, 1) := by decide +kernel
theorem dX13_pack_76 : decode cX13_pack 76 = .ok (.aload_n 0, 1) := by decide +kernel
theorem dX13_pack_77 : decode cX13_pack 77 = .ok (.getfield 109, 3) := by decide +kernel
theorem dX13_pack_80 : decode cX13_pack 80 = .ok (.if_icmp .ge 193, 3) := by decide +kernel
theorem dX13_pack_83 : decode cX13_pack 83 = .ok (.iload_n 2, 1) := by decide +kernel
theorem dX13_pack_84 : decode cX13_pack 84 = .ok (.istore_n 3, 1) := by decide +kernel
theorem dX13_pack_85 : decode cX13_pack 85 = .ok (.aload_n 0, 1) := by decide +kernel
theorem dX13_pack_86 : decode cX13_pack 86 = .ok (.iconst 0, 1) := by decide +kernel
theorem dX13_pack_87 : decode cX13_pack 87 = .ok (.putfield 161, 3) := by decide +kernel
theorem dX13_pack_90 : decode cX13_pack 90 = .ok (.iconst 1, 1) := by decide +kernel
theorem dX13_pack_91 : decode cX13_pack 91 = .ok (.istore 4, 2) := by decide +kernel
theorem dX13_pack_93 : decode cX13_pack 93 = .ok (.iload_n 2, 1) := by decide +kernel
theorem dX13_pack_94 : decode cX13_pack 94 = .ok (.aload_n 0, 1) := by decide +kernel
theorem dX13_pack_95 : decode cX13_pack 95 = .ok (.getfield 109, 3) := by decide +kernel
theorem dX13_pack_98 : decode cX13_pack 98 = .ok (.if_icmp .ge 161, 3) := by decide +kernel
theorem dX13_pack_101 : decode cX13_pack 101 = .ok (.iload 4, 2) := by decide +kernel
theorem dX13_pack_103 : decode cX13_pack 103 = .ok (.ifCond .eq 156, 3) := by decide +kernel
theorem dX13_pack_106 : decode cX13_pack 106 = .ok (.iconst 1, 1) := by decide +kernel
theorem dX13_pack_107 : decode cX13_pack 107 = .ok (.istore 5, 2) := by decide +kernel
theorem dX13_pack_109 : decode cX13_pack 109 = .ok (.iload 5, 2) := by decide +kernel
theorem dX13_pack_111 : decode cX13_pack 111 = .ok (.sipush 255, 3) := by decide +kernel
theorem dX13_pack_114 : decode cX13_pack 114 = .ok (.if_icmp .ge 38, 3) := by decide +kernel
theorem dX13_pack_117 : decode cX13_pack 117 = .ok (.iload_n 2, 1) := by decide +kernel
theorem dX13_pack_118 : decode cX13_pack 118 = .ok (.iload 5, 2) := by decide +kernel
theorem dX13_pack_120 : decode cX13_pack 120 = .ok (.iadd, 1) := by decide +kernel
theorem dX13_pack_121 : decode cX13_pack 121 = .ok (.aload_n 0, 1) := by decide +kernel
theorem dX13_pack_122 : decode cX13_pack 122 = .ok (.getfield 109, 3) := by decide +kernel
theorem dX13_pack_125 : decode cX13_pack 125 = .ok (.if_icmp .ge 27, 3) := by decide +kernel
theorem dX13_pack_128 : decode cX13_pack 128 = .ok (.aload_n 0, 1) := by decide +kernel
theorem dX13_pack_129 : decode cX13_pack 129 = .ok (.getfield 20, 3) := by decide +kernel
theorem dX13_pack_132 : decode cX13_pack 132 = .ok (.iload_n 2, 1) := by decide +kernel
theorem dX13_pack_133 : decode cX13_pack 133 = .ok (.iload 5, 2) := by decide +kernel
theorem dX13_pack_135 : decode cX13_pack 135 = .ok (.iadd, 1) := by decide +kernel
theorem dX13_pack_136 : decode cX13_pack 136 = .ok (.baload, 1) := by decide +kernel
theorem dX13_pack_137 : decode cX13_pack 137 = .ok (.aload_n 0, 1) := by decide +kernel
theorem dX13_pack_138 : decode cX13_pack 138 = .ok (.getfield 20, 3) := by decide +kernel
theorem dX13_pack_141 : decode cX13_pack 141 = .ok (.iload_n 2, 1) := by decide +kernel
theorem dX13_pack_142 : decode cX13_pack 142 = .ok (.baload, 1) := by decide +kernel
theorem dX13_pack_143 : decode cX13_pack 143 = .ok (.if_icmp .ne 9, 3) := by decide +kernel
theorem dX13_pack_146 : decode cX13_pack 146 = .ok (.iinc 5 1, 3) := by decide +kernel
theorem dX13_pack_149 : decode cX13_pack 149 = .ok (.goto (-40), 3) := by decide +kernel
theorem dX13_pack_152 : decode cX13_pack 152 = .ok (.iload 5, 2) := by decide +kernel
theorem dX13_pack_154 : decode cX13_pack 154 = .ok (.iconst 4, 1) := by decide +kernel
theorem dX13_pack_155 : decode cX13_pack 155 = .ok (.if_icmp .ge 8, 3) := by decide +kernel
theorem dX13_pack_158 : decode cX13_pack 158 = .ok (.iload 5, 2) := by decide +kernel
theorem dX13_pack_160 : decode cX13_pack 160 = .ok (.goto 4, 3) := by decide +kernel
theorem dX13_pack_163 : decode cX13_pack 163 = .ok (.iconst 5, 1) := by decide +kernel
theorem dX13_pack_164 : decode cX13_pack 164 = .ok (.istore 6, 2) := by decide +kernel
theorem dX13_pack_166 : decode cX13_pack 166 = .ok (.aload_n 0, 1) := by decide +kernel
theorem dX13_pack_167 : decode cX13_pack 167 = .ok (.getfield 161, 3) := by decide +kernel
theorem dX13_pack_170 : decode cX13_pack 170 = .ok (.iload 6, 2) := by decide +kernel
theorem dX13_pack_172 : decode cX13_pack 172 = .ok (.iadd, 1) := by decide +kernel
theorem dX13_pack_173 : decode cX13_pack 173 = .ok (.sipush 200, 3) := by decide +kernel
theorem dX13_pack_176 : decode cX13_pack 176 = .ok (.aload_n 0, 1) := by decide +kernel
theorem dX13_pack_177 : decode cX13_pack 177 = .ok (.getfield 106, 3) := by decide +kernel
theorem dX13_pack_180 : decode cX13_pack 180 = .ok (.imul, 1) := by decide +kernel
theorem dX13_pack_181 : decode cX13_pack 181 = .ok (.if_icmp .gt 7, 3) := by decide +kernel
theorem dX13_pack_184 : decode cX13_pack 184 = .ok (.iconst 1, 1) := by decide +kernel
theorem dX13_pack_185 : decode cX13_pack 185 = .ok (.goto 4, 3) := by decide +kernel
theorem dX13_pack_188 : decode cX13_pack 188 = .ok (.iconst 0, 1) := by decide +kernel
theorem dX13_pack_189 : decode cX13_pack 189 = .ok (.istore 4, 2) := by decide +kernel
theorem dX13_pack_191 : decode cX13_pack 191 = .ok (.iload 4, 2) := by decide +kernel
theorem dX13_pack_193 : decode cX13_pack 193 = .ok (.ifCond .eq 63, 3) := by decide +kernel
theorem dX13_pack_196 : decode cX13_pack 196 = .ok (.iconst 0, 1) := by decide +kernel
theorem dX13_pack_197 : decode cX13_pack 197 = .ok (.istore 7, 2) := by decide +kernel
theorem dX13_pack_199 : decode cX13_pack 199 = .ok (.iload 7, 2) := by decide +kernel
theorem dX13_pack_201 : decode cX13_pack 201 = .ok (.iload 6, 2) := by decide +kernel
theorem dX13_pack_203 : decode cX13_pack 203 = .ok (.if_icmp .ge 48, 3) := by decide +kernel
theorem dX13_pack_206 : decode cX13_pack 206 = .ok (.aload_n 0, 1) := by decide +kernel
theorem dX13_pack_207 : decode cX13_pack 207 = .ok (.getfield 44, 3) := by decide +kernel
theorem dX13_pack_210 : decode cX13_pack 210 = .ok (.aload_n 0, 1) := by decide +kernel
theorem dX13_pack_211 : decode cX13_pack 211 = .ok (.getfield 161, 3) := by decide +kernel
theorem dX13_pack_214 : decode cX13_pack 214 = .ok (.iload 7, 2) := by decide +kernel
theorem dX13_pack_216 : decode cX13_pack 216 = .ok (.iconst 4, 1) := by decide +kernel
theorem dX13_pack_217 : decode cX13_pack 217 = .ok (.if_icmp .ge 12, 3) := by decide +kernel
theorem dX13_pack_220 : decode cX13_pack 220 = .ok (.aload_n 0, 1) := by decide +kernel
theorem dX13_pack_221 : decode cX13_pack 221 = .ok (.getfield 20, 3) := by decide +kernel
theorem dX13_pack_224 : decode cX13_pack 224 = .ok (.iload_n 2, 1) := by decide +kernel
theorem dX13_pack_225 : decode cX13_pack 225 = .ok (.baload, 1) := by decide +kernel
theorem dX13_pack_226 : decode cX13_pack 226 = .ok (.goto 8, 3) := by decide +kernel
theorem dX13_pack_229 : decode cX13_pack 229 = .ok (.iload 5, 2) := by decide +kernel
theorem dX13_pack_231 : decode cX13_pack 231 = .ok (.iconst 4, 1) := by decide +kernel
theorem dX13_pack_232 : decode cX13_pack 232 = .ok (.isub, 1) := by decide +kernel
theorem dX13_pack_233 : decode cX13_pack 233 = .ok (.i2b, 1) := by decide +kernel
theorem dX13_pack_234 : decode cX13_pack 234 = .ok (.bastore, 1) := by decide +kernel
theorem dX13_pack_235 : decode cX13_pack 235 = .ok (.aload_n 0, 1) := by decide +kernel
theorem dX13_pack_236 : decode cX13_pack 236 = .ok (.dup, 1) := by decide +kernel
theorem dX13_pack_237 : decode cX13_pack 237 = .ok (.getfield 161, 3) := by decide +kernel
theorem dX13_pack_240 : decode cX13_pack 240 = .ok (.iconst 1, 1) := by decide +kernel
theorem dX13_pack_241 : decode cX13_pack 241 = .ok (.iadd, 1) := by decide +kernel
theorem dX13_pack_242 : decode cX13_pack 242 = .ok (.putfield 161, 3) := by decide +kernel
theorem dX13_pack_245 : decode cX13_pack 245 = .ok (.iinc 7 1, 3) := by decide +kernel
theorem dX13_pack_248 : decode cX13_pack 248 = .ok (.goto (-49), 3) := by decide +kernel
theorem dX13_pack_251 : decode cX13_pack 251 = .ok (.iload_n 2, 1) := by decide +kernel
theorem dX13_pack_252 : decode cX13_pack 252 = .ok (.iload 5, 2) := by decide +kernel
theorem dX13_pack_254 : decode cX13_pack 254 = .ok (.iadd, 1) := by decide +kernel
theorem dX13_pack_255 : decode cX13_pack 255 = .ok (.istore_n 2, 1) := by decide +kernel
theorem dX13_pack_256 : decode cX13_pack 256 = .ok (.goto (-163), 3) := by decide +kernel
theorem dX13_pack_259 : decode cX13_pack 259 = .ok (.iload_n 1, 1) := by decide +kernel
theorem dX13_pack_260 : decode cX13_pack 260 = .ok (.aload_n 0, 1) := by decide +kernel
theorem dX13_pack_261 : decode cX13_pack 261 = .ok (.iload_n 3, 1) := by decide +kernel
theorem dX13_pack_262 : decode cX13_pack 262 = .ok (.iload_n 2, 1) := by decide +kernel
theorem dX13_pack_263 : decode cX13_pack 263 = .ok (.invokevirtual 254, 3) := by decide +kernel
theorem dX13_pack_266 : decode cX13_pack 266 = .ok (.invokestatic 257, 3) := by decide +kernel
theorem dX13_pack_269 : decode cX13_pack 269 = .ok (.istore_n 1, 1) := by decide +kernel
theorem dX13_pack_270 : decode cX13_pack 270 = .ok (.goto (-195), 3) := by decide +kernel
theorem dX13_pack_273 : decode cX13_pack 273 = .ok (.aload_n 0, 1) := by decide +kernel
theorem dX13_pack_274 : decode cX13_pack 274 = .ok (.iconst 0, 1) := by decide +kernel
theorem dX13_pack_275 : decode cX13_pack 275 = .ok (.putfield 109, 3) := by decide +kernel
theorem dX13_pack_278 : decode cX13_pack 278 = .ok (.aload_n 0, 1) := by decide +kernel
theorem dX13_pack_279 : decode cX13_pack 279 = .ok (.ldc2_w 260, 3) := by decide +kernel
theorem dX13_pack_282 : decode cX13_pack 282 = .ok (.bipush 48, 2) := by decide +kernel
theorem dX13_pack_284 : decode cX13_pack 284 = .ok (.invokevirtual 202, 3) := by decide +kernel
theorem dX13_pack_287 : decode cX13_pack 287 = .ok (.aload_n 0, 1) := by decide +kernel
theorem dX13_pack_288 : decode cX13_pack 288 = .ok (.iload_n 1, 1) := by decide +kernel
theorem dX13_pack_289 : decode cX13_pack 289 = .ok (.i2l, 1) := by decide +kernel
theorem dX13_pack_290 : decode cX13_pack 290 = .ok (.ldc2_w 226, 3) := by decide +kernel
theorem dX13_pack_293 : decode cX13_pack 293 = .ok (.land, 1) := by decide +kernel
theorem dX13_pack_294 : decode cX13_pack 294 = .ok (.bipush 32, 2) := by decide +kernel
theorem dX13_pack_296 : decode cX13_pack 296 = .ok (.invokevirtual 202, 3) := by decide +kernel
theorem dX13_pack_299 : decode cX13_pack 299 = .ok (.aload_n 0, 1) := by decide +kernel
theorem dX13_pack_300 : decode cX13_pack 300 = .ok (.aload_n 0, 1) := by decide +kernel
theorem dX13_pack_301 : decode cX13_pack 301 = .ok (.getfield 150, 3) := by decide +kernel
theorem dX13_pack_304 : decode cX13_pack 304 = .ok (.bipush 7, 2) := by decide +kernel
theorem dX13_pack_306 : decode cX13_pack 306 = .ok (.iadd, 1) := by decide +kernel
theorem dX13_pack_307 : decode cX13_pack 307 = .ok (.bipush 8, 2) := by decide +kernel
theorem dX13_pack_309 : decode cX13_pack 309 = .ok (.idiv, 1) := by decide +kernel
theorem dX13_pack_310 : decode cX13_pack 310 = .ok (.putfield 123, 3) := by decide +kernel
theorem dX13_pack_313 : decode cX13_pack 313 = .ok (.aload_n 0, 1) := by decide +kernel
theorem dX13_pack_314 : decode cX13_pack 314 = .ok (.getfield 153, 3) := by decide +kernel
theorem dX13_pack_317 : decode cX13_pack 317 = .ok (.ifCond .eq 26, 3) := by decide +kernel
theorem dX13_pack_320 : decode cX13_pack 320 = .ok (.aload_n 0, 1) := by decide +kernel
theorem dX13_pack_321 : decode cX13_pack 321 = .ok (.iconst 0, 1) := by decide +kernel
theorem dX13_pack_322 : decode cX13_pack 322 = .ok (.putfield 123, 3) := by decide +kernel
theorem dX13_pack_325 : decode cX13_pack 325 = .ok (.aload_n 0, 1) := by decide +kernel
theorem dX13_pack_326 : decode cX13_pack 326 = .ok (.iconst 0, 1) := by decide +kernel
theorem dX13_pack_327 : decode cX13_pack 327 = .ok (.putfield 131, 3) := by decide +kernel
theorem dX13_pack_330 : decode cX13_pack 330 = .ok (.aload_n 0, 1) := by decide +kernel
theorem dX13_pack_331 : decode cX13_pack 331 = .ok (.iconst 0, 1) := by decide +kernel
theorem dX13_pack_332 : decode cX13_pack 332 = .ok (.putfield 140, 3) := by decide +kernel
theorem dX13_pack_335 : decode cX13_pack 335 = .ok (.aload_n 0, 1) := by decide +kernel
theorem dX13_pack_336 : decode cX13_pack 336 = .ok (.iconst 0, 1) := by decide +kernel
theorem dX13_pack_337 : decode cX13_pack 337 = .ok (.putfield 146, 3) := by decide +kernel
theorem dX13_pack_340 : decode cX13_pack 340 = .ok (.bipush (-3), 2) := by decide +kernel
theorem dX13_pack_342 : decode cX13_pack 342 = .ok (.ireturn, 1) := by decide +kernel
theorem dX13_pack_343 : decode cX13_pack 343 = .ok (.aload_n 0, 1) := by decide +kernel
theorem dX13_pack_344 : decode cX13_pack 344 = .ok (.getfield 123, 3) := by decide +kernel
theorem dX13_pack_347 : decode cX13_pack 347 = .ok (.ireturn, 1) := by decide +kernel
theorem dX13_fail_0 : decode cX13_fail 0 = .ok (.aload_n 0, 1) := by decide +kernel
theorem dX13_fail_1 : decode cX13_fail 1 = .ok (.getfield 16, 3) := by decide +kernel
theorem dX13_fail_4 : decode cX13_fail 4 = .ok (.iload_n 1, 1) := by decide +kernel
theorem dX13_fail_5 : decode cX13_fail 5 = .ok (.putfield 262, 3) := by decide +kernel
theorem dX13_fail_8 : decode cX13_fail 8 = .ok (.aload_n 0, 1) := by decide +kernel
theorem dX13_fail_9 : decode cX13_fail 9 = .ok (.getfield 16, 3) := by decide +kernel
theorem dX13_fail_12 : decode cX13_fail 12 = .ok (.athrow, 1) := by decide +kernel
theorem dX13_bit_0 : decode cX13_bit 0 = .ok (.aload_n 0, 1) := by decide +kernel
theorem dX13_bit_1 : decode cX13_bit 1 = .ok (.getfield 265, 3) := by decide +kernel
theorem dX13_bit_4 : decode cX13_bit 4 = .ok (.bipush 8, 2) := by decide +kernel
theorem dX13_bit_6 : decode cX13_bit 6 = .ok (.aload_n 0, 1) := by decide +kernel
theorem dX13_bit_7 : decode cX13_bit 7 = .ok (.getfield 128, 3) := by decide +kernel
theorem dX13_bit_10 : decode cX13_bit 10 = .ok (.imul, 1) := by decide +kernel
theorem dX13_bit_11 : decode cX13_bit 11 = .ok (.if_icmp .lt 8, 3) := by decide +kernel
theorem dX13_bit_14 : decode cX13_bit 14 = .ok (.aload_n 0, 1) := by decide +kernel
theorem dX13_bit_15 : decode cX13_bit 15 = .ok (.iconst 1, 1) := by decide +kernel
theorem dX13_bit_16 : decode cX13_bit 16 = .ok (.invokevirtual 268, 3) := by decide +kernel
theorem dX13_bit_19 : decode cX13_bit 19 = .ok (.aload_n 0, 1) := by decide +kernel
theorem dX13_bit_20 : decode cX13_bit 20 = .ok (.getfield 27, 3) := by decide +kernel
theorem dX13_bit_23 : decode cX13_bit 23 = .ok (.aload_n 0, 1) := by decide +kernel
theorem dX13_bit_24 : decode cX13_bit 24 = .ok (.getfield 265, 3) := by decide +kernel
theorem dX13_bit_27 : decode cX13_bit 27 = .ok (.bipush 8, 2) := by decide +kernel
theorem dX13_bit_29 : decode cX13_bit 29 = .ok (.idiv, 1) := by decide +kernel
theorem dX13_bit_30 : decode cX13_bit 30 = .ok (.baload, 1) := by decide +kernel
theorem dX13_bit_31 : decode cX13_bit 31 = .ok (.bipush 7, 2) := by decide +kernel
theorem dX13_bit_33 : decode cX13_bit 33 = .ok (.aload_n 0, 1) := by decide +kernel
theorem dX13_bit_34 : decode cX13_bit 34 = .ok (.getfield 265, 3) := by decide +kernel
theorem dX13_bit_37 : decode cX13_bit 37 = .ok (.bipush 8, 2) := by decide +kernel
theorem dX13_bit_39 : decode cX13_bit 39 = .ok (.irem, 1) := by decide +kernel
theorem dX13_bit_40 : decode cX13_bit 40 = .ok (.isub, 1) := by decide +kernel
theorem dX13_bit_41 : decode cX13_bit 41 = .ok (.ishr, 1) := by decide +kernel
theorem dX13_bit_42 : decode cX13_bit 42 = .ok (.iconst 1, 1) := by decide +kernel
theorem dX13_bit_43 : decode cX13_bit 43 = .ok (.iand, 1) := by decide +kernel
theorem dX13_bit_44 : decode cX13_bit 44 = .ok (.istore_n 1, 1) := by decide +kernel
theorem dX13_bit_45 : decode cX13_bit 45 = .ok (.aload_n 0, 1) := by decide +kernel
theorem dX13_bit_46 : decode cX13_bit 46 = .ok (.dup, 1) := by decide +kernel
theorem dX13_bit_47 : decode cX13_bit 47 = .ok (.getfield 265, 3) := by decide +kernel
theorem dX13_bit_50 : decode cX13_bit 50 = .ok (.iconst 1, 1) := by decide +kernel
theorem dX13_bit_51 : decode cX13_bit 51 = .ok (.iadd, 1) := by decide +kernel
theorem dX13_bit_52 : decode cX13_bit 52 = .ok (.putfield 265, 3) := by decide +kernel
theorem dX13_bit_55 : decode cX13_bit 55 = .ok (.iload_n 1, 1) := by decide +kernel
theorem dX13_bit_56 : decode cX13_bit 56 = .ok (.ireturn, 1) := by decide +kernel
theorem dX13_bits_0 : decode cX13_bits 0 = .ok (.lconst 0, 1) := by decide +kernel
theorem dX13_bits_1 : decode cX13_bits 1 = .ok (.lstore_n 2, 1) := by decide +kernel
theorem dX13_bits_2 : decode cX13_bits 2 = .ok (.iconst 0, 1) := by decide +kernel
theorem dX13_bits_3 : decode cX13_bits 3 = .ok (.istore 4, 2) := by decide +kernel
theorem dX13_bits_5 : decode cX13_bits 5 = .ok (.iload 4, 2) := by decide +kernel
theorem dX13_bits_7 : decode cX13_bits 7 = .ok (.iload_n 1, 1) := by decide +kernel
theorem dX13_bits_8 : decode cX13_bits 8 = .ok (.if_icmp .ge 19, 3) := by decide +kernel
theorem dX13_bits_11 : decode cX13_bits 11 = .ok (.lload_n 2, 1) := by decide +kernel
theorem dX13_bits_12 : decode cX13_bits 12 = .ok (.iconst 1, 1) := by decide +kernel
theorem dX13_bits_13 : decode cX13_bits 13 = .ok (.lshl, 1) := by decide +kernel
theorem dX13_bits_14 : decode cX13_bits 14 = .ok (.aload_n 0, 1) := by decide +kernel
theorem dX13_bits_15 : decode cX13_bits 15 = .ok (.invokevirtual 271, 3) := by decide +kernel
theorem dX13_bits_18 : decode cX13_bits 18 = .ok (.i2l, 1) := by decide +kernel
theorem dX13_bits_19 : decode cX13_bits 19 = .ok (.lor, 1) := by decide +kernel
theorem dX13_bits_20 : decode cX13_bits 20 = .ok (.lstore_n 2, 1) := by decide +kernel
theorem dX13_bits_21 : decode cX13_bits 21 = .ok (.iinc 4 1, 3) := by decide +kernel
theorem dX13_bits_24 : decode cX13_bits 24 = .ok (.goto (-19), 3) := by decide +kernel
theorem dX13_bits_27 : decode cX13_bits 27 = .ok (.lload_n 2, 1) := by decide +kernel
theorem dX13_bits_28 : decode cX13_bits 28 = .ok (.lreturn, 1) := by decide +kernel
theorem dX13_readMap_0 : decode cX13_readMap 0 = .ok (.aload_n 0, 1) := by decide +kernel
theorem dX13_readMap_1 : decode cX13_readMap 1 = .ok (.bipush 16, 2) := by decide +kernel
theorem dX13_readMap_3 : decode cX13_readMap 3 = .ok (.invokevirtual 274, 3) := by decide +kernel
theorem dX13_readMap_6 : decode cX13_readMap 6 = .ok (.l2i, 1) := by decide +kernel
theorem dX13_readMap_7 : decode cX13_readMap 7 = .ok (.istore_n 1, 1) := by decide +kernel
theorem dX13_readMap_8 : decode cX13_readMap 8 = .ok (.iconst 0, 1) := by decide +kernel
theorem dX13_readMap_9 : decode cX13_readMap 9 = .ok (.istore_n 2, 1) := by decide +kernel
theorem dX13_readMap_10 : decode cX13_readMap 10 = .ok (.iload_n 2, 1) := by decide +kernel
theorem dX13_readMap_11 : decode cX13_readMap 11 = .ok (.bipush 16, 2) := by decide +kernel
theorem dX13_readMap_13 : decode cX13_readMap 13 = .ok (.if_icmp .ge 72, 3) := by decide +kernel
theorem dX13_readMap_16 : decode cX13_readMap 16 = .ok (.iload_n 1, 1) := by decide +kernel
theorem dX13_readMap_17 : decode cX13_readMap 17 = .ok (.bipush 15, 2) := by decide +kernel
theorem dX13_readMap_19 : decode cX13_readMap 19 = .ok (.iload_n 2, 1) := by decide +kernel
theorem dX13_readMap_20 : decode cX13_readMap 20 = .ok (.isub, 1) := by decide +kernel
theorem dX13_readMap_21 : decode cX13_readMap 21 = .ok (.ishr, 1) := by decide +kernel
theorem dX13_readMap_22 : decode cX13_readMap 22 = .ok (.iconst 1, 1) := by decide +kernel
theorem dX13_readMap_23 : decode cX13_readMap 23 = .ok (.iand, 1) := by decide +kernel
theorem dX13_readMap_24 : decode cX13_readMap 24 = .ok (.iconst 1, 1) := by decide +kernel
theorem dX13_readMap_25 : decode cX13_readMap 25 = .ok (.if_icmp .ne 7, 3) := by decide +kernel
theorem dX13_readMap_28 : decode cX13_readMap 28 = .ok (.iconst 1, 1) := by decide +kernel
theorem dX13_readMap_29 : decode cX13_readMap 29 = .ok (.goto 4, 3) := by decide +kernel
theorem dX13_readMap_32 : decode cX13_readMap 32 = .ok (.iconst 0, 1) := by decide +kernel
theorem dX13_readMap_33 : decode cX13_readMap 33 = .ok (.istore_n 3, 1) := by decide +kernel
theorem dX13_readMap_34 : decode cX13_readMap 34 = .ok (.iconst 0, 1) := by decide +kernel
theorem dX13_readMap_35 : decode cX13_readMap 35 = .ok (.istore 4, 2) := by decide +kernel
theorem dX13_readMap_37 : decode cX13_readMap 37 = .ok (.iload 4, 2) := by decide +kernel
theorem dX13_readMap_39 : decode cX13_readMap 39 = .ok (.bipush 16, 2) := by decide +kernel
theorem dX13_readMap_41 : decode cX13_readMap 41 = .ok (.if_icmp .ge 38, 3) := by decide +kernel
theorem dX13_readMap_44 : decode cX13_readMap 44 = .ok (.aload_n 0, 1) := by decide +kernel
theorem dX13_readMap_45 : decode cX13_readMap 45 = .ok (.getfield 59, 3) := by decide +kernel
theorem dX13_readMap_48 : decode cX13_readMap 48 = .ok (.bipush 16, 2) := by decide +kernel
theorem dX13_readMap_50 : decode cX13_readMap 50 = .ok (.iload_n 2, 1) := by decide +kernel
theorem dX13_readMap_51 : decode cX13_readMap 51 = .ok (.imul, 1) := by decide +kernel
theorem dX13_readMap_52 : decode cX13_readMap 52 = .ok (.iload 4, 2) := by decide +kernel
theorem dX13_readMap_54 : decode cX13_readMap 54 = .ok (.iadd, 1) := by decide +kernel
theorem dX13_readMap_55 : decode cX13_readMap 55 = .ok (.iload_n 3, 1) := by decide +kernel
theorem dX13_readMap_56 : decode cX13_readMap 56 = .ok (.ifCond .eq 15, 3) := by decide +kernel
theorem dX13_readMap_59 : decode cX13_readMap 59 = .ok (.aload_n 0, 1) := by decide +kernel
theorem dX13_readMap_60 : decode cX13_readMap 60 = .ok (.invokevirtual 271, 3) := by decide +kernel
theorem dX13_readMap_63 : decode cX13_readMap 63 = .ok (.iconst 1, 1) := by decide +kernel
theorem dX13_readMap_64 : decode cX13_readMap 64 = .ok (.if_icmp .ne 7, 3) := by decide +kernel
theorem dX13_readMap_67 : decode cX13_readMap 67 = .ok (.iconst 1, 1) := by decide +kernel
theorem dX13_readMap_68 : decode cX13_readMap 68 = .ok (.goto 4, 3) := by decide +kernel
theorem dX13_readMap_71 : decode cX13_readMap 71 = .ok (.iconst 0, 1) := by decide +kernel
theorem dX13_readMap_72 : decode cX13_readMap 72 = .ok (.bastore, 1) := by decide +kernel
theorem dX13_readMap_73 : decode cX13_readMap 73 = .ok (.iinc 4 1, 3) := by decide +kernel
theorem dX13_readMap_76 : decode cX13_readMap 76 = .ok (.goto (-39), 3) := by decide +kernel
theorem dX13_readMap_79 : decode cX13_readMap 79 = .ok (.iinc 2 1, 3) := by decide +kernel
theorem dX13_readMap_82 : decode cX13_readMap 82 = .ok (.goto (-72), 3) := by decide +kernel
theorem dX13_readMap_85 : decode cX13_readMap 85 = .ok (.aload_n 0, 1) := by decide +kernel
theorem dX13_readMap_86 : decode cX13_readMap 86 = .ok (.invokevirtual 168, 3) := by decide +kernel
theorem dX13_readMap_89 : decode cX13_readMap 89 = .ok (.aload_n 0, 1) := by decide +kernel
theorem dX13_readMap_90 : decode cX13_readMap 90 = .ok (.getfield 171, 3) := by decide +kernel
theorem dX13_readMap_93 : decode cX13_readMap 93 = .ok (.ifCond .ne 8, 3) := by decide +kernel
theorem dX13_readMap_96 : decode cX13_readMap 96 = .ok (.aload_n 0, 1) := by decide +kernel
theorem dX13_readMap_97 : decode cX13_readMap 97 = .ok (.iconst 5, 1) := by decide +kernel
theorem dX13_readMap_98 : decode cX13_readMap 98 = .ok (.invokevirtual 268, 3) := by decide +kernel
theorem dX13_readMap_101 : decode cX13_readMap 101 = .ok (.return_, 1) := by decide +kernel
theorem dX13_readChoices_0 : decode cX13_readChoices 0 = .ok (.aload_n 0, 1) := by decide +kernel
theorem dX13_readChoices_1 : decode cX13_readChoices 1 = .ok (.aload_n 0, 1) := by decide +kernel
theorem dX13_readChoices_2 : decode cX13_readChoices 2 = .ok (.iconst 3, 1) := by decide +kernel
theorem dX13_readChoices_3 : decode cX13_readChoices 3 = .ok (.invokevirtual 274, 3) := by decide +kernel
theorem dX13_readChoices_6 : decode cX13_readChoices 6 = .ok (.l2i, 1) := by decide +kernel
theorem dX13_readChoices_7 : decode cX13_readChoices 7 = .ok (.putfield 189, 3) := by decide +kernel
theorem dX13_readChoices_10 : decode cX13_readChoices 10 = .ok (.aload_n 0, 1) := by decide +kernel
theorem dX13_readChoices_11 : decode cX13_readChoices 11 = .ok (.getfield 189, 3) := by decide +kernel
theorem dX13_readChoices_14 : decode cX13_readChoices 14 = .ok (.i2l, 1) := by decide +kernel
theorem dX13_readChoices_15 : decode cX13_readChoices 15 = .ok (.ldc2_w 187, 3) := by decide +kernel
theorem dX13_readChoices_18 : decode cX13_readChoices 18 = .ok (.ldc2_w 278, 3) := by decide +kernel
theorem dX13_readChoices_21 : decode cX13_readChoices 21 = .ok (.invokestatic 114, 3) := by decide +kernel
theorem dX13_readChoices_24 : decode cX13_readChoices 24 = .ok (.ifCond .ne 9, 3) := by decide +kernel
theorem dX13_readChoices_27 : decode cX13_readChoices 27 = .ok (.aload_n 0, 1) := by decide +kernel
theorem dX13_readChoices_28 : decode cX13_readChoices 28 = .ok (.bipush 6, 2) := by decide +kernel
theorem dX13_readChoices_30 : decode cX13_readChoices 30 = .ok (.invokevirtual 268, 3) := by decide +kernel
theorem dX13_readChoices_33 : decode cX13_readChoices 33 = .ok (.aload_n 0, 1) := by decide +kernel
theorem dX13_readChoices_34 : decode cX13_readChoices 34 = .ok (.aload_n 0, 1) := by decide +kernel
theorem dX13_readChoices_35 : decode cX13_readChoices 35 = .ok (.bipush 15, 2) := by decide +kernel
theorem dX13_readChoices_37 : decode cX13_readChoices 37 = .ok (.invokevirtual 274, 3) := by decide +kernel
theorem dX13_readChoices_40 : decode cX13_readChoices 40 = .ok (.l2i, 1) := by decide +kernel
theorem dX13_readChoices_41 : decode cX13_readChoices 41 = .ok (.putfield 195, 3) := by decide +kernel
theorem dX13_readChoices_44 : decode cX13_readChoices 44 = .ok (.aload_n 0, 1) := by decide +kernel
theorem dX13_readChoices_45 : decode cX13_readChoices 45 = .ok (.getfield 195, 3) := by decide +kernel
theorem dX13_readChoices_48 : decode cX13_readChoices 48 = .ok (.ifCond .ne 9, 3) := by decide +kernel
theorem dX13_readChoices_51 : decode cX13_readChoices 51 = .ok (.aload_n 0, 1) := by decide +kernel
theorem dX13_readChoices_52 : decode cX13_readChoices 52 = .ok (.bipush 6, 2) := by decide +kernel
theorem dX13_readChoices_54 : decode cX13_readChoices 54 = .ok (.invokevirtual 268, 3) := by decide +kernel
theorem dX13_readChoices_57 : decode cX13_readChoices 57 = .ok (.iconst 0, 1) := by decide +kernel
theorem dX13_readChoices_58 : decode cX13_readChoices 58 = .ok (.istore_n 1, 1) := by decide +kernel
theorem dX13_readChoices_59 : decode cX13_readChoices 59 = .ok (.iload_n 1, 1) := by decide +kernel
theorem dX13_readChoices_60 : decode cX13_readChoices 60 = .ok (.bipush 6, 2) := by decide +kernel
theorem dX13_readChoices_62 : decode cX13_readChoices 62 = .ok (.if_icmp .ge 16, 3) := by decide +kernel
theorem dX13_readChoices_65 : decode cX13_readChoices 65 = .ok (.aload_n 0, 1) := by decide +kernel
theorem dX13_readChoices_66 : decode cX13_readChoices 66 = .ok (.getfield 94, 3) := by decide +kernel
theorem dX13_readChoices_69 : decode cX13_readChoices 69 = .ok (.iload_n 1, 1) := by decide +kernel
theorem dX13_readChoices_70 : decode cX13_readChoices 70 = .ok (.iload_n 1, 1) := by decide +kernel
theorem dX13_readChoices_71 : decode cX13_readChoices 71 = .ok (.iastore, 1) := by decide +kernel
theorem dX13_readChoices_72 : decode cX13_readChoices 72 = .ok (.iinc 1 1, 3) := by decide +kernel
theorem dX13_readChoices_75 : decode cX13_readChoices 75 = .ok (.goto (-16), 3) := by decide +kernel
theorem dX13_readChoices_78 : decode cX13_readChoices 78 = .ok (.iconst 0, 1) := by decide +kernel
theorem dX13_readChoices_79 : decode cX13_readChoices 79 = .ok (.istore_n 1, 1) := by decide +kernel
theorem dX13_readChoices_80 : decode cX13_readChoices 80 = .ok (.iload_n 1, 1) := by decide +kernel
theorem dX13_readChoices_81 : decode cX13_readChoices 81 = .ok (.aload_n 0, 1) := by decide +kernel
theorem dX13_readChoices_82 : decode cX13_readChoices 82 = .ok (.getfield 195, 3) := by decide +kernel
theorem dX13_readChoices_85 : decode cX13_readChoices 85 = .ok (.if_icmp .ge 90, 3) := by decide +kernel
theorem dX13_readChoices_88 : decode cX13_readChoices 88 = .ok (.iconst 0, 1) := by decide +kernel
theorem dX13_readChoices_89 : decode cX13_readChoices 89 = .ok (.istore_n 2, 1) := by decide +kernel
theorem dX13_readChoices_90 : decode cX13_readChoices 90 = .ok (.aload_n 0, 1) := by decide +kernel
theorem dX13_readChoices_91 : decode cX13_readChoices 91 = .ok (.invokevirtual 271, 3) := by decide +kernel
theorem dX13_readChoices_94 : decode cX13_readChoices 94 = .ok (.iconst 1, 1) := by decide +kernel
theorem dX13_readChoices_95 : decode cX13_readChoices 95 = .ok (.if_icmp .ne 23, 3) := by decide +kernel
theorem dX13_readChoices_98 : decode cX13_readChoices 98 = .ok (.iinc 2 1, 3) := by decide +kernel
theorem dX13_readChoices_101 : decode cX13_readChoices 101 = .ok (.iload_n 2, 1) := by decide +kernel
theorem dX13_readChoices_102 : decode cX13_readChoices 102 = .ok (.aload_n 0, 1) := by decide +kernel
theorem dX13_readChoices_103 : decode cX13_readChoices 103 = .ok (.getfield 189, 3) := by decide +kernel
theorem dX13_readChoices_106 : decode cX13_readChoices 106 = .ok (.if_icmp .ne (-16), 3) := by decide +kernel
theorem dX13_readChoices_109 : decode cX13_readChoices 109 = .ok (.aload_n 0, 1) := by decide +kernel
theorem dX13_readChoices_110 : decode cX13_readChoices 110 = .ok (.bipush 6, 2) := by decide +kernel
theorem dX13_readChoices_112 : decode cX13_readChoices 112 = .ok (.invokevirtual 268, 3) := by decide +kernel
theorem dX13_readChoices_115 : decode cX13_readChoices 115 = .ok (.goto (-25), 3) := by decide +kernel
theorem dX13_readChoices_118 : decode cX13_readChoices 118 = .ok (.aload_n 0, 1) := by decide +kernel
theorem dX13_readChoices_119 : decode cX13_readChoices 119 = .ok (.getfield 94, 3) := by decide +kernel
theorem dX13_readChoices_122 : decode cX13_readChoices 122 = .ok (.iload_n 2, 1) := by decide +kernel
theorem dX13_readChoices_123 : decode cX13_readChoices 123 = .ok (.iaload, 1) := by decide +kernel
theorem dX13_readChoices_124 : decode cX13_readChoices 124 = .ok (.istore_n 3, 1) := by decide +kernel
theorem dX13_readChoices_125 : decode cX13_readChoices 125 = .ok (.iload_n 2, 1) := by decide +kernel
theorem dX13_readChoices_126 : decode cX13_readChoices 126 = .ok (.istore 4, 2) := by decide +kernel
theorem dX13_readChoices_128 : decode cX13_readChoices 128 = .ok (.iload 4, 2) := by decide +kernel
theorem dX13_readChoices_130 : decode cX13_readChoices 130 = .ok (.ifCond .le 25, 3) := by decide +kernel
theorem dX13_readChoices_133 : decode cX13_readChoices 133 = .ok (.aload_n 0, 1) := by decide +kernel
theorem dX13_readChoices_134 : decode cX13_readChoices 134 = .ok (.getfield 94, 3) := by decide +kernel
theorem dX13_readChoices_137 : decode cX13_readChoices 137 = .ok (.iload 4, 2) := by decide +kernel
theorem dX13_readChoices_139 : decode cX13_readChoices 139 = .ok (.aload_n 0, 1) := by decide +kernel
theorem dX13_readChoices_140 : decode cX13_readChoices 140 = .ok (.getfield 94, 3) := by decide +kernel
theorem dX13_readChoices_143 : decode cX13_readChoices 143 = .ok (.iload 4, 2) := by decide +kernel
theorem dX13_readChoices_145 : decode cX13_readChoices 145 = .ok (.iconst 1, 1) := by decide +kernel
theorem dX13_readChoices_146 : decode cX13_readChoices 146 = .ok (.isub, 1) := by decide +kernel
theorem dX13_readChoices_147 : decode cX13_readChoices 147 = .ok (.iaload, 1) := by decide +kernel
theorem dX13_readChoices_148 : decode cX13_readChoices 148 = .ok (.iastore, 1) := by decide +kernel
theorem dX13_readChoices_149 : decode cX13_readChoices 149 = .ok (.iinc 4 (-1), 3) := by decide +kernel
theorem dX13_readChoices_152 : decode cX13_readChoices 152 = .ok (.goto (-24), 3) := by decide +kernel
theorem dX13_readChoices_155 : decode cX13_readChoices 155 = .ok (.aload_n 0, 1) := by decide +kernel
theorem dX13_readChoices_156 : decode cX13_readChoices 156 = .ok (.getfield 94, 3) := by decide +kernel
theorem dX13_readChoices_159 : decode cX13_readChoices 159 = .ok (.iconst 0, 1) := by decide +kernel
theorem dX13_readChoices_160 : decode cX13_readChoices 160 = .ok (.iload_n 3, 1) := by decide +kernel
theorem dX13_readChoices_161 : decode cX13_readChoices 161 = .ok (.iastore, 1) := by decide +kernel
theorem dX13_readChoices_162 : decode cX13_readChoices 162 = .ok (.aload_n 0, 1) := by decide +kernel
theorem dX13_readChoices_163 : decode cX13_readChoices 163 = .ok (.getfield 72, 3) := by decide +kernel
theorem dX13_readChoices_166 : decode cX13_readChoices 166 = .ok (.iload_n 1, 1) := by decide +kernel
theorem dX13_readChoices_167 : decode cX13_readChoices 167 = .ok (.iload_n 3, 1) := by decide +kernel
theorem dX13_readChoices_168 : decode cX13_readChoices 168 = .ok (.iastore, 1) := by decide +kernel
theorem dX13_readChoices_169 : decode cX13_readChoices 169 = .ok (.iinc 1 1, 3) := by decide +kernel
theorem dX13_readChoices_172 : decode cX13_readChoices 172 = .ok (.goto (-92), 3) := by decide +kernel
theorem dX13_readChoices_175 : decode cX13_readChoices 175 = .ok (.return_, 1) := by decide +kernel
theorem dX13_readLengths_0 : decode cX13_readLengths 0 = .ok (.aload_n 0, 1) := by decide +kernel
theorem dX13_readLengths_1 : decode cX13_readLengths 1 = .ok (.iconst 5, 1) := by decide +kernel
theorem dX13_readLengths_2 : decode cX13_readLengths 2 = .ok (.invokevirtual 274, 3) := by decide +kernel
theorem dX13_readLengths_5 : decode cX13_readLengths 5 = .ok (.l2i, 1) := by decide +kernel
theorem dX13_readLengths_6 : decode cX13_readLengths 6 = .ok (.istore_n 3, 1) := by decide +kernel
theorem dX13_readLengths_7 : decode cX13_readLengths 7 = .ok (.aload_n 0, 1) := by decide +kernel
theorem dX13_readLengths_8 : decode cX13_readLengths 8 = .ok (.iload_n 3, 1) := by decide +kernel
theorem dX13_readLengths_9 : decode cX13_readLengths 9 = .ok (.invokevirtual 280, 3) := by decide +kernel
theorem dX13_readLengths_12 : decode cX13_readLengths 12 = .ok (.iconst 0, 1) := by decide +kernel
theorem dX13_readLengths_13 : decode cX13_readLengths 13 = .ok (.istore 4, 2) := by decide +kernel
theorem dX13_readLengths_15 : decode cX13_readLengths 15 = .ok (.iload 4, 2) := by decide +kernel
theorem dX13_readLengths_17 : decode cX13_readLengths 17 = .ok (.iload_n 2, 1) := by decide +kernel
theorem dX13_readLengths_18 : decode cX13_readLengths 18 = .ok (.if_icmp .ge 56, 3) := by decide +kernel
theorem dX13_readLengths_21 : decode cX13_readLengths 21 = .ok (.aload_n 0, 1) := by decide +kernel
theorem dX13_readLengths_22 : decode cX13_readLengths 22 = .ok (.invokevirtual 271, 3) := by decide +kernel
theorem dX13_readLengths_25 : decode cX13_readLengths 25 = .ok (.iconst 1, 1) := by decide +kernel
theorem dX13_readLengths_26 : decode cX13_readLengths 26 = .ok (.if_icmp .ne 28, 3) := by decide +kernel
theorem dX13_readLengths_29 : decode cX13_readLengths 29 = .ok (.aload_n 0, 1) := by decide +kernel
theorem dX13_readLengths_30 : decode cX13_readLengths 30 = .ok (.invokevirtual 271, 3) := by decide +kernel
theorem dX13_readLengths_33 : decode cX13_readLengths 33 = .ok (.ifCond .ne 9, 3) := by decide +kernel
theorem dX13_readLengths_36 : decode cX13_readLengths 36 = .ok (.iload_n 3, 1) := by decide +kernel
theorem dX13_readLengths_37 : decode cX13_readLengths 37 = .ok (.iconst 1, 1) := by decide +kernel
theorem dX13_readLengths_38 : decode cX13_readLengths 38 = .ok (.iadd, 1) := by decide +kernel
theorem dX13_readLengths_39 : decode cX13_readLengths 39 = .ok (.goto 6, 3) := by decide +kernel
theorem dX13_readLengths_42 : decode cX13_readLengths 42 = .ok (.iload_n 3, 1) := by decide +kernel
theorem dX13_readLengths_43 : decode cX13_readLengths 43 = .ok (.iconst 1, 1) := by decide +kernel
theorem dX13_readLengths_44 : decode cX13_readLengths 44 = .ok (.isub, 1) := by decide +kernel
theorem dX13_readLengths_45 : decode cX13_readLengths 45 = .ok (.istore_n 3, 1) := by decide +kernel
theorem dX13_readLengths_46 : decode cX13_readLengths 46 = .ok (.aload_n 0, 1) := by decide +kernel
theorem dX13_readLengths_47 : decode cX13_readLengths 47 = .ok (.iload_n 3, 1) := by decide +kernel
theorem dX13_readLengths_48 : decode cX13_readLengths 48 = .ok (.invokevirtual 280, 3) := by decide +kernel
theorem dX13_readLengths_51 : decode cX13_readLengths 51 = .ok (.goto (-30), 3) := by decide +kernel
theorem dX13_readLengths_54 : decode cX13_readLengths 54 = .ok (.aload_n 0, 1) := by decide +kernel
theorem dX13_readLengths_55 : decode cX13_readLengths 55 = .ok (.getfield 63, 3) := by decide +kernel
theorem dX13_readLengths_58 : decode cX13_readLengths 58 = .ok (.sipush 260, 3) := by decide +kernel
theorem dX13_readLengths_61 : decode cX13_readLengths 61 = .ok (.iload_n 1, 1) := by decide +kernel
theorem dX13_readLengths_62 : decode cX13_readLengths 62 = .ok (.imul, 1) := by decide +kernel
theorem dX13_readLengths_63 : decode cX13_readLengths 63 = .ok (.iload 4, 2) := by decide +kernel
theorem dX13_readLengths_65 : decode cX13_readLengths 65 = .ok (.iadd, 1) := by decide +kernel
theorem dX13_readLengths_66 : decode cX13_readLengths 66 = .ok (.iload_n 3, 1) := by decide +kernel
theorem dX13_readLengths_67 : decode cX13_readLengths 67 = .ok (.iastore, 1) := by decide +kernel
theorem dX13_readLengths_68 : decode cX13_readLengths 68 = .ok (.iinc 4 1, 3) := by decide +kernel
theorem dX13_readLengths_71 : decode cX13_readLengths 71 = .ok (.goto (-56), 3) := by decide +kernel
theorem dX13_readLengths_74 : decode cX13_readLengths 74 = .ok (.return_, 1) := by decide +kernel
theorem dX13_mustBeLength_0 : decode cX13_mustBeLength 0 = .ok (.iload_n 1, 1) := by decide +kernel
theorem dX13_mustBeLength_1 : decode cX13_mustBeLength 1 = .ok (.i2l, 1) := by decide +kernel
theorem dX13_mustBeLength_2 : decode cX13_mustBeLength 2 = .ok (.lconst 1, 1) := by decide +kernel
theorem dX13_mustBeLength_3 : decode cX13_mustBeLength 3 = .ok (.ldc2_w 112, 3) := by decide +kernel
theorem dX13_mustBeLength_6 : decode cX13_mustBeLength 6 = .ok (.invokestatic 114, 3) := by decide +kernel
theorem dX13_mustBeLength_9 : decode cX13_mustBeLength 9 = .ok (.ifCond .ne 9, 3) := by decide +kernel
theorem dX13_mustBeLength_12 : decode cX13_mustBeLength 12 = .ok (.aload_n 0, 1) := by decide +kernel
theorem dX13_mustBeLength_13 : decode cX13_mustBeLength 13 = .ok (.bipush 7, 2) := by decide +kernel
theorem dX13_mustBeLength_15 : decode cX13_mustBeLength 15 = .ok (.invokevirtual 268, 3) := by decide +kernel
theorem dX13_mustBeLength_18 : decode cX13_mustBeLength 18 = .ok (.return_, 1) := by decide +kernel
theorem dX13_readCode_0 : decode cX13_readCode 0 = .ok (.iconst 0, 1) := by decide +kernel
theorem dX13_readCode_1 : decode cX13_readCode 1 = .ok (.istore_n 3, 1) := by decide +kernel
theorem dX13_readCode_2 : decode cX13_readCode 2 = .ok (.iconst 1, 1) := by decide +kernel
theorem dX13_readCode_3 : decode cX13_readCode 3 = .ok (.istore 4, 2) := by decide +kernel
theorem dX13_readCode_5 : decode cX13_readCode 5 = .ok (.iload 4, 2) := by decide +kernel
theorem dX13_readCode_7 : decode cX13_readCode 7 = .ok (.bipush 20, 2) := by decide +kernel
theorem dX13_readCode_9 : decode cX13_readCode 9 = .ok (.if_icmp .gt 107, 3) := by decide +kernel
theorem dX13_readCode_12 : decode cX13_readCode 12 = .ok (.iconst 2, 1) := by decide +kernel
theorem dX13_readCode_13 : decode cX13_readCode 13 = .ok (.iload_n 3, 1) := by decide +kernel
theorem dX13_readCode_14 : decode cX13_readCode 14 = .ok (.imul, 1) := by decide +kernel
theorem dX13_readCode_15 : decode cX13_readCode 15 = .ok (.aload_n 0, 1) := by decide +kernel
theorem dX13_readCode_16 : decode cX13_readCode 16 = .ok (.invokevirtual 271, 3) := by decide +kernel
theorem dX13_readCode_19 : decode cX13_readCode 19 = .ok (.iadd, 1) := by decide +kernel
theorem dX13_readCode_20 : decode cX13_readCode 20 = .ok (.istore_n 3, 1) := by decide +kernel
theorem dX13_readCode_21 : decode cX13_readCode 21 = .ok (.aload_n 0, 1) := by decide +kernel
theorem dX13_readCode_22 : decode cX13_readCode 22 = .ok (.getfield 88, 3) := by decide +kernel
theorem dX13_readCode_25 : decode cX13_readCode 25 = .ok (.bipush 22, 2) := by decide +kernel
theorem dX13_readCode_27 : decode cX13_readCode 27 = .ok (.iload_n 1, 1) := by decide +kernel
theorem dX13_readCode_28 : decode cX13_readCode 28 = .ok (.imul, 1) := by decide +kernel
theorem dX13_readCode_29 : decode cX13_readCode 29 = .ok (.iload 4, 2) := by decide +kernel
theorem dX13_readCode_31 : decode cX13_readCode 31 = .ok (.iadd, 1) := by decide +kernel
theorem dX13_readCode_32 : decode cX13_readCode 32 = .ok (.iaload, 1) := by decide +kernel
theorem dX13_readCode_33 : decode cX13_readCode 33 = .ok (.istore 5, 2) := by decide +kernel
theorem dX13_readCode_35 : decode cX13_readCode 35 = .ok (.iload_n 3, 1) := by decide +kernel
theorem dX13_readCode_36 : decode cX13_readCode 36 = .ok (.iload 5, 2) := by decide +kernel
theorem dX13_readCode_38 : decode cX13_readCode 38 = .ok (.if_icmp .lt 72, 3) := by decide +kernel
theorem dX13_readCode_41 : decode cX13_readCode 41 = .ok (.iload_n 3, 1) := by decide +kernel
theorem dX13_readCode_42 : decode cX13_readCode 42 = .ok (.iload 5, 2) := by decide +kernel
theorem dX13_readCode_44 : decode cX13_readCode 44 = .ok (.aload_n 0, 1) := by decide +kernel
theorem dX13_readCode_45 : decode cX13_readCode 45 = .ok (.getfield 91, 3) := by decide +kernel
theorem dX13_readCode_48 : decode cX13_readCode 48 = .ok (.bipush 22, 2) := by decide +kernel
theorem dX13_readCode_50 : decode cX13_readCode 50 = .ok (.iload_n 1, 1) := by decide +kernel
theorem dX13_readCode_51 : decode cX13_readCode 51 = .ok (.imul, 1) := by decide +kernel
theorem dX13_readCode_52 : decode cX13_readCode 52 = .ok (.iload 4, 2) := by decide +kernel
theorem dX13_readCode_54 : decode cX13_readCode 54 = .ok (.iadd, 1) := by decide +kernel
theorem dX13_readCode_55 : decode cX13_readCode 55 = .ok (.iaload, 1) := by decide +kernel
theorem dX13_readCode_56 : decode cX13_readCode 56 = .ok (.iadd, 1) := by decide +kernel
theorem dX13_readCode_57 : decode cX13_readCode 57 = .ok (.if_icmp .ge 53, 3) := by decide +kernel
theorem dX13_readCode_60 : decode cX13_readCode 60 = .ok (.iconst (-1), 1) := by decide +kernel
theorem dX13_readCode_61 : decode cX13_readCode 61 = .ok (.istore 6, 2) := by decide +kernel
theorem dX13_readCode_63 : decode cX13_readCode 63 = .ok (.iload_n 3, 1) := by decide +kernel
theorem dX13_readCode_64 : decode cX13_readCode 64 = .ok (.iload 5, 2) := by decide +kernel
theorem dX13_readCode_66 : decode cX13_readCode 66 = .ok (.isub, 1) := by decide +kernel
theorem dX13_readCode_67 : decode cX13_readCode 67 = .ok (.istore 7, 2) := by decide +kernel
theorem dX13_readCode_69 : decode cX13_readCode 69 = .ok (.iload 7, 2) := by decide +kernel
theorem dX13_readCode_71 : decode cX13_readCode 71 = .ok (.ifCond .lt 36, 3) := by decide +kernel
theorem dX13_readCode_74 : decode cX13_readCode 74 = .ok (.iinc 6 1, 3) := by decide +kernel
theorem dX13_readCode_77 : decode cX13_readCode 77 = .ok (.aload_n 0, 1) := by decide +kernel
theorem dX13_readCode_78 : decode cX13_readCode 78 = .ok (.getfield 63, 3) := by decide +kernel
theorem dX13_readCode_81 : decode cX13_readCode 81 = .ok (.sipush 260, 3) := by decide +kernel
theorem dX13_readCode_84 : decode cX13_readCode 84 = .ok (.iload_n 1, 1) := by decide +kernel
theorem dX13_readCode_85 : decode cX13_readCode 85 = .ok (.imul, 1) := by decide +kernel
theorem dX13_readCode_86 : decode cX13_readCode 86 = .ok (.iload 6, 2) := by decide +kernel
theorem dX13_readCode_88 : decode cX13_readCode 88 = .ok (.iadd, 1) := by decide +kernel
theorem dX13_readCode_89 : decode cX13_readCode 89 = .ok (.iaload, 1) := by decide +kernel
theorem dX13_readCode_90 : decode cX13_readCode 90 = .ok (.iload 4, 2) := by decide +kernel
theorem dX13_readCode_92 : decode cX13_readCode 92 = .ok (.if_icmp .eq 9, 3) := by decide +kernel
theorem dX13_readCode_95 : decode cX13_readCode 95 = .ok (.iinc 6 1, 3) := by decide +kernel
theorem dX13_readCode_98 : decode cX13_readCode 98 = .ok (.goto (-21), 3) := by decide +kernel
theorem dX13_readCode_101 : decode cX13_readCode 101 = .ok (.iinc 7 (-1), 3) := by decide +kernel
theorem dX13_readCode_104 : decode cX13_readCode 104 = .ok (.goto (-35), 3) := by decide +kernel
theorem dX13_readCode_107 : decode cX13_readCode 107 = .ok (.iload 6, 2) := by decide +kernel
theorem dX13_readCode_109 : decode cX13_readCode 109 = .ok (.ireturn, 1) := by decide +kernel
theorem dX13_readCode_110 : decode cX13_readCode 110 = .ok (.iinc 4 1, 3) := by decide +kernel
theorem dX13_readCode_113 : decode cX13_readCode 113 = .ok (.goto (-108), 3) := by decide +kernel
theorem dX13_readCode_116 : decode cX13_readCode 116 = .ok (.aload_n 0, 1) := by decide +kernel
theorem dX13_readCode_117 : decode cX13_readCode 117 = .ok (.bipush 8, 2) := by decide +kernel
theorem dX13_readCode_119 : decode cX13_readCode 119 = .ok (.invokevirtual 268, 3) := by decide +kernel
theorem dX13_readCode_122 : decode cX13_readCode 122 = .ok (.iconst 0, 1) := by decide +kernel
theorem dX13_readCode_123 : decode cX13_readCode 123 = .ok (.ireturn, 1) := by decide +kernel
theorem dX13_addBytes_0 : decode cX13_addBytes 0 = .ok (.iconst 0, 1) := by decide +kernel
theorem dX13_addBytes_1 : decode cX13_addBytes 1 = .ok (.istore_n 3, 1) := by decide +kernel
theorem dX13_addBytes_2 : decode cX13_addBytes 2 = .ok (.iload_n 3, 1) := by decide +kernel
theorem dX13_addBytes_3 : decode cX13_addBytes 3 = .ok (.iload_n 2, 1) := by decide +kernel
theorem dX13_addBytes_4 : decode cX13_addBytes 4 = .ok (.if_icmp .ge 30, 3) := by decide +kernel
theorem dX13_addBytes_7 : decode cX13_addBytes 7 = .ok (.aload_n 0, 1) := by decide +kernel
theorem dX13_addBytes_8 : decode cX13_addBytes 8 = .ok (.getfield 44, 3) := by decide +kernel
theorem dX13_addBytes_11 : decode cX13_addBytes 11 = .ok (.aload_n 0, 1) := by decide +kernel
theorem dX13_addBytes_12 : decode cX13_addBytes 12 = .ok (.getfield 161, 3) := by decide +kernel
theorem dX13_addBytes_15 : decode cX13_addBytes 15 = .ok (.iload_n 1, 1) := by decide +kernel
theorem dX13_addBytes_16 : decode cX13_addBytes 16 = .ok (.i2b, 1) := by decide +kernel
theorem dX13_addBytes_17 : decode cX13_addBytes 17 = .ok (.bastore, 1) := by decide +kernel
theorem dX13_addBytes_18 : decode cX13_addBytes 18 = .ok (.aload_n 0, 1) := by decide +kernel
theorem dX13_addBytes_19 : decode cX13_addBytes 19 = .ok (.dup, 1) := by decide +kernel
theorem dX13_addBytes_20 : decode cX13_addBytes 20 = .ok (.getfield 161, 3) := by decide +kernel
theorem dX13_addBytes_23 : decode cX13_addBytes 23 = .ok (.iconst 1, 1) := by decide +kernel
theorem dX13_addBytes_24 : decode cX13_addBytes 24 = .ok (.iadd, 1) := by decide +kernel
theorem dX13_addBytes_25 : decode cX13_addBytes 25 = .ok (.putfield 161, 3) := by decide +kernel
theorem dX13_addBytes_28 : decode cX13_addBytes 28 = .ok (.iinc 3 1, 3) := by decide +kernel
theorem dX13_addBytes_31 : decode cX13_addBytes 31 = .ok (.goto (-29), 3) := by decide +kernel
theorem dX13_addBytes_34 : decode cX13_addBytes 34 = .ok (.return_, 1) := by decide +kernel
theorem dX13_readNumbers_0 : decode cX13_readNumbers 0 = .ok (.aload_n 0, 1) := by decide +kernel
theorem dX13_readNumbers_1 : decode cX13_readNumbers 1 = .ok (.iconst 0, 1) := by decide +kernel
theorem dX13_readNumbers_2 : decode cX13_readNumbers 2 = .ok (.putfield 161, 3) := by decide +kernel
theorem dX13_readNumbers_5 : decode cX13_readNumbers 5 = .ok (.aload_n 0, 1) := by decide +kernel
theorem dX13_readNumbers_6 : decode cX13_readNumbers 6 = .ok (.iconst 0, 1) := by decide +kernel
theorem dX13_readNumbers_7 : decode cX13_readNumbers 7 = .ok (.putfield 174, 3) := by decide +kernel
theorem dX13_readNumbers_10 : decode cX13_readNumbers 10 = .ok (.iconst 0, 1) := by decide +kernel
theorem dX13_readNumbers_11 : decode cX13_readNumbers 11 = .ok (.istore_n 3, 1) := by decide +kernel
theorem dX13_readNumbers_12 : decode cX13_readNumbers 12 = .ok (.iconst 1, 1) := by decide +kernel
theorem dX13_readNumbers_13 : decode cX13_readNumbers 13 = .ok (.istore 4, 2) := by decide +kernel
theorem dX13_readNumbers_15 : decode cX13_readNumbers 15 = .ok (.iconst 0, 1) := by decide +kernel
theorem dX13_readNumbers_16 : decode cX13_readNumbers 16 = .ok (.istore 5, 2) := by decide +kernel
theorem dX13_readNumbers_18 : decode cX13_readNumbers 18 = .ok (.iload 5, 2) := by decide +kernel
theorem dX13_readNumbers_20 : decode cX13_readNumbers 20 = .ok (.iload_n 1, 1) := by decide +kernel
theorem dX13_readNumbers_21 : decode cX13_readNumbers 21 = .ok (.iconst 1, 1) := by decide +kernel
theorem dX13_readNumbers_22 : decode cX13_readNumbers 22 = .ok (.isub, 1) := by decide +kernel
theorem dX13_readNumbers_23 : decode cX13_readNumbers 23 = .ok (.if_icmp .eq 193, 3) := by decide +kernel
theorem dX13_readNumbers_26 : decode cX13_readNumbers 26 = .ok (.aload_n 0, 1) := by decide +kernel
theorem dX13_readNumbers_27 : decode cX13_readNumbers 27 = .ok (.getfield 174, 3) := by decide +kernel
theorem dX13_readNumbers_30 : decode cX13_readNumbers 30 = .ok (.bipush 50, 2) := by decide +kernel
theorem dX13_readNumbers_32 : decode cX13_readNumbers 32 = .ok (.aload_n 0, 1) := by decide +kernel
theorem dX13_readNumbers_33 : decode cX13_readNumbers 33 = .ok (.getfield 195, 3) := by decide +kernel
theorem dX13_readNumbers_36 : decode cX13_readNumbers 36 = .ok (.imul, 1) := by decide +kernel
theorem dX13_readNumbers_37 : decode cX13_readNumbers 37 = .ok (.if_icmp .ne 9, 3) := by decide +kernel
theorem dX13_readNumbers_40 : decode cX13_readNumbers 40 = .ok (.aload_n 0, 1) := by decide +kernel
theorem dX13_readNumbers_41 : decode cX13_readNumbers 41 = .ok (.bipush 8, 2) := by decide +kernel
theorem dX13_readNumbers_43 : decode cX13_readNumbers 43 = .ok (.invokevirtual 268, 3) := by decide +kernel
theorem dX13_readNumbers_46 : decode cX13_readNumbers 46 = .ok (.aload_n 0, 1) := by decide +kernel
theorem dX13_readNumbers_47 : decode cX13_readNumbers 47 = .ok (.aload_n 0, 1) := by decide +kernel
theorem dX13_readNumbers_48 : decode cX13_readNumbers 48 = .ok (.getfield 72, 3) := by decide +kernel
theorem dX13_readNumbers_51 : decode cX13_readNumbers 51 = .ok (.aload_n 0, 1) := by decide +kernel
theorem dX13_readNumbers_52 : decode cX13_readNumbers 52 = .ok (.getfield 174, 3) := by decide +kernel
theorem dX13_readNumbers_55 : decode cX13_readNumbers 55 = .ok (.bipush 50, 2) := by decide +kernel
theorem dX13_readNumbers_57 : decode cX13_readNumbers 57 = .ok (.idiv, 1) := by decide +kernel
theorem dX13_readNumbers_58 : decode cX13_readNumbers 58 = .ok (.iaload, 1) := by decide +kernel
theorem dX13_readNumbers_59 : decode cX13_readNumbers 59 = .ok (.iload_n 1, 1) := by decide +kernel
theorem dX13_readNumbers_60 : decode cX13_readNumbers 60 = .ok (.invokevirtual 283, 3) := by decide +kernel
theorem dX13_readNumbers_63 : decode cX13_readNumbers 63 = .ok (.istore 5, 2) := by decide +kernel
theorem dX13_readNumbers_65 : decode cX13_readNumbers 65 = .ok (.aload_n 0, 1) := by decide +kernel
theorem dX13_readNumbers_66 : decode cX13_readNumbers 66 = .ok (.dup, 1) := by decide +kernel
theorem dX13_readNumbers_67 : decode cX13_readNumbers 67 = .ok (.getfield 174, 3) := by decide +kernel
theorem dX13_readNumbers_70 : decode cX13_readNumbers 70 = .ok (.iconst 1, 1) := by decide +kernel
theorem dX13_readNumbers_71 : decode cX13_readNumbers 71 = .ok (.iadd, 1) := by decide +kernel
theorem dX13_readNumbers_72 : decode cX13_readNumbers 72 = .ok (.putfield 174, 3) := by decide +kernel
theorem dX13_readNumbers_75 : decode cX13_readNumbers 75 = .ok (.iload 5, 2) := by decide +kernel
theorem dX13_readNumbers_77 : decode cX13_readNumbers 77 = .ok (.iconst 2, 1) := by decide +kernel
theorem dX13_readNumbers_78 : decode cX13_readNumbers 78 = .ok (.if_icmp .ge 38, 3) := by decide +kernel
theorem dX13_readNumbers_81 : decode cX13_readNumbers 81 = .ok (.iload_n 3, 1) := by decide +kernel
theorem dX13_readNumbers_82 : decode cX13_readNumbers 82 = .ok (.iload 5, 2) := by decide +kernel
theorem dX13_readNumbers_84 : decode cX13_readNumbers 84 = .ok (.iconst 1, 1) := by decide +kernel
theorem dX13_readNumbers_85 : decode cX13_readNumbers 85 = .ok (.iadd, 1) := by decide +kernel
theorem dX13_readNumbers_86 : decode cX13_readNumbers 86 = .ok (.iload 4, 2) := by decide +kernel
theorem dX13_readNumbers_88 : decode cX13_readNumbers 88 = .ok (.imul, 1) := by decide +kernel
theorem dX13_readNumbers_89 : decode cX13_readNumbers 89 = .ok (.iadd, 1) := by decide +kernel
theorem dX13_readNumbers_90 : decode cX13_readNumbers 90 = .ok (.istore_n 3, 1) := by decide +kernel
theorem dX13_readNumbers_91 : decode cX13_readNumbers 91 = .ok (.iconst 2, 1) := by decide +kernel
theorem dX13_readNumbers_92 : decode cX13_readNumbers 92 = .ok (.iload 4, 2) := by decide +kernel
theorem dX13_readNumbers_94 : decode cX13_readNumbers 94 = .ok (.imul, 1) := by decide +kernel
theorem dX13_readNumbers_95 : decode cX13_readNumbers 95 = .ok (.istore 4, 2) := by decide +kernel
theorem dX13_readNumbers_97 : decode cX13_readNumbers 97 = .ok (.aload_n 0, 1) := by decide +kernel
theorem dX13_readNumbers_98 : decode cX13_readNumbers 98 = .ok (.getfield 161, 3) := by decide +kernel
theorem dX13_readNumbers_101 : decode cX13_readNumbers 101 = .ok (.iload_n 3, 1) := by decide +kernel
theorem dX13_readNumbers_102 : decode cX13_readNumbers 102 = .ok (.iadd, 1) := by decide +kernel
theorem dX13_readNumbers_103 : decode cX13_readNumbers 103 = .ok (.iload_n 2, 1) := by decide +kernel
theorem dX13_readNumbers_104 : decode cX13_readNumbers 104 = .ok (.if_icmp .le (-86), 3) := by decide +kernel
theorem dX13_readNumbers_107 : decode cX13_readNumbers 107 = .ok (.aload_n 0, 1) := by decide +kernel
theorem dX13_readNumbers_108 : decode cX13_readNumbers 108 = .ok (.bipush 8, 2) := by decide +kernel
theorem dX13_readNumbers_110 : decode cX13_readNumbers 110 = .ok (.invokevirtual 268, 3) := by decide +kernel
theorem dX13_readNumbers_113 : decode cX13_readNumbers 113 = .ok (.goto (-95), 3) := by decide +kernel
theorem dX13_readNumbers_116 : decode cX13_readNumbers 116 = .ok (.aload_n 0, 1) := by decide +kernel
theorem dX13_readNumbers_117 : decode cX13_readNumbers 117 = .ok (.aload_n 0, 1) := by decide +kernel
theorem dX13_readNumbers_118 : decode cX13_readNumbers 118 = .ok (.getfield 56, 3) := by decide +kernel
theorem dX13_readNumbers_121 : decode cX13_readNumbers 121 = .ok (.iconst 0, 1) := by decide +kernel
theorem dX13_readNumbers_122 : decode cX13_readNumbers 122 = .ok (.iaload, 1) := by decide +kernel
theorem dX13_readNumbers_123 : decode cX13_readNumbers 123 = .ok (.iload_n 3, 1) := by decide +kernel
theorem dX13_readNumbers_124 : decode cX13_readNumbers 124 = .ok (.invokevirtual 286, 3) := by decide +kernel
theorem dX13_readNumbers_127 : decode cX13_readNumbers 127 = .ok (.iconst 0, 1) := by decide +kernel
theorem dX13_readNumbers_128 : decode cX13_readNumbers 128 = .ok (.istore_n 3, 1) := by decide +kernel
theorem dX13_readNumbers_129 : decode cX13_readNumbers 129 = .ok (.iconst 1, 1) := by decide +kernel
theorem dX13_readNumbers_130 : decode cX13_readNumbers 130 = .ok (.istore 4, 2) := by decide +kernel
theorem dX13_readNumbers_132 : decode cX13_readNumbers 132 = .ok (.iload 5, 2) := by decide +kernel
theorem dX13_readNumbers_134 : decode cX13_readNumbers 134 = .ok (.iload_n 1, 1) := by decide +kernel
theorem dX13_readNumbers_135 : decode cX13_readNumbers 135 = .ok (.iconst 1, 1) := by decide +kernel
theorem dX13_readNumbers_136 : decode cX13_readNumbers 136 = .ok (.isub, 1) := by decide +kernel
theorem dX13_readNumbers_137 : decode cX13_readNumbers 137 = .ok (.if_icmp .ge (-119), 3) := by decide +kernel
theorem dX13_readNumbers_140 : decode cX13_readNumbers 140 = .ok (.aload_n 0, 1) := by decide +kernel
theorem dX13_readNumbers_141 : decode cX13_readNumbers 141 = .ok (.getfield 161, 3) := by decide +kernel
theorem dX13_readNumbers_144 : decode cX13_readNumbers 144 = .ok (.iload_n 2, 1) := by decide +kernel
theorem dX13_readNumbers_145 : decode cX13_readNumbers 145 = .ok (.if_icmp .ne 9, 3) := by decide +kernel
theorem dX13_readNumbers_148 : decode cX13_readNumbers 148 = .ok (.aload_n 0, 1) := by decide +kernel
theorem dX13_readNumbers_149 : decode cX13_readNumbers 149 = .ok (.bipush 8, 2) := by decide +kernel
theorem dX13_readNumbers_151 : decode cX13_readNumbers 151 = .ok (.invokevirtual 268, 3) := by decide +kernel
theorem dX13_readNumbers_154 : decode cX13_readNumbers 154 = .ok (.aload_n 0, 1) := by decide +kernel
theorem dX13_readNumbers_155 : decode cX13_readNumbers 155 = .ok (.getfield 56, 3) := by decide +kernel
theorem dX13_readNumbers_158 : decode cX13_readNumbers 158 = .ok (.iload 5, 2) := by decide +kernel
theorem dX13_readNumbers_160 : decode cX13_readNumbers 160 = .ok (.iconst 1, 1) := by decide +kernel
theorem dX13_readNumbers_161 : decode cX13_readNumbers 161 = .ok (.isub, 1) := by decide +kernel
theorem dX13_readNumbers_162 : decode cX13_readNumbers 162 = .ok (.iaload, 1) := by decide +kernel
theorem dX13_readNumbers_163 : decode cX13_readNumbers 163 = .ok (.istore 6, 2) := by decide +kernel
theorem dX13_readNumbers_165 : decode cX13_readNumbers 165 = .ok (.iload 5, 2) := by decide +kernel
theorem dX13_readNumbers_167 : decode cX13_readNumbers 167 = .ok (.iconst 1, 1) := by decide +kernel
theorem dX13_readNumbers_168 : decode cX13_readNumbers 168 = .ok (.isub, 1) := by decide +kernel
theorem dX13_readNumbers_169 : decode cX13_readNumbers 169 = .ok (.istore 7, 2) := by decide +kernel
theorem dX13_readNumbers_171 : decode cX13_readNumbers 171 = .ok (.iload 7, 2) := by decide +kernel
theorem dX13_readNumbers_173 : decode cX13_readNumbers 173 = .ok (.ifCond .le 25, 3) := by decide +kernel
theorem dX13_readNumbers_176 : decode cX13_readNumbers 176 = .ok (.aload_n 0, 1) := by decide +kernel
theorem dX13_readNumbers_177 : decode cX13_readNumbers 177 = .ok (.getfield 56, 3) := by decide +kernel
theorem dX13_readNumbers_180 : decode cX13_readNumbers 180 = .ok (.iload 7, 2) := by decide +kernel
theorem dX13_readNumbers_182 : decode cX13_readNumbers 182 = .ok (.aload_n 0, 1) := by decide +kernel
theorem dX13_readNumbers_183 : decode cX13_readNumbers 183 = .ok (.getfield 56, 3) := by decide +kernel
theorem dX13_readNumbers_186 : decode cX13_readNumbers 186 = .ok (.iload 7, 2) := by decide +kernel
theorem dX13_readNumbers_188 : decode cX13_readNumbers 188 = .ok (.iconst 1, 1) := by decide +kernel
theorem dX13_readNumbers_189 : decode cX13_readNumbers 189 = .ok (.isub, 1) := by decide +kernel
theorem dX13_readNumbers_190 : decode cX13_readNumbers 190 = .ok (.iaload, 1) := by decide +kernel
theorem dX13_readNumbers_191 : decode cX13_readNumbers 191 = .ok (.iastore, 1) := by decide +kernel
theorem dX13_readNumbers_192 : decode cX13_readNumbers 192 = .ok (.iinc 7 (-1), 3) := by decide +kernel
theorem dX13_readNumbers_195 : decode cX13_readNumbers 195 = .ok (.goto (-24), 3) := by decide +kernel
theorem dX13_readNumbers_198 : decode cX13_readNumbers 198 = .ok (.aload_n 0, 1) := by decide +kernel
theorem dX13_readNumbers_199 : decode cX13_readNumbers 199 = .ok (.getfield 56, 3) := by decide +kernel
theorem dX13_readNumbers_202 : decode cX13_readNumbers 202 = .ok (.iconst 0, 1) := by decide +kernel
theorem dX13_readNumbers_203 : decode cX13_readNumbers 203 = .ok (.iload 6, 2) := by decide +kernel
theorem dX13_readNumbers_205 : decode cX13_readNumbers 205 = .ok (.iastore, 1) := by decide +kernel
theorem dX13_readNumbers_206 : decode cX13_readNumbers 206 = .ok (.aload_n 0, 1) := by decide +kernel
theorem dX13_readNumbers_207 : decode cX13_readNumbers 207 = .ok (.iload 6, 2) := by decide +kernel
theorem dX13_readNumbers_209 : decode cX13_readNumbers 209 = .ok (.iconst 1, 1) := by decide +kernel
theorem dX13_readNumbers_210 : decode cX13_readNumbers 210 = .ok (.invokevirtual 286, 3) := by decide +kernel
theorem dX13_readNumbers_213 : decode cX13_readNumbers 213 = .ok (.goto (-195), 3) := by decide +kernel
theorem dX13_readNumbers_216 : decode cX13_readNumbers 216 = .ok (.return_, 1) := by decide +kernel
theorem dX13_turnBack_0 : decode cX13_turnBack 0 = .ok (.iconst 0, 1) := by decide +kernel
theorem dX13_turnBack_1 : decode cX13_turnBack 1 = .ok (.istore_n 2, 1) := by decide +kernel
theorem dX13_turnBack_2 : decode cX13_turnBack 2 = .ok (.iload_n 2, 1) := by decide +kernel
theorem dX13_turnBack_3 : decode cX13_turnBack 3 = .ok (.sipush 257, 3) := by decide +kernel
theorem dX13_turnBack_6 : decode cX13_turnBack 6 = .ok (.if_icmp .ge 16, 3) := by decide +kernel
theorem dX13_turnBack_9 : decode cX13_turnBack 9 = .ok (.aload_n 0, 1) := by decide +kernel
theorem dX13_turnBack_10 : decode cX13_turnBack 10 = .ok (.getfield 97, 3) := by decide +kernel
theorem dX13_turnBack_13 : decode cX13_turnBack 13 = .ok (.iload_n 2, 1) := by decide +kernel
theorem dX13_turnBack_14 : decode cX13_turnBack 14 = .ok (.iconst 0, 1) := by decide +kernel
theorem dX13_turnBack_15 : decode cX13_turnBack 15 = .ok (.iastore, 1) := by decide +kernel
theorem dX13_turnBack_16 : decode cX13_turnBack 16 = .ok (.iinc 2 1, 3) := by decide +kernel
theorem dX13_turnBack_19 : decode cX13_turnBack 19 = .ok (.goto (-17), 3) := by decide +kernel
theorem dX13_turnBack_22 : decode cX13_turnBack 22 = .ok (.iconst 0, 1) := by decide +kernel
theorem dX13_turnBack_23 : decode cX13_turnBack 23 = .ok (.istore_n 2, 1) := by decide +kernel
theorem dX13_turnBack_24 : decode cX13_turnBack 24 = .ok (.iload_n 2, 1) := by decide +kernel
theorem dX13_turnBack_25 : decode cX13_turnBack 25 = .ok (.aload_n 0, 1) := by decide +kernel
theorem dX13_turnBack_26 : decode cX13_turnBack 26 = .ok (.getfield 161, 3) := by decide +kernel
theorem dX13_turnBack_29 : decode cX13_turnBack 29 = .ok (.if_icmp .ge 30, 3) := by decide +kernel
theorem dX13_turnBack_32 : decode cX13_turnBack 32 = .ok (.aload_n 0, 1) := by decide +kernel
theorem dX13_turnBack_33 : decode cX13_turnBack 33 = .ok (.getfield 97, 3) := by decide +kernel
theorem dX13_turnBack_36 : decode cX13_turnBack 36 = .ok (.aload_n 0, 1) := by decide +kernel
theorem dX13_turnBack_37 : decode cX13_turnBack 37 = .ok (.getfield 44, 3) := by decide +kernel
theorem dX13_turnBack_40 : decode cX13_turnBack 40 = .ok (.iload_n 2, 1) := by decide +kernel
theorem dX13_turnBack_41 : decode cX13_turnBack 41 = .ok (.baload, 1) := by decide +kernel
theorem dX13_turnBack_42 : decode cX13_turnBack 42 = .ok (.sipush 255, 3) := by decide +kernel
theorem dX13_turnBack_45 : decode cX13_turnBack 45 = .ok (.iand, 1) := by decide +kernel
theorem dX13_turnBack_46 : decode cX13_turnBack 46 = .ok (.iconst 1, 1) := by decide +kernel
theorem dX13_turnBack_47 : decode cX13_turnBack 47 = .ok (.iadd, 1) := by decide +kernel
theorem dX13_turnBack_48 : decode cX13_turnBack 48 = .ok (.dup2, 1) := by decide +kernel
theorem dX13_turnBack_49 : decode cX13_turnBack 49 = .ok (.iaload, 1) := by decide +kernel
theorem dX13_turnBack_50 : decode cX13_turnBack 50 = .ok (.iconst 1, 1) := by decide +kernel
theorem dX13_turnBack_51 : decode cX13_turnBack 51 = .ok (.iadd, 1) := by decide +kernel
theorem dX13_turnBack_52 : decode cX13_turnBack 52 = .ok (.iastore, 1) := by decide +kernel
theorem dX13_turnBack_53 : decode cX13_turnBack 53 = .ok (.iinc 2 1, 3) := by decide +kernel
theorem dX13_turnBack_56 : decode cX13_turnBack 56 = .ok (.goto (-32), 3) := by decide +kernel
theorem dX13_turnBack_59 : decode cX13_turnBack 59 = .ok (.iconst 1, 1) := by decide +kernel
theorem dX13_turnBack_60 : decode cX13_turnBack 60 = .ok (.istore_n 2, 1) := by decide +kernel
theorem dX13_turnBack_61 : decode cX13_turnBack 61 = .ok (.iload_n 2, 1) := by decide +kernel
theorem dX13_turnBack_62 : decode cX13_turnBack 62 = .ok (.sipush 257, 3) := by decide +kernel
theorem dX13_turnBack_65 : decode cX13_turnBack 65 = .ok (.if_icmp .ge 30, 3) := by decide +kernel
theorem dX13_turnBack_68 : decode cX13_turnBack 68 = .ok (.aload_n 0, 1) := by decide +kernel
theorem dX13_turnBack_69 : decode cX13_turnBack 69 = .ok (.getfield 97, 3) := by decide +kernel
theorem dX13_turnBack_72 : decode cX13_turnBack 72 = .ok (.iload_n 2, 1) := by decide +kernel
theorem dX13_turnBack_73 : decode cX13_turnBack 73 = .ok (.aload_n 0, 1) := by decide +kernel
theorem dX13_turnBack_74 : decode cX13_turnBack 74 = .ok (.getfield 97, 3) := by decide +kernel
theorem dX13_turnBack_77 : decode cX13_turnBack 77 = .ok (.iload_n 2, 1) := by decide +kernel
theorem dX13_turnBack_78 : decode cX13_turnBack 78 = .ok (.iaload, 1) := by decide +kernel
theorem dX13_turnBack_79 : decode cX13_turnBack 79 = .ok (.aload_n 0, 1) := by decide +kernel
theorem dX13_turnBack_80 : decode cX13_turnBack 80 = .ok (.getfield 97, 3) := by decide +kernel
theorem dX13_turnBack_83 : decode cX13_turnBack 83 = .ok (.iload_n 2, 1) := by decide +kernel
theorem dX13_turnBack_84 : decode cX13_turnBack 84 = .ok (.iconst 1, 1) := by decide +kernel
theorem dX13_turnBack_85 : decode cX13_turnBack 85 = .ok (.isub, 1) := by decide +kernel
theorem dX13_turnBack_86 : decode cX13_turnBack 86 = .ok (.iaload, 1) := by decide +kernel
theorem dX13_turnBack_87 : decode cX13_turnBack 87 = .ok (.iadd, 1) := by decide +kernel
theorem dX13_turnBack_88 : decode cX13_turnBack 88 = .ok (.iastore, 1) := by decide +kernel
theorem dX13_turnBack_89 : decode cX13_turnBack 89 = .ok (.iinc 2 1, 3) := by decide +kernel
theorem dX13_turnBack_92 : decode cX13_turnBack 92 = .ok (.goto (-31), 3) := by decide +kernel
theorem dX13_turnBack_95 : decode cX13_turnBack 95 = .ok (.iconst 0, 1) := by decide +kernel
theorem dX13_turnBack_96 : decode cX13_turnBack 96 = .ok (.istore_n 2, 1) := by decide +kernel
theorem dX13_turnBack_97 : decode cX13_turnBack 97 = .ok (.iload_n 2, 1) := by decide +kernel
theorem dX13_turnBack_98 : decode cX13_turnBack 98 = .ok (.aload_n 0, 1) := by decide +kernel
theorem dX13_turnBack_99 : decode cX13_turnBack 99 = .ok (.getfield 161, 3) := by decide +kernel
theorem dX13_turnBack_102 : decode cX13_turnBack 102 = .ok (.if_icmp .ge 42, 3) := by decide +kernel
theorem dX13_turnBack_105 : decode cX13_turnBack 105 = .ok (.aload_n 0, 1) := by decide +kernel
theorem dX13_turnBack_106 : decode cX13_turnBack 106 = .ok (.getfield 44, 3) := by decide +kernel
theorem dX13_turnBack_109 : decode cX13_turnBack 109 = .ok (.iload_n 2, 1) := by decide +kernel
theorem dX13_turnBack_110 : decode cX13_turnBack 110 = .ok (.baload, 1) := by decide +kernel
theorem dX13_turnBack_111 : decode cX13_turnBack 111 = .ok (.sipush 255, 3) := by decide +kernel
theorem dX13_turnBack_114 : decode cX13_turnBack 114 = .ok (.iand, 1) := by decide +kernel
theorem dX13_turnBack_115 : decode cX13_turnBack 115 = .ok (.istore_n 3, 1) := by decide +kernel
theorem dX13_turnBack_116 : decode cX13_turnBack 116 = .ok (.aload_n 0, 1) := by decide +kernel
theorem dX13_turnBack_117 : decode cX13_turnBack 117 = .ok (.getfield 47, 3) := by decide +kernel
theorem dX13_turnBack_120 : decode cX13_turnBack 120 = .ok (.aload_n 0, 1) := by decide +kernel
theorem dX13_turnBack_121 : decode cX13_turnBack 121 = .ok (.getfield 97, 3) := by decide +kernel
theorem dX13_turnBack_124 : decode cX13_turnBack 124 = .ok (.iload_n 3, 1) := by decide +kernel
theorem dX13_turnBack_125 : decode cX13_turnBack 125 = .ok (.iaload, 1) := by decide +kernel
theorem dX13_turnBack_126 : decode cX13_turnBack 126 = .ok (.iload_n 2, 1) := by decide +kernel
theorem dX13_turnBack_127 : decode cX13_turnBack 127 = .ok (.iastore, 1) := by decide +kernel
theorem dX13_turnBack_128 : decode cX13_turnBack 128 = .ok (.aload_n 0, 1) := by decide +kernel
theorem dX13_turnBack_129 : decode cX13_turnBack 129 = .ok (.getfield 97, 3) := by decide +kernel
theorem dX13_turnBack_132 : decode cX13_turnBack 132 = .ok (.iload_n 3, 1) := by decide +kernel
theorem dX13_turnBack_133 : decode cX13_turnBack 133 = .ok (.dup2, 1) := by decide +kernel
theorem dX13_turnBack_134 : decode cX13_turnBack 134 = .ok (.iaload, 1) := by decide +kernel
theorem dX13_turnBack_135 : decode cX13_turnBack 135 = .ok (.iconst 1, 1) := by decide +kernel
theorem dX13_turnBack_136 : decode cX13_turnBack 136 = .ok (.iadd, 1) := by decide +kernel
theorem dX13_turnBack_137 : decode cX13_turnBack 137 = .ok (.iastore, 1) := by decide +kernel
theorem dX13_turnBack_138 : decode cX13_turnBack 138 = .ok (.iinc 2 1, 3) := by decide +kernel
theorem dX13_turnBack_141 : decode cX13_turnBack 141 = .ok (.goto (-44), 3) := by decide +kernel
theorem dX13_turnBack_144 : decode cX13_turnBack 144 = .ok (.aload_n 0, 1) := by decide +kernel
theorem dX13_turnBack_145 : decode cX13_turnBack 145 = .ok (.getfield 47, 3) := by decide +kernel
theorem dX13_turnBack_148 : decode cX13_turnBack 148 = .ok (.iload_n 1, 1) := by decide +kernel
theorem dX13_turnBack_149 : decode cX13_turnBack 149 = .ok (.iaload, 1) := by decide +kernel
theorem dX13_turnBack_150 : decode cX13_turnBack 150 = .ok (.istore_n 2, 1) := by decide +kernel
theorem dX13_turnBack_151 : decode cX13_turnBack 151 = .ok (.iconst 0, 1) := by decide +kernel
theorem dX13_turnBack_152 : decode cX13_turnBack 152 = .ok (.istore_n 3, 1) := by decide +kernel
theorem dX13_turnBack_153 : decode cX13_turnBack 153 = .ok (.iload_n 3, 1) := by decide +kernel
theorem dX13_turnBack_154 : decode cX13_turnBack 154 = .ok (.aload_n 0, 1) := by decide +kernel
theorem dX13_turnBack_155 : decode cX13_turnBack 155 = .ok (.getfield 161, 3) := by decide +kernel
theorem dX13_turnBack_158 : decode cX13_turnBack 158 = .ok (.if_icmp .ge 28, 3) := by decide +kernel
theorem dX13_turnBack_161 : decode cX13_turnBack 161 = .ok (.aload_n 0, 1) := by decide +kernel
theorem dX13_turnBack_162 : decode cX13_turnBack 162 = .ok (.getfield 100, 3) := by decide +kernel
theorem dX13_turnBack_165 : decode cX13_turnBack 165 = .ok (.iload_n 3, 1) := by decide +kernel
theorem dX13_turnBack_166 : decode cX13_turnBack 166 = .ok (.aload_n 0, 1) := by decide +kernel
theorem dX13_turnBack_167 : decode cX13_turnBack 167 = .ok (.getfield 44, 3) := by decide +kernel
theorem dX13_turnBack_170 : decode cX13_turnBack 170 = .ok (.iload_n 2, 1) := by decide +kernel
theorem dX13_turnBack_171 : decode cX13_turnBack 171 = .ok (.baload, 1) := by decide +kernel
theorem dX13_turnBack_172 : decode cX13_turnBack 172 = .ok (.bastore, 1) := by decide +kernel
theorem dX13_turnBack_173 : decode cX13_turnBack 173 = .ok (.aload_n 0, 1) := by decide +kernel
theorem dX13_turnBack_174 : decode cX13_turnBack 174 = .ok (.getfield 47, 3) := by decide +kernel
theorem dX13_turnBack_177 : decode cX13_turnBack 177 = .ok (.iload_n 2, 1) := by decide +kernel
theorem dX13_turnBack_178 : decode cX13_turnBack 178 = .ok (.iaload, 1) := by decide +kernel
theorem dX13_turnBack_179 : decode cX13_turnBack 179 = .ok (.istore_n 2, 1) := by decide +kernel
theorem dX13_turnBack_180 : decode cX13_turnBack 180 = .ok (.iinc 3 1, 3) := by decide +kernel
theorem dX13_turnBack_183 : decode cX13_turnBack 183 = .ok (.goto (-30), 3) := by decide +kernel
theorem dX13_turnBack_186 : decode cX13_turnBack 186 = .ok (.return_, 1) := by decide +kernel
theorem dX13_runSize_0 : decode cX13_runSize 0 = .ok (.iconst 0, 1) := by decide +kernel
theorem dX13_runSize_1 : decode cX13_runSize 1 = .ok (.istore_n 2, 1) := by decide +kernel
theorem dX13_runSize_2 : decode cX13_runSize 2 = .ok (.iconst 0, 1) := by decide +kernel
theorem dX13_runSize_3 : decode cX13_runSize 3 = .ok (.istore_n 3, 1) := by decide +kernel
theorem dX13_runSize_4 : decode cX13_runSize 4 = .ok (.iconst (-1), 1) := by decide +kernel
theorem dX13_runSize_5 : decode cX13_runSize 5 = .ok (.istore 4, 2) := by decide +kernel
theorem dX13_runSize_7 : decode cX13_runSize 7 = .ok (.iconst 0, 1) := by decide +kernel
theorem dX13_runSize_8 : decode cX13_runSize 8 = .ok (.istore 5, 2) := by decide +kernel
theorem dX13_runSize_10 : decode cX13_runSize 10 = .ok (.iload 5, 2) := by decide +kernel
theorem dX13_runSize_12 : decode cX13_runSize 12 = .ok (.aload_n 0, 1) := by decide +kernel
theorem dX13_runSize_13 : decode cX13_runSize 13 = .ok (.getfield 161, 3) := by decide +kernel
theorem dX13_runSize_16 : decode cX13_runSize 16 = .ok (.if_icmp .ge 107, 3) := by decide +kernel
theorem dX13_runSize_19 : decode cX13_runSize 19 = .ok (.aload_n 0, 1) := by decide +kernel
theorem dX13_runSize_20 : decode cX13_runSize 20 = .ok (.getfield 100, 3) := by decide +kernel
theorem dX13_runSize_23 : decode cX13_runSize 23 = .ok (.iload 5, 2) := by decide +kernel
theorem dX13_runSize_25 : decode cX13_runSize 25 = .ok (.baload, 1) := by decide +kernel
theorem dX13_runSize_26 : decode cX13_runSize 26 = .ok (.sipush 255, 3) := by decide +kernel
theorem dX13_runSize_29 : decode cX13_runSize 29 = .ok (.iand, 1) := by decide +kernel
theorem dX13_runSize_30 : decode cX13_runSize 30 = .ok (.istore 6, 2) := by decide +kernel
theorem dX13_runSize_32 : decode cX13_runSize 32 = .ok (.iload_n 3, 1) := by decide +kernel
theorem dX13_runSize_33 : decode cX13_runSize 33 = .ok (.iconst 4, 1) := by decide +kernel
theorem dX13_runSize_34 : decode cX13_runSize 34 = .ok (.if_icmp .ne 48, 3) := by decide +kernel
theorem dX13_runSize_37 : decode cX13_runSize 37 = .ok (.iconst 0, 1) := by decide +kernel
theorem dX13_runSize_38 : decode cX13_runSize 38 = .ok (.istore 7, 2) := by decide +kernel
theorem dX13_runSize_40 : decode cX13_runSize 40 = .ok (.iload 7, 2) := by decide +kernel
theorem dX13_runSize_42 : decode cX13_runSize 42 = .ok (.iload 6, 2) := by decide +kernel
theorem dX13_runSize_44 : decode cX13_runSize 44 = .ok (.if_icmp .ge 25, 3) := by decide +kernel
theorem dX13_runSize_47 : decode cX13_runSize 47 = .ok (.iload_n 1, 1) := by decide +kernel
theorem dX13_runSize_48 : decode cX13_runSize 48 = .ok (.ifCond .eq 21, 3) := by decide +kernel
theorem dX13_runSize_51 : decode cX13_runSize 51 = .ok (.aload_n 0, 1) := by decide +kernel
theorem dX13_runSize_52 : decode cX13_runSize 52 = .ok (.getfield 103, 3) := by decide +kernel
theorem dX13_runSize_55 : decode cX13_runSize 55 = .ok (.iload_n 2, 1) := by decide +kernel
theorem dX13_runSize_56 : decode cX13_runSize 56 = .ok (.iload 7, 2) := by decide +kernel
theorem dX13_runSize_58 : decode cX13_runSize 58 = .ok (.iadd, 1) := by decide +kernel
theorem dX13_runSize_59 : decode cX13_runSize 59 = .ok (.iload 4, 2) := by decide +kernel
theorem dX13_runSize_61 : decode cX13_runSize 61 = .ok (.i2b, 1) := by decide +kernel
theorem dX13_runSize_62 : decode cX13_runSize 62 = .ok (.bastore, 1) := by decide +kernel
theorem dX13_runSize_63 : decode cX13_runSize 63 = .ok (.iinc 7 1, 3) := by decide +kernel
theorem dX13_runSize_66 : decode cX13_runSize 66 = .ok (.goto (-26), 3) := by decide +kernel
theorem dX13_runSize_69 : decode cX13_runSize 69 = .ok (.iload_n 2, 1) := by decide +kernel
theorem dX13_runSize_70 : decode cX13_runSize 70 = .ok (.iload 6, 2) := by decide +kernel
theorem dX13_runSize_72 : decode cX13_runSize 72 = .ok (.iadd, 1) := by decide +kernel
theorem dX13_runSize_73 : decode cX13_runSize 73 = .ok (.istore_n 2, 1) := by decide +kernel
theorem dX13_runSize_74 : decode cX13_runSize 74 = .ok (.iconst 0, 1) := by decide +kernel
theorem dX13_runSize_75 : decode cX13_runSize 75 = .ok (.istore_n 3, 1) := by decide +kernel
theorem dX13_runSize_76 : decode cX13_runSize 76 = .ok (.iconst (-1), 1) := by decide +kernel
theorem dX13_runSize_77 : decode cX13_runSize 77 = .ok (.istore 4, 2) := by decide +kernel
theorem dX13_runSize_79 : decode cX13_runSize 79 = .ok (.goto 38, 3) := by decide +kernel
theorem dX13_runSize_82 : decode cX13_runSize 82 = .ok (.iload 6, 2) := by decide +kernel
theorem dX13_runSize_84 : decode cX13_runSize 84 = .ok (.iload 4, 2) := by decide +kernel
theorem dX13_runSize_86 : decode cX13_runSize 86 = .ok (.if_icmp .ne 9, 3) := by decide +kernel
theorem dX13_runSize_89 : decode cX13_runSize 89 = .ok (.iload_n 3, 1) := by decide +kernel
theorem dX13_runSize_90 : decode cX13_runSize 90 = .ok (.iconst 1, 1) := by decide +kernel
theorem dX13_runSize_91 : decode cX13_runSize 91 = .ok (.iadd, 1) := by decide +kernel
theorem dX13_runSize_92 : decode cX13_runSize 92 = .ok (.goto 4, 3) := by decide +kernel
theorem dX13_runSize_95 : decode cX13_runSize 95 = .ok (.iconst 1, 1) := by decide +kernel
theorem dX13_runSize_96 : decode cX13_runSize 96 = .ok (.istore_n 3, 1) := by decide +kernel
theorem dX13_runSize_97 : decode cX13_runSize 97 = .ok (.iload 6, 2) := by decide +kernel
theorem dX13_runSize_99 : decode cX13_runSize 99 = .ok (.istore 4, 2) := by decide +kernel
theorem dX13_runSize_101 : decode cX13_runSize 101 = .ok (.iload_n 1, 1) := by decide +kernel
theorem dX13_runSize_102 : decode cX13_runSize 102 = .ok (.ifCond .eq 12, 3) := by decide +kernel
theorem dX13_runSize_105 : decode cX13_runSize 105 = .ok (.aload_n 0, 1) := by decide +kernel
theorem dX13_runSize_106 : decode cX13_runSize 106 = .ok (.getfield 103, 3) := by decide +kernel
theorem dX13_runSize_109 : decode cX13_runSize 109 = .ok (.iload_n 2, 1) := by decide +kernel
theorem dX13_runSize_110 : decode cX13_runSize 110 = .ok (.iload 6, 2) := by decide +kernel
theorem dX13_runSize_112 : decode cX13_runSize 112 = .ok (.i2b, 1) := by decide +kernel
theorem dX13_runSize_113 : decode cX13_runSize 113 = .ok (.bastore, 1) := by decide +kernel
theorem dX13_runSize_114 : decode cX13_runSize 114 = .ok (.iinc 2 1, 3) := by decide +kernel
theorem dX13_runSize_117 : decode cX13_runSize 117 = .ok (.iinc 5 1, 3) := by decide +kernel
theorem dX13_runSize_120 : decode cX13_runSize 120 = .ok (.goto (-110), 3) := by decide +kernel
theorem dX13_runSize_123 : decode cX13_runSize 123 = .ok (.iload_n 3, 1) := by decide +kernel
theorem dX13_runSize_124 : decode cX13_runSize 124 = .ok (.iconst 4, 1) := by decide +kernel
theorem dX13_runSize_125 : decode cX13_runSize 125 = .ok (.if_icmp .ne 7, 3) := by decide +kernel
theorem dX13_runSize_128 : decode cX13_runSize 128 = .ok (.iconst (-1), 1) := by decide +kernel
theorem dX13_runSize_129 : decode cX13_runSize 129 = .ok (.goto 4, 3) := by decide +kernel
theorem dX13_runSize_132 : decode cX13_runSize 132 = .ok (.iload_n 2, 1) := by decide +kernel
theorem dX13_runSize_133 : decode cX13_runSize 133 = .ok (.ireturn, 1) := by decide +kernel
theorem dX13_readBlock_0 : decode cX13_readBlock 0 = .ok (.aload_n 0, 1) := by decide +kernel
theorem dX13_readBlock_1 : decode cX13_readBlock 1 = .ok (.bipush 32, 2) := by decide +kernel
theorem dX13_readBlock_3 : decode cX13_readBlock 3 = .ok (.invokevirtual 274, 3) := by decide +kernel
theorem dX13_readBlock_6 : decode cX13_readBlock 6 = .ok (.l2i, 1) := by decide +kernel
theorem dX13_readBlock_7 : decode cX13_readBlock 7 = .ok (.istore 6, 2) := by decide +kernel
theorem dX13_readBlock_9 : decode cX13_readBlock 9 = .ok (.aload_n 0, 1) := by decide +kernel
theorem dX13_readBlock_10 : decode cX13_readBlock 10 = .ok (.invokevirtual 271, 3) := by decide +kernel
theorem dX13_readBlock_13 : decode cX13_readBlock 13 = .ok (.ifCond .eq 8, 3) := by decide +kernel
theorem dX13_readBlock_16 : decode cX13_readBlock 16 = .ok (.aload_n 0, 1) := by decide +kernel
theorem dX13_readBlock_17 : decode cX13_readBlock 17 = .ok (.iconst 4, 1) := by decide +kernel
theorem dX13_readBlock_18 : decode cX13_readBlock 18 = .ok (.invokevirtual 268, 3) := by decide +kernel
theorem dX13_readBlock_21 : decode cX13_readBlock 21 = .ok (.aload_n 0, 1) := by decide +kernel
theorem dX13_readBlock_22 : decode cX13_readBlock 22 = .ok (.bipush 24, 2) := by decide +kernel
theorem dX13_readBlock_24 : decode cX13_readBlock 24 = .ok (.invokevirtual 274, 3) := by decide +kernel
theorem dX13_readBlock_27 : decode cX13_readBlock 27 = .ok (.l2i, 1) := by decide +kernel
theorem dX13_readBlock_28 : decode cX13_readBlock 28 = .ok (.istore 7, 2) := by decide +kernel
theorem dX13_readBlock_30 : decode cX13_readBlock 30 = .ok (.aload_n 0, 1) := by decide +kernel
theorem dX13_readBlock_31 : decode cX13_readBlock 31 = .ok (.invokevirtual 289, 3) := by decide +kernel
theorem dX13_readBlock_34 : decode cX13_readBlock 34 = .ok (.aload_n 0, 1) := by decide +kernel
theorem dX13_readBlock_35 : decode cX13_readBlock 35 = .ok (.getfield 171, 3) := by decide +kernel
theorem dX13_readBlock_38 : decode cX13_readBlock 38 = .ok (.iconst 2, 1) := by decide +kernel
theorem dX13_readBlock_39 : decode cX13_readBlock 39 = .ok (.iadd, 1) := by decide +kernel
theorem dX13_readBlock_40 : decode cX13_readBlock 40 = .ok (.istore 8, 2) := by decide +kernel
theorem dX13_readBlock_42 : decode cX13_readBlock 42 = .ok (.aload_n 0, 1) := by decide +kernel
theorem dX13_readBlock_43 : decode cX13_readBlock 43 = .ok (.invokevirtual 292, 3) := by decide +kernel
theorem dX13_readBlock_46 : decode cX13_readBlock 46 = .ok (.iconst 0, 1) := by decide +kernel
theorem dX13_readBlock_47 : decode cX13_readBlock 47 = .ok (.istore 9, 2) := by decide +kernel
theorem dX13_readBlock_49 : decode cX13_readBlock 49 = .ok (.iload 9, 2) := by decide +kernel
theorem dX13_readBlock_51 : decode cX13_readBlock 51 = .ok (.aload_n 0, 1) := by decide +kernel
theorem dX13_readBlock_52 : decode cX13_readBlock 52 = .ok (.getfield 189, 3) := by decide +kernel
theorem dX13_readBlock_55 : decode cX13_readBlock 55 = .ok (.if_icmp .ge 25, 3) := by decide +kernel
theorem dX13_readBlock_58 : decode cX13_readBlock 58 = .ok (.aload_n 0, 1) := by decide +kernel
theorem dX13_readBlock_59 : decode cX13_readBlock 59 = .ok (.iload 9, 2) := by decide +kernel
theorem dX13_readBlock_61 : decode cX13_readBlock 61 = .ok (.iload 8, 2) := by decide +kernel
theorem dX13_readBlock_63 : decode cX13_readBlock 63 = .ok (.invokevirtual 295, 3) := by decide +kernel
theorem dX13_readBlock_66 : decode cX13_readBlock 66 = .ok (.aload_n 0, 1) := by decide +kernel
theorem dX13_readBlock_67 : decode cX13_readBlock 67 = .ok (.iload 9, 2) := by decide +kernel
theorem dX13_readBlock_69 : decode cX13_readBlock 69 = .ok (.iload 8, 2) := by decide +kernel
theorem dX13_readBlock_71 : decode cX13_readBlock 71 = .ok (.invokevirtual 234, 3) := by decide +kernel
theorem dX13_readBlock_74 : decode cX13_readBlock 74 = .ok (.iinc 9 1, 3) := by decide +kernel
theorem dX13_readBlock_77 : decode cX13_readBlock 77 = .ok (.goto (-28), 3) := by decide +kernel
theorem dX13_readBlock_80 : decode cX13_readBlock 80 = .ok (.aload_n 0, 1) := by decide +kernel
theorem dX13_readBlock_81 : decode cX13_readBlock 81 = .ok (.iload 8, 2) := by decide +kernel
theorem dX13_readBlock_83 : decode cX13_readBlock 83 = .ok (.iload_n 3, 1) := by decide +kernel
theorem dX13_readBlock_84 : decode cX13_readBlock 84 = .ok (.invokevirtual 298, 3) := by decide +kernel
theorem dX13_readBlock_87 : decode cX13_readBlock 87 = .ok (.iload 7, 2) := by decide +kernel
theorem dX13_readBlock_89 : decode cX13_readBlock 89 = .ok (.aload_n 0, 1) := by decide +kernel
theorem dX13_readBlock_90 : decode cX13_readBlock 90 = .ok (.getfield 161, 3) := by decide +kernel
theorem dX13_readBlock_93 : decode cX13_readBlock 93 = .ok (.if_icmp .lt 9, 3) := by decide +kernel
theorem dX13_readBlock_96 : decode cX13_readBlock 96 = .ok (.aload_n 0, 1) := by decide +kernel
theorem dX13_readBlock_97 : decode cX13_readBlock 97 = .ok (.bipush 9, 2) := by decide +kernel
theorem dX13_readBlock_99 : decode cX13_readBlock 99 = .ok (.invokevirtual 268, 3) := by decide +kernel
theorem dX13_readBlock_102 : decode cX13_readBlock 102 = .ok (.aload_n 0, 1) := by decide +kernel
theorem dX13_readBlock_103 : decode cX13_readBlock 103 = .ok (.iload 7, 2) := by decide +kernel
theorem dX13_readBlock_105 : decode cX13_readBlock 105 = .ok (.invokevirtual 301, 3) := by decide +kernel
theorem dX13_readBlock_108 : decode cX13_readBlock 108 = .ok (.aload_n 0, 1) := by decide +kernel
theorem dX13_readBlock_109 : decode cX13_readBlock 109 = .ok (.iconst 0, 1) := by decide +kernel
theorem dX13_readBlock_110 : decode cX13_readBlock 110 = .ok (.invokevirtual 304, 3) := by decide +kernel
theorem dX13_readBlock_113 : decode cX13_readBlock 113 = .ok (.istore 9, 2) := by decide +kernel
theorem dX13_readBlock_115 : decode cX13_readBlock 115 = .ok (.iload 9, 2) := by decide +kernel
theorem dX13_readBlock_117 : decode cX13_readBlock 117 = .ok (.ifCond .ge 9, 3) := by decide +kernel
theorem dX13_readBlock_120 : decode cX13_readBlock 120 = .ok (.aload_n 0, 1) := by decide +kernel
theorem dX13_readBlock_121 : decode cX13_readBlock 121 = .ok (.bipush 10, 2) := by decide +kernel
theorem dX13_readBlock_123 : decode cX13_readBlock 123 = .ok (.invokevirtual 268, 3) := by decide +kernel
theorem dX13_readBlock_126 : decode cX13_readBlock 126 = .ok (.iload 4, 2) := by decide +kernel
theorem dX13_readBlock_128 : decode cX13_readBlock 128 = .ok (.iload 9, 2) := by decide +kernel
theorem dX13_readBlock_130 : decode cX13_readBlock 130 = .ok (.iadd, 1) := by decide +kernel
theorem dX13_readBlock_131 : decode cX13_readBlock 131 = .ok (.sipush 3000, 3) := by decide +kernel
theorem dX13_readBlock_134 : decode cX13_readBlock 134 = .ok (.if_icmp .le 9, 3) := by decide +kernel
theorem dX13_readBlock_137 : decode cX13_readBlock 137 = .ok (.aload_n 0, 1) := by decide +kernel
theorem dX13_readBlock_138 : decode cX13_readBlock 138 = .ok (.bipush 11, 2) := by decide +kernel
theorem dX13_readBlock_140 : decode cX13_readBlock 140 = .ok (.invokevirtual 268, 3) := by decide +kernel
theorem dX13_readBlock_143 : decode cX13_readBlock 143 = .ok (.aload_n 0, 1) := by decide +kernel
theorem dX13_readBlock_144 : decode cX13_readBlock 144 = .ok (.aload_n 0, 1) := by decide +kernel
theorem dX13_readBlock_145 : decode cX13_readBlock 145 = .ok (.iconst 1, 1) := by decide +kernel
theorem dX13_readBlock_146 : decode cX13_readBlock 146 = .ok (.invokevirtual 304, 3) := by decide +kernel
theorem dX13_readBlock_149 : decode cX13_readBlock 149 = .ok (.putfield 308, 3) := by decide +kernel
theorem dX13_readBlock_152 : decode cX13_readBlock 152 = .ok (.aload_n 0, 1) := by decide +kernel
theorem dX13_readBlock_153 : decode cX13_readBlock 153 = .ok (.getfield 103, 3) := by decide +kernel
theorem dX13_readBlock_156 : decode cX13_readBlock 156 = .ok (.iconst 0, 1) := by decide +kernel
theorem dX13_readBlock_157 : decode cX13_readBlock 157 = .ok (.aload_n 0, 1) := by decide +kernel
theorem dX13_readBlock_158 : decode cX13_readBlock 158 = .ok (.getfield 308, 3) := by decide +kernel
theorem dX13_readBlock_161 : decode cX13_readBlock 161 = .ok (.invokestatic 208, 3) := by decide +kernel
theorem dX13_readBlock_164 : decode cX13_readBlock 164 = .ok (.iload 6, 2) := by decide +kernel
theorem dX13_readBlock_166 : decode cX13_readBlock 166 = .ok (.if_icmp .eq 9, 3) := by decide +kernel
theorem dX13_readBlock_169 : decode cX13_readBlock 169 = .ok (.aload_n 0, 1) := by decide +kernel
theorem dX13_readBlock_170 : decode cX13_readBlock 170 = .ok (.bipush 12, 2) := by decide +kernel
theorem dX13_readBlock_172 : decode cX13_readBlock 172 = .ok (.invokevirtual 268, 3) := by decide +kernel
theorem dX13_readBlock_175 : decode cX13_readBlock 175 = .ok (.iload 5, 2) := by decide +kernel
theorem dX13_readBlock_177 : decode cX13_readBlock 177 = .ok (.ifCond .eq 37, 3) := by decide +kernel
theorem dX13_readBlock_180 : decode cX13_readBlock 180 = .ok (.aload_n 0, 1) := by decide +kernel
theorem dX13_readBlock_181 : decode cX13_readBlock 181 = .ok (.iload_n 1, 1) := by decide +kernel
theorem dX13_readBlock_182 : decode cX13_readBlock 182 = .ok (.aload_n 0, 1) := by decide +kernel
theorem dX13_readBlock_183 : decode cX13_readBlock 183 = .ok (.getfield 308, 3) := by decide +kernel
theorem dX13_readBlock_186 : decode cX13_readBlock 186 = .ok (.aload_n 0, 1) := by decide +kernel
theorem dX13_readBlock_187 : decode cX13_readBlock 187 = .ok (.getfield 161, 3) := by decide +kernel
theorem dX13_readBlock_190 : decode cX13_readBlock 190 = .ok (.iload 7, 2) := by decide +kernel
theorem dX13_readBlock_192 : decode cX13_readBlock 192 = .ok (.aload_n 0, 1) := by decide +kernel
theorem dX13_readBlock_193 : decode cX13_readBlock 193 = .ok (.getfield 171, 3) := by decide +kernel
theorem dX13_readBlock_196 : decode cX13_readBlock 196 = .ok (.aload_n 0, 1) := by decide +kernel
theorem dX13_readBlock_197 : decode cX13_readBlock 197 = .ok (.getfield 189, 3) := by decide +kernel
theorem dX13_readBlock_200 : decode cX13_readBlock 200 = .ok (.aload_n 0, 1) := by decide +kernel
theorem dX13_readBlock_201 : decode cX13_readBlock 201 = .ok (.getfield 195, 3) := by decide +kernel
theorem dX13_readBlock_204 : decode cX13_readBlock 204 = .ok (.iload_n 2, 1) := by decide +kernel
theorem dX13_readBlock_205 : decode cX13_readBlock 205 = .ok (.aload_n 0, 1) := by decide +kernel
theorem dX13_readBlock_206 : decode cX13_readBlock 206 = .ok (.getfield 174, 3) := by decide +kernel
theorem dX13_readBlock_209 : decode cX13_readBlock 209 = .ok (.iload 6, 2) := by decide +kernel
theorem dX13_readBlock_211 : decode cX13_readBlock 211 = .ok (.invokevirtual 240, 3) := by decide +kernel
theorem dX13_readBlock_214 : decode cX13_readBlock 214 = .ok (.aload_n 0, 1) := by decide +kernel
theorem dX13_readBlock_215 : decode cX13_readBlock 215 = .ok (.aload_n 0, 1) := by decide +kernel
theorem dX13_readBlock_216 : decode cX13_readBlock 216 = .ok (.getfield 189, 3) := by decide +kernel
theorem dX13_readBlock_219 : decode cX13_readBlock 219 = .ok (.iload 8, 2) := by decide +kernel
theorem dX13_readBlock_221 : decode cX13_readBlock 221 = .ok (.aload_n 0, 1) := by decide +kernel
theorem dX13_readBlock_222 : decode cX13_readBlock 222 = .ok (.getfield 195, 3) := by decide +kernel
theorem dX13_readBlock_225 : decode cX13_readBlock 225 = .ok (.invokevirtual 244, 3) := by decide +kernel
theorem dX13_readBlock_228 : decode cX13_readBlock 228 = .ok (.iload 6, 2) := by decide +kernel
theorem dX13_readBlock_230 : decode cX13_readBlock 230 = .ok (.ireturn, 1) := by decide +kernel
theorem dX13_readRow_0 : decode cX13_readRow 0 = .ok (.aload_n 0, 1) := by decide +kernel
theorem dX13_readRow_1 : decode cX13_readRow 1 = .ok (.bipush 8, 2) := by decide +kernel
theorem dX13_readRow_3 : decode cX13_readRow 3 = .ok (.invokevirtual 274, 3) := by decide +kernel
theorem dX13_readRow_6 : decode cX13_readRow 6 = .ok (.ldc2_w 248, 3) := by decide +kernel
theorem dX13_readRow_9 : decode cX13_readRow 9 = .ok (.lcmp, 1) := by decide +kernel
theorem dX13_readRow_10 : decode cX13_readRow 10 = .ok (.ifCond .eq 8, 3) := by decide +kernel
theorem dX13_readRow_13 : decode cX13_readRow 13 = .ok (.aload_n 0, 1) := by decide +kernel
theorem dX13_readRow_14 : decode cX13_readRow 14 = .ok (.iconst 2, 1) := by decide +kernel
theorem dX13_readRow_15 : decode cX13_readRow 15 = .ok (.invokevirtual 268, 3) := by decide +kernel
theorem dX13_readRow_18 : decode cX13_readRow 18 = .ok (.aload_n 0, 1) := by decide +kernel
theorem dX13_readRow_19 : decode cX13_readRow 19 = .ok (.bipush 8, 2) := by decide +kernel
theorem dX13_readRow_21 : decode cX13_readRow 21 = .ok (.invokevirtual 274, 3) := by decide +kernel
theorem dX13_readRow_24 : decode cX13_readRow 24 = .ok (.ldc2_w 250, 3) := by decide +kernel
theorem dX13_readRow_27 : decode cX13_readRow 27 = .ok (.lcmp, 1) := by decide +kernel
theorem dX13_readRow_28 : decode cX13_readRow 28 = .ok (.ifCond .eq 8, 3) := by decide +kernel
theorem dX13_readRow_31 : decode cX13_readRow 31 = .ok (.aload_n 0, 1) := by decide +kernel
theorem dX13_readRow_32 : decode cX13_readRow 32 = .ok (.iconst 2, 1) := by decide +kernel
theorem dX13_readRow_33 : decode cX13_readRow 33 = .ok (.invokevirtual 268, 3) := by decide +kernel
theorem dX13_readRow_36 : decode cX13_readRow 36 = .ok (.aload_n 0, 1) := by decide +kernel
theorem dX13_readRow_37 : decode cX13_readRow 37 = .ok (.bipush 8, 2) := by decide +kernel
theorem dX13_readRow_39 : decode cX13_readRow 39 = .ok (.invokevirtual 274, 3) := by decide +kernel
theorem dX13_readRow_42 : decode cX13_readRow 42 = .ok (.ldc2_w 252, 3) := by decide +kernel
theorem dX13_readRow_45 : decode cX13_readRow 45 = .ok (.lcmp, 1) := by decide +kernel
theorem dX13_readRow_46 : decode cX13_readRow 46 = .ok (.ifCond .eq 8, 3) := by decide +kernel
theorem dX13_readRow_49 : decode cX13_readRow 49 = .ok (.aload_n 0, 1) := by decide +kernel
theorem dX13_readRow_50 : decode cX13_readRow 50 = .ok (.iconst 2, 1) := by decide +kernel
theorem dX13_readRow_51 : decode cX13_readRow 51 = .ok (.invokevirtual 268, 3) := by decide +kernel
theorem dX13_readRow_54 : decode cX13_readRow 54 = .ok (.aload_n 0, 1) := by decide +kernel
theorem dX13_readRow_55 : decode cX13_readRow 55 = .ok (.bipush 8, 2) := by decide +kernel
theorem dX13_readRow_57 : decode cX13_readRow 57 = .ok (.invokevirtual 274, 3) := by decide +kernel
theorem dX13_readRow_60 : decode cX13_readRow 60 = .ok (.l2i, 1) := by decide +kernel
theorem dX13_readRow_61 : decode cX13_readRow 61 = .ok (.bipush 48, 2) := by decide +kernel
theorem dX13_readRow_63 : decode cX13_readRow 63 = .ok (.isub, 1) := by decide +kernel
theorem dX13_readRow_64 : decode cX13_readRow 64 = .ok (.istore_n 2, 1) := by decide +kernel
theorem dX13_readRow_65 : decode cX13_readRow 65 = .ok (.iload_n 2, 1) := by decide +kernel
theorem dX13_readRow_66 : decode cX13_readRow 66 = .ok (.i2l, 1) := by decide +kernel
theorem dX13_readRow_67 : decode cX13_readRow 67 = .ok (.lconst 1, 1) := by decide +kernel
theorem dX13_readRow_68 : decode cX13_readRow 68 = .ok (.ldc2_w 311, 3) := by decide +kernel
theorem dX13_readRow_71 : decode cX13_readRow 71 = .ok (.invokestatic 114, 3) := by decide +kernel
theorem dX13_readRow_74 : decode cX13_readRow 74 = .ok (.ifCond .ne 8, 3) := by decide +kernel
theorem dX13_readRow_77 : decode cX13_readRow 77 = .ok (.aload_n 0, 1) := by decide +kernel
theorem dX13_readRow_78 : decode cX13_readRow 78 = .ok (.iconst 2, 1) := by decide +kernel
theorem dX13_readRow_79 : decode cX13_readRow 79 = .ok (.invokevirtual 268, 3) := by decide +kernel
theorem dX13_readRow_82 : decode cX13_readRow 82 = .ok (.iconst 0, 1) := by decide +kernel
theorem dX13_readRow_83 : decode cX13_readRow 83 = .ok (.istore_n 3, 1) := by decide +kernel
theorem dX13_readRow_84 : decode cX13_readRow 84 = .ok (.iconst 1, 1) := by decide +kernel
theorem dX13_readRow_85 : decode cX13_readRow 85 = .ok (.istore 4, 2) := by decide +kernel
theorem dX13_readRow_87 : decode cX13_readRow 87 = .ok (.iload 4, 2) := by decide +kernel
theorem dX13_readRow_89 : decode cX13_readRow 89 = .ok (.ifCond .eq 124, 3) := by decide +kernel
theorem dX13_readRow_92 : decode cX13_readRow 92 = .ok (.aload_n 0, 1) := by decide +kernel
theorem dX13_readRow_93 : decode cX13_readRow 93 = .ok (.getfield 265, 3) := by decide +kernel
theorem dX13_readRow_96 : decode cX13_readRow 96 = .ok (.istore 5, 2) := by decide +kernel
theorem dX13_readRow_98 : decode cX13_readRow 98 = .ok (.aload_n 0, 1) := by decide +kernel
theorem dX13_readRow_99 : decode cX13_readRow 99 = .ok (.bipush 48, 2) := by decide +kernel
theorem dX13_readRow_101 : decode cX13_readRow 101 = .ok (.invokevirtual 274, 3) := by decide +kernel
theorem dX13_readRow_104 : decode cX13_readRow 104 = .ok (.lstore 6, 2) := by decide +kernel
theorem dX13_readRow_106 : decode cX13_readRow 106 = .ok (.lload 6, 2) := by decide +kernel
theorem dX13_readRow_108 : decode cX13_readRow 108 = .ok (.ldc2_w 224, 3) := by decide +kernel
theorem dX13_readRow_111 : decode cX13_readRow 111 = .ok (.lcmp, 1) := by decide +kernel
theorem dX13_readRow_112 : decode cX13_readRow 112 = .ok (.ifCond .ne 78, 3) := by decide +kernel
theorem dX13_readRow_115 : decode cX13_readRow 115 = .ok (.iload_n 3, 1) := by decide +kernel
theorem dX13_readRow_116 : decode cX13_readRow 116 = .ok (.aload_n 0, 1) := by decide +kernel
theorem dX13_readRow_117 : decode cX13_readRow 117 = .ok (.iload 5, 2) := by decide +kernel
theorem dX13_readRow_119 : decode cX13_readRow 119 = .ok (.iload_n 1, 1) := by decide +kernel
theorem dX13_readRow_120 : decode cX13_readRow 120 = .ok (.sipush 200, 3) := by decide +kernel
theorem dX13_readRow_123 : decode cX13_readRow 123 = .ok (.iload_n 2, 1) := by decide +kernel
theorem dX13_readRow_124 : decode cX13_readRow 124 = .ok (.imul, 1) := by decide +kernel
theorem dX13_readRow_125 : decode cX13_readRow 125 = .ok (.aload_n 0, 1) := by decide +kernel
theorem dX13_readRow_126 : decode cX13_readRow 126 = .ok (.getfield 123, 3) := by decide +kernel
theorem dX13_readRow_129 : decode cX13_readRow 129 = .ok (.iconst 1, 1) := by decide +kernel
theorem dX13_readRow_130 : decode cX13_readRow 130 = .ok (.invokevirtual 313, 3) := by decide +kernel
theorem dX13_readRow_133 : decode cX13_readRow 133 = .ok (.invokestatic 257, 3) := by decide +kernel
theorem dX13_readRow_136 : decode cX13_readRow 136 = .ok (.istore_n 3, 1) := by decide +kernel
theorem dX13_readRow_137 : decode cX13_readRow 137 = .ok (.iconst 0, 1) := by decide +kernel
theorem dX13_readRow_138 : decode cX13_readRow 138 = .ok (.istore 8, 2) := by decide +kernel
theorem dX13_readRow_140 : decode cX13_readRow 140 = .ok (.iload 8, 2) := by decide +kernel
theorem dX13_readRow_142 : decode cX13_readRow 142 = .ok (.aload_n 0, 1) := by decide +kernel
theorem dX13_readRow_143 : decode cX13_readRow 143 = .ok (.getfield 308, 3) := by decide +kernel
theorem dX13_readRow_146 : decode cX13_readRow 146 = .ok (.if_icmp .ge 28, 3) := by decide +kernel
theorem dX13_readRow_149 : decode cX13_readRow 149 = .ok (.aload_n 0, 1) := by decide +kernel
theorem dX13_readRow_150 : decode cX13_readRow 150 = .ok (.getfield 24, 3) := by decide +kernel
theorem dX13_readRow_153 : decode cX13_readRow 153 = .ok (.aload_n 0, 1) := by decide +kernel
theorem dX13_readRow_154 : decode cX13_readRow 154 = .ok (.getfield 123, 3) := by decide +kernel
theorem dX13_readRow_157 : decode cX13_readRow 157 = .ok (.iload 8, 2) := by decide +kernel
theorem dX13_readRow_159 : decode cX13_readRow 159 = .ok (.iadd, 1) := by decide +kernel
theorem dX13_readRow_160 : decode cX13_readRow 160 = .ok (.aload_n 0, 1) := by decide +kernel
theorem dX13_readRow_161 : decode cX13_readRow 161 = .ok (.getfield 103, 3) := by decide +kernel
theorem dX13_readRow_164 : decode cX13_readRow 164 = .ok (.iload 8, 2) := by decide +kernel
theorem dX13_readRow_166 : decode cX13_readRow 166 = .ok (.baload, 1) := by decide +kernel
theorem dX13_readRow_167 : decode cX13_readRow 167 = .ok (.bastore, 1) := by decide +kernel
theorem dX13_readRow_168 : decode cX13_readRow 168 = .ok (.iinc 8 1, 3) := by decide +kernel
theorem dX13_readRow_171 : decode cX13_readRow 171 = .ok (.goto (-31), 3) := by decide +kernel
theorem dX13_readRow_174 : decode cX13_readRow 174 = .ok (.aload_n 0, 1) := by decide +kernel
theorem dX13_readRow_175 : decode cX13_readRow 175 = .ok (.aload_n 0, 1) := by decide +kernel
theorem dX13_readRow_176 : decode cX13_readRow 176 = .ok (.getfield 123, 3) := by decide +kernel
theorem dX13_readRow_179 : decode cX13_readRow 179 = .ok (.aload_n 0, 1) := by decide +kernel
theorem dX13_readRow_180 : decode cX13_readRow 180 = .ok (.getfield 308, 3) := by decide +kernel
theorem dX13_readRow_183 : decode cX13_readRow 183 = .ok (.iadd, 1) := by decide +kernel
theorem dX13_readRow_184 : decode cX13_readRow 184 = .ok (.putfield 123, 3) := by decide +kernel
theorem dX13_readRow_187 : decode cX13_readRow 187 = .ok (.goto 23, 3) := by decide +kernel
theorem dX13_readRow_190 : decode cX13_readRow 190 = .ok (.lload 6, 2) := by decide +kernel
theorem dX13_readRow_192 : decode cX13_readRow 192 = .ok (.ldc2_w 260, 3) := by decide +kernel
theorem dX13_readRow_195 : decode cX13_readRow 195 = .ok (.lcmp, 1) := by decide +kernel
theorem dX13_readRow_196 : decode cX13_readRow 196 = .ok (.ifCond .ne 9, 3) := by decide +kernel
theorem dX13_readRow_199 : decode cX13_readRow 199 = .ok (.iconst 0, 1) := by decide +kernel
theorem dX13_readRow_200 : decode cX13_readRow 200 = .ok (.istore 4, 2) := by decide +kernel
theorem dX13_readRow_202 : decode cX13_readRow 202 = .ok (.goto 8, 3) := by decide +kernel
theorem dX13_readRow_205 : decode cX13_readRow 205 = .ok (.aload_n 0, 1) := by decide +kernel
theorem dX13_readRow_206 : decode cX13_readRow 206 = .ok (.iconst 3, 1) := by decide +kernel
theorem dX13_readRow_207 : decode cX13_readRow 207 = .ok (.invokevirtual 268, 3) := by decide +kernel
theorem dX13_readRow_210 : decode cX13_readRow 210 = .ok (.goto (-123), 3) := by decide +kernel
theorem dX13_readRow_213 : decode cX13_readRow 213 = .ok (.aload_n 0, 1) := by decide +kernel
theorem dX13_readRow_214 : decode cX13_readRow 214 = .ok (.bipush 32, 2) := by decide +kernel
theorem dX13_readRow_216 : decode cX13_readRow 216 = .ok (.invokevirtual 274, 3) := by decide +kernel
theorem dX13_readRow_219 : decode cX13_readRow 219 = .ok (.l2i, 1) := by decide +kernel
theorem dX13_readRow_220 : decode cX13_readRow 220 = .ok (.iload_n 3, 1) := by decide +kernel
theorem dX13_readRow_221 : decode cX13_readRow 221 = .ok (.if_icmp .eq 9, 3) := by decide +kernel
theorem dX13_readRow_224 : decode cX13_readRow 224 = .ok (.aload_n 0, 1) := by decide +kernel
theorem dX13_readRow_225 : decode cX13_readRow 225 = .ok (.bipush 13, 2) := by decide +kernel
theorem dX13_readRow_227 : decode cX13_readRow 227 = .ok (.invokevirtual 268, 3) := by decide +kernel
theorem dX13_readRow_230 : decode cX13_readRow 230 = .ok (.iconst 1, 1) := by decide +kernel
theorem dX13_readRow_231 : decode cX13_readRow 231 = .ok (.istore 5, 2) := by decide +kernel
theorem dX13_readRow_233 : decode cX13_readRow 233 = .ok (.aload_n 0, 1) := by decide +kernel
theorem dX13_readRow_234 : decode cX13_readRow 234 = .ok (.getfield 265, 3) := by decide +kernel
theorem dX13_readRow_237 : decode cX13_readRow 237 = .ok (.bipush 8, 2) := by decide +kernel
theorem dX13_readRow_239 : decode cX13_readRow 239 = .ok (.irem, 1) := by decide +kernel
theorem dX13_readRow_240 : decode cX13_readRow 240 = .ok (.ifCond .eq 25, 3) := by decide +kernel
theorem dX13_readRow_243 : decode cX13_readRow 243 = .ok (.aload_n 0, 1) := by decide +kernel
theorem dX13_readRow_244 : decode cX13_readRow 244 = .ok (.invokevirtual 271, 3) := by decide +kernel
theorem dX13_readRow_247 : decode cX13_readRow 247 = .ok (.ifCond .ne 12, 3) := by decide +kernel
theorem dX13_readRow_250 : decode cX13_readRow 250 = .ok (.iload 5, 2) := by decide +kernel
theorem dX13_readRow_252 : decode cX13_readRow 252 = .ok (.ifCond .eq 7, 3) := by decide +kernel
theorem dX13_readRow_255 : decode cX13_readRow 255 = .ok (.iconst 1, 1) := by decide +kernel
theorem dX13_readRow_256 : decode cX13_readRow 256 = .ok (.goto 4, 3) := by decide +kernel
theorem dX13_readRow_259 : decode cX13_readRow 259 = .ok (.iconst 0, 1) := by decide +kernel
theorem dX13_readRow_260 : decode cX13_readRow 260 = .ok (.istore 5, 2) := by decide +kernel
theorem dX13_readRow_262 : decode cX13_readRow 262 = .ok (.goto (-29), 3) := by decide +kernel
theorem dX13_readRow_265 : decode cX13_readRow 265 = .ok (.iload 5, 2) := by decide +kernel
theorem dX13_readRow_267 : decode cX13_readRow 267 = .ok (.ifCond .ne 9, 3) := by decide +kernel
theorem dX13_readRow_270 : decode cX13_readRow 270 = .ok (.aload_n 0, 1) := by decide +kernel
theorem dX13_readRow_271 : decode cX13_readRow 271 = .ok (.bipush 14, 2) := by decide +kernel
theorem dX13_readRow_273 : decode cX13_readRow 273 = .ok (.invokevirtual 268, 3) := by decide +kernel
theorem dX13_readRow_276 : decode cX13_readRow 276 = .ok (.return_, 1) := by decide +kernel
theorem dX13_open_0 : decode cX13_open 0 = .ok (.aload_n 0, 1) := by decide +kernel
theorem dX13_open_1 : decode cX13_open 1 = .ok (.iconst 0, 1) := by decide +kernel
theorem dX13_open_2 : decode cX13_open 2 = .ok (.putfield 1, 3) := by decide +kernel
theorem dX13_open_5 : decode cX13_open 5 = .ok (.iconst 0, 1) := by decide +kernel
theorem dX13_open_6 : decode cX13_open 6 = .ok (.istore_n 1, 1) := by decide +kernel
theorem dX13_open_7 : decode cX13_open 7 = .ok (.iload_n 1, 1) := by decide +kernel
theorem dX13_open_8 : decode cX13_open 8 = .ok (.aload_n 0, 1) := by decide +kernel
theorem dX13_open_9 : decode cX13_open 9 = .ok (.getfield 109, 3) := by decide +kernel
theorem dX13_open_12 : decode cX13_open 12 = .ok (.if_icmp .ge 21, 3) := by decide +kernel
theorem dX13_open_15 : decode cX13_open 15 = .ok (.aload_n 0, 1) := by decide +kernel
theorem dX13_open_16 : decode cX13_open 16 = .ok (.getfield 27, 3) := by decide +kernel
theorem dX13_open_19 : decode cX13_open 19 = .ok (.iload_n 1, 1) := by decide +kernel
theorem dX13_open_20 : decode cX13_open 20 = .ok (.aload_n 0, 1) := by decide +kernel
theorem dX13_open_21 : decode cX13_open 21 = .ok (.getfield 20, 3) := by decide +kernel
theorem dX13_open_24 : decode cX13_open 24 = .ok (.iload_n 1, 1) := by decide +kernel
theorem dX13_open_25 : decode cX13_open 25 = .ok (.baload, 1) := by decide +kernel
theorem dX13_open_26 : decode cX13_open 26 = .ok (.bastore, 1) := by decide +kernel
theorem dX13_open_27 : decode cX13_open 27 = .ok (.iinc 1 1, 3) := by decide +kernel
theorem dX13_open_30 : decode cX13_open 30 = .ok (.goto (-23), 3) := by decide +kernel
theorem dX13_open_33 : decode cX13_open 33 = .ok (.aload_n 0, 1) := by decide +kernel
theorem dX13_open_34 : decode cX13_open 34 = .ok (.aload_n 0, 1) := by decide +kernel
theorem dX13_open_35 : decode cX13_open 35 = .ok (.getfield 109, 3) := by decide +kernel
theorem dX13_open_38 : decode cX13_open 38 = .ok (.putfield 128, 3) := by decide +kernel
theorem dX13_open_41 : decode cX13_open 41 = .ok (.aload_n 0, 1) := by decide +kernel
theorem dX13_open_42 : decode cX13_open 42 = .ok (.iconst 0, 1) := by decide +kernel
theorem dX13_open_43 : decode cX13_open 43 = .ok (.putfield 109, 3) := by decide +kernel
theorem dX13_open_46 : decode cX13_open 46 = .ok (.aload_n 0, 1) := by decide +kernel
theorem dX13_open_47 : decode cX13_open 47 = .ok (.iconst 0, 1) := by decide +kernel
theorem dX13_open_48 : decode cX13_open 48 = .ok (.putfield 123, 3) := by decide +kernel
theorem dX13_open_51 : decode cX13_open 51 = .ok (.aload_n 0, 1) := by decide +kernel
theorem dX13_open_52 : decode cX13_open 52 = .ok (.iconst 0, 1) := by decide +kernel
theorem dX13_open_53 : decode cX13_open 53 = .ok (.putfield 131, 3) := by decide +kernel
theorem dX13_open_56 : decode cX13_open 56 = .ok (.aload_n 0, 1) := by decide +kernel
theorem dX13_open_57 : decode cX13_open 57 = .ok (.iconst 0, 1) := by decide +kernel
theorem dX13_open_58 : decode cX13_open 58 = .ok (.putfield 140, 3) := by decide +kernel
theorem dX13_open_61 : decode cX13_open 61 = .ok (.aload_n 0, 1) := by decide +kernel
theorem dX13_open_62 : decode cX13_open 62 = .ok (.iconst 0, 1) := by decide +kernel
theorem dX13_open_63 : decode cX13_open 63 = .ok (.putfield 146, 3) := by decide +kernel
theorem dX13_open_66 : decode cX13_open 66 = .ok (.aload_n 0, 1) := by decide +kernel
theorem dX13_open_67 : decode cX13_open 67 = .ok (.iconst 0, 1) := by decide +kernel
theorem dX13_open_68 : decode cX13_open 68 = .ok (.putfield 120, 3) := by decide +kernel
theorem dX13_open_71 : decode cX13_open 71 = .ok (.aload_n 0, 1) := by decide +kernel
theorem dX13_open_72 : decode cX13_open 72 = .ok (.iconst 0, 1) := by decide +kernel
theorem dX13_open_73 : decode cX13_open 73 = .ok (.putfield 265, 3) := by decide +kernel
theorem dX13_open_76 : decode cX13_open 76 = .ok (.iconst 0, 1) := by decide +kernel
theorem dX13_open_77 : decode cX13_open 77 = .ok (.istore_n 1, 1) := by decide +kernel
theorem dX13_open_78 : decode cX13_open 78 = .ok (.iconst 1, 1) := by decide +kernel
theorem dX13_open_79 : decode cX13_open 79 = .ok (.istore_n 2, 1) := by decide +kernel
theorem dX13_open_80 : decode cX13_open 80 = .ok (.iload_n 2, 1) := by decide +kernel
theorem dX13_open_81 : decode cX13_open 81 = .ok (.ifCond .eq 34, 3) := by decide +kernel
theorem dX13_open_84 : decode cX13_open 84 = .ok (.aload_n 0, 1) := by decide +kernel
theorem dX13_open_85 : decode cX13_open 85 = .ok (.iload_n 1, 1) := by decide +kernel
theorem dX13_open_86 : decode cX13_open 86 = .ok (.invokevirtual 317, 3) := by decide +kernel
theorem dX13_open_89 : decode cX13_open 89 = .ok (.iinc 1 1, 3) := by decide +kernel
theorem dX13_open_92 : decode cX13_open 92 = .ok (.aload_n 0, 1) := by decide +kernel
theorem dX13_open_93 : decode cX13_open 93 = .ok (.getfield 265, 3) := by decide +kernel
theorem dX13_open_96 : decode cX13_open 96 = .ok (.bipush 8, 2) := by decide +kernel
theorem dX13_open_98 : decode cX13_open 98 = .ok (.aload_n 0, 1) := by decide +kernel
theorem dX13_open_99 : decode cX13_open 99 = .ok (.getfield 128, 3) := by decide +kernel
theorem dX13_open_102 : decode cX13_open 102 = .ok (.imul, 1) := by decide +kernel
theorem dX13_open_103 : decode cX13_open 103 = .ok (.if_icmp .ge 7, 3) := by decide +kernel
theorem dX13_open_106 : decode cX13_open 106 = .ok (.iconst 1, 1) := by decide +kernel
theorem dX13_open_107 : decode cX13_open 107 = .ok (.goto 4, 3) := by decide +kernel
theorem dX13_open_110 : decode cX13_open 110 = .ok (.iconst 0, 1) := by decide +kernel
theorem dX13_open_111 : decode cX13_open 111 = .ok (.istore_n 2, 1) := by decide +kernel
theorem dX13_open_112 : decode cX13_open 112 = .ok (.goto (-32), 3) := by decide +kernel
theorem dX13_open_115 : decode cX13_open 115 = .ok (.aload_n 0, 1) := by decide +kernel
theorem dX13_open_116 : decode cX13_open 116 = .ok (.getfield 123, 3) := by decide +kernel
theorem dX13_open_119 : decode cX13_open 119 = .ok (.ireturn, 1) := by decide +kernel
theorem dX13_open_120 : decode cX13_open 120 = .ok (.astore_n 2, 1) := by decide +kernel
theorem dX13_open_121 : decode cX13_open 121 = .ok (.aload_n 0, 1) := by decide +kernel
theorem dX13_open_122 : decode cX13_open 122 = .ok (.aload_n 2, 1) := by decide +kernel
theorem dX13_open_123 : decode cX13_open 123 = .ok (.getfield 262, 3) := by decide +kernel
theorem dX13_open_126 : decode cX13_open 126 = .ok (.putfield 120, 3) := by decide +kernel
theorem dX13_open_129 : decode cX13_open 129 = .ok (.bipush (-10), 2) := by decide +kernel
theorem dX13_open_131 : decode cX13_open 131 = .ok (.aload_n 0, 1) := by decide +kernel
theorem dX13_open_132 : decode cX13_open 132 = .ok (.getfield 265, 3) := by decide +kernel
theorem dX13_open_135 : decode cX13_open 135 = .ok (.bipush 7, 2) := by decide +kernel
theorem dX13_open_137 : decode cX13_open 137 = .ok (.iadd, 1) := by decide +kernel
theorem dX13_open_138 : decode cX13_open 138 = .ok (.bipush 8, 2) := by decide +kernel
theorem dX13_open_140 : decode cX13_open 140 = .ok (.idiv, 1) := by decide +kernel
theorem dX13_open_141 : decode cX13_open 141 = .ok (.isub, 1) := by decide +kernel
theorem dX13_open_142 : decode cX13_open 142 = .ok (.ireturn, 1) := by decide +kernel
theorem dX13_markAt_0 : decode cX13_markAt 0 = .ok (.iconst (-1), 1) := by decide +kernel
theorem dX13_markAt_1 : decode cX13_markAt 1 = .ok (.istore_n 2, 1) := by decide +kernel
theorem dX13_markAt_2 : decode cX13_markAt 2 = .ok (.lconst 0, 1) := by decide +kernel
theorem dX13_markAt_3 : decode cX13_markAt 3 = .ok (.lstore_n 3, 1) := by decide +kernel
theorem dX13_markAt_4 : decode cX13_markAt 4 = .ok (.iconst 0, 1) := by decide +kernel
theorem dX13_markAt_5 : decode cX13_markAt 5 = .ok (.istore 5, 2) := by decide +kernel
theorem dX13_markAt_7 : decode cX13_markAt 7 = .ok (.iload 5, 2) := by decide +kernel
theorem dX13_markAt_9 : decode cX13_markAt 9 = .ok (.bipush 8, 2) := by decide +kernel
theorem dX13_markAt_11 : decode cX13_markAt 11 = .ok (.aload_n 0, 1) := by decide +kernel
theorem dX13_markAt_12 : decode cX13_markAt 12 = .ok (.getfield 128, 3) := by decide +kernel
theorem dX13_markAt_15 : decode cX13_markAt 15 = .ok (.imul, 1) := by decide +kernel
theorem dX13_markAt_16 : decode cX13_markAt 16 = .ok (.if_icmp .ge 69, 3) := by decide +kernel
theorem dX13_markAt_19 : decode cX13_markAt 19 = .ok (.lload_n 3, 1) := by decide +kernel
theorem dX13_markAt_20 : decode cX13_markAt 20 = .ok (.iconst 1, 1) := by decide +kernel
theorem dX13_markAt_21 : decode cX13_markAt 21 = .ok (.lshl, 1) := by decide +kernel
theorem dX13_markAt_22 : decode cX13_markAt 22 = .ok (.aload_n 0, 1) := by decide +kernel
theorem dX13_markAt_23 : decode cX13_markAt 23 = .ok (.getfield 27, 3) := by decide +kernel
theorem dX13_markAt_26 : decode cX13_markAt 26 = .ok (.iload 5, 2) := by decide +kernel
theorem dX13_markAt_28 : decode cX13_markAt 28 = .ok (.bipush 8, 2) := by decide +kernel
theorem dX13_markAt_30 : decode cX13_markAt 30 = .ok (.idiv, 1) := by decide +kernel
theorem dX13_markAt_31 : decode cX13_markAt 31 = .ok (.baload, 1) := by decide +kernel
theorem dX13_markAt_32 : decode cX13_markAt 32 = .ok (.bipush 7, 2) := by decide +kernel
theorem dX13_markAt_34 : decode cX13_markAt 34 = .ok (.iload 5, 2) := by decide +kernel
theorem dX13_markAt_36 : decode cX13_markAt 36 = .ok (.bipush 8, 2) := by decide +kernel
theorem dX13_markAt_38 : decode cX13_markAt 38 = .ok (.irem, 1) := by decide +kernel
theorem dX13_markAt_39 : decode cX13_markAt 39 = .ok (.isub, 1) := by decide +kernel
theorem dX13_markAt_40 : decode cX13_markAt 40 = .ok (.ishr, 1) := by decide +kernel
theorem dX13_markAt_41 : decode cX13_markAt 41 = .ok (.iconst 1, 1) := by decide +kernel
theorem dX13_markAt_42 : decode cX13_markAt 42 = .ok (.iand, 1) := by decide +kernel
theorem dX13_markAt_43 : decode cX13_markAt 43 = .ok (.i2l, 1) := by decide +kernel
theorem dX13_markAt_44 : decode cX13_markAt 44 = .ok (.lor, 1) := by decide +kernel
theorem dX13_markAt_45 : decode cX13_markAt 45 = .ok (.ldc2_w 320, 3) := by decide +kernel
theorem dX13_markAt_48 : decode cX13_markAt 48 = .ok (.land, 1) := by decide +kernel
theorem dX13_markAt_49 : decode cX13_markAt 49 = .ok (.lstore_n 3, 1) := by decide +kernel
theorem dX13_markAt_50 : decode cX13_markAt 50 = .ok (.iload 5, 2) := by decide +kernel
theorem dX13_markAt_52 : decode cX13_markAt 52 = .ok (.bipush 47, 2) := by decide +kernel
theorem dX13_markAt_54 : decode cX13_markAt 54 = .ok (.if_icmp .lt 25, 3) := by decide +kernel
theorem dX13_markAt_57 : decode cX13_markAt 57 = .ok (.lload_n 3, 1) := by decide +kernel
theorem dX13_markAt_58 : decode cX13_markAt 58 = .ok (.ldc2_w 224, 3) := by decide +kernel
theorem dX13_markAt_61 : decode cX13_markAt 61 = .ok (.lcmp, 1) := by decide +kernel
theorem dX13_markAt_62 : decode cX13_markAt 62 = .ok (.ifCond .ne 17, 3) := by decide +kernel
theorem dX13_markAt_65 : decode cX13_markAt 65 = .ok (.iinc 2 1, 3) := by decide +kernel
theorem dX13_markAt_68 : decode cX13_markAt 68 = .ok (.iload_n 2, 1) := by decide +kernel
theorem dX13_markAt_69 : decode cX13_markAt 69 = .ok (.iload_n 1, 1) := by decide +kernel
theorem dX13_markAt_70 : decode cX13_markAt 70 = .ok (.if_icmp .ne 9, 3) := by decide +kernel
theorem dX13_markAt_73 : decode cX13_markAt 73 = .ok (.iload 5, 2) := by decide +kernel
theorem dX13_markAt_75 : decode cX13_markAt 75 = .ok (.bipush 47, 2) := by decide +kernel
theorem dX13_markAt_77 : decode cX13_markAt 77 = .ok (.isub, 1) := by decide +kernel
theorem dX13_markAt_78 : decode cX13_markAt 78 = .ok (.ireturn, 1) := by decide +kernel
theorem dX13_markAt_79 : decode cX13_markAt 79 = .ok (.iinc 5 1, 3) := by decide +kernel
theorem dX13_markAt_82 : decode cX13_markAt 82 = .ok (.goto (-75), 3) := by decide +kernel
theorem dX13_markAt_85 : decode cX13_markAt 85 = .ok (.bipush (-2), 2) := by decide +kernel
theorem dX13_markAt_87 : decode cX13_markAt 87 = .ok (.ireturn, 1) := by decide +kernel
theorem dX13_mark_0 : decode cX13_mark 0 = .ok (.aload_n 0, 1) := by decide +kernel
theorem dX13_mark_1 : decode cX13_mark 1 = .ok (.iconst 0, 1) := by decide +kernel
theorem dX13_mark_2 : decode cX13_mark 2 = .ok (.putfield 1, 3) := by decide +kernel
theorem dX13_mark_5 : decode cX13_mark 5 = .ok (.iload_n 1, 1) := by decide +kernel
theorem dX13_mark_6 : decode cX13_mark 6 = .ok (.ifCond .ge 8, 3) := by decide +kernel
theorem dX13_mark_9 : decode cX13_mark 9 = .ok (.bipush (-2), 2) := by decide +kernel
theorem dX13_mark_11 : decode cX13_mark 11 = .ok (.goto 8, 3) := by decide +kernel
theorem dX13_mark_14 : decode cX13_mark 14 = .ok (.aload_n 0, 1) := by decide +kernel
theorem dX13_mark_15 : decode cX13_mark 15 = .ok (.iload_n 1, 1) := by decide +kernel
theorem dX13_mark_16 : decode cX13_mark 16 = .ok (.invokevirtual 322, 3) := by decide +kernel
theorem dX13_mark_19 : decode cX13_mark 19 = .ok (.istore_n 2, 1) := by decide +kernel
theorem dX13_mark_20 : decode cX13_mark 20 = .ok (.iload_n 2, 1) := by decide +kernel
theorem dX13_mark_21 : decode cX13_mark 21 = .ok (.ifCond .ge 7, 3) := by decide +kernel
theorem dX13_mark_24 : decode cX13_mark 24 = .ok (.iconst (-1), 1) := by decide +kernel
theorem dX13_mark_25 : decode cX13_mark 25 = .ok (.goto 4, 3) := by decide +kernel
theorem dX13_mark_28 : decode cX13_mark 28 = .ok (.iload_n 2, 1) := by decide +kernel
theorem dX13_mark_29 : decode cX13_mark 29 = .ok (.ireturn, 1) := by decide +kernel
theorem dX13_alone_0 : decode cX13_alone 0 = .ok (.aload_n 0, 1) := by decide +kernel
theorem dX13_alone_1 : decode cX13_alone 1 = .ok (.iconst 0, 1) := by decide +kernel
theorem dX13_alone_2 : decode cX13_alone 2 = .ok (.putfield 1, 3) := by decide +kernel
theorem dX13_alone_5 : decode cX13_alone 5 = .ok (.iload_n 1, 1) := by decide +kernel
theorem dX13_alone_6 : decode cX13_alone 6 = .ok (.ifCond .ge 8, 3) := by decide +kernel
theorem dX13_alone_9 : decode cX13_alone 9 = .ok (.bipush (-2), 2) := by decide +kernel
theorem dX13_alone_11 : decode cX13_alone 11 = .ok (.goto 8, 3) := by decide +kernel
theorem dX13_alone_14 : decode cX13_alone 14 = .ok (.aload_n 0, 1) := by decide +kernel
theorem dX13_alone_15 : decode cX13_alone 15 = .ok (.iload_n 1, 1) := by decide +kernel
theorem dX13_alone_16 : decode cX13_alone 16 = .ok (.invokevirtual 322, 3) := by decide +kernel
theorem dX13_alone_19 : decode cX13_alone 19 = .ok (.istore_n 2, 1) := by decide +kernel
theorem dX13_alone_20 : decode cX13_alone 20 = .ok (.iload_n 2, 1) := by decide +kernel
theorem dX13_alone_21 : decode cX13_alone 21 = .ok (.ifCond .ge 5, 3) := by decide +kernel
theorem dX13_alone_24 : decode cX13_alone 24 = .ok (.iconst (-1), 1) := by decide +kernel
theorem dX13_alone_25 : decode cX13_alone 25 = .ok (.ireturn, 1) := by decide +kernel
theorem dX13_alone_26 : decode cX13_alone 26 = .ok (.aload_n 0, 1) := by decide +kernel
theorem dX13_alone_27 : decode cX13_alone 27 = .ok (.iconst 0, 1) := by decide +kernel
theorem dX13_alone_28 : decode cX13_alone 28 = .ok (.putfield 120, 3) := by decide +kernel
theorem dX13_alone_31 : decode cX13_alone 31 = .ok (.aload_n 0, 1) := by decide +kernel
theorem dX13_alone_32 : decode cX13_alone 32 = .ok (.iconst 0, 1) := by decide +kernel
theorem dX13_alone_33 : decode cX13_alone 33 = .ok (.putfield 123, 3) := by decide +kernel
theorem dX13_alone_36 : decode cX13_alone 36 = .ok (.aload_n 0, 1) := by decide +kernel
theorem dX13_alone_37 : decode cX13_alone 37 = .ok (.iload_n 2, 1) := by decide +kernel
theorem dX13_alone_38 : decode cX13_alone 38 = .ok (.bipush 48, 2) := by decide +kernel
theorem dX13_alone_40 : decode cX13_alone 40 = .ok (.iadd, 1) := by decide +kernel
theorem dX13_alone_41 : decode cX13_alone 41 = .ok (.putfield 265, 3) := by decide +kernel
theorem dX13_alone_44 : decode cX13_alone 44 = .ok (.aload_n 0, 1) := by decide +kernel
theorem dX13_alone_45 : decode cX13_alone 45 = .ok (.iload_n 2, 1) := by decide +kernel
theorem dX13_alone_46 : decode cX13_alone 46 = .ok (.iconst 0, 1) := by decide +kernel
theorem dX13_alone_47 : decode cX13_alone 47 = .ok (.sipush 1800, 3) := by decide +kernel
theorem dX13_alone_50 : decode cX13_alone 50 = .ok (.iconst 0, 1) := by decide +kernel
theorem dX13_alone_51 : decode cX13_alone 51 = .ok (.iconst 0, 1) := by decide +kernel
theorem dX13_alone_52 : decode cX13_alone 52 = .ok (.invokevirtual 313, 3) := by decide +kernel
theorem dX13_alone_55 : decode cX13_alone 55 = .ok (.istore_n 3, 1) := by decide +kernel
theorem dX13_alone_56 : decode cX13_alone 56 = .ok (.iconst 0, 1) := by decide +kernel
theorem dX13_alone_57 : decode cX13_alone 57 = .ok (.istore 4, 2) := by decide +kernel
theorem dX13_alone_59 : decode cX13_alone 59 = .ok (.iload 4, 2) := by decide +kernel
theorem dX13_alone_61 : decode cX13_alone 61 = .ok (.aload_n 0, 1) := by decide +kernel
theorem dX13_alone_62 : decode cX13_alone 62 = .ok (.getfield 308, 3) := by decide +kernel
theorem dX13_alone_65 : decode cX13_alone 65 = .ok (.if_icmp .ge 23, 3) := by decide +kernel
theorem dX13_alone_68 : decode cX13_alone 68 = .ok (.aload_n 0, 1) := by decide +kernel
theorem dX13_alone_69 : decode cX13_alone 69 = .ok (.getfield 24, 3) := by decide +kernel
theorem dX13_alone_72 : decode cX13_alone 72 = .ok (.iload 4, 2) := by decide +kernel
theorem dX13_alone_74 : decode cX13_alone 74 = .ok (.aload_n 0, 1) := by decide +kernel
theorem dX13_alone_75 : decode cX13_alone 75 = .ok (.getfield 103, 3) := by decide +kernel
theorem dX13_alone_78 : decode cX13_alone 78 = .ok (.iload 4, 2) := by decide +kernel
theorem dX13_alone_80 : decode cX13_alone 80 = .ok (.baload, 1) := by decide +kernel
theorem dX13_alone_81 : decode cX13_alone 81 = .ok (.bastore, 1) := by decide +kernel
theorem dX13_alone_82 : decode cX13_alone 82 = .ok (.iinc 4 1, 3) := by decide +kernel
theorem dX13_alone_85 : decode cX13_alone 85 = .ok (.goto (-26), 3) := by decide +kernel
theorem dX13_alone_88 : decode cX13_alone 88 = .ok (.aload_n 0, 1) := by decide +kernel
theorem dX13_alone_89 : decode cX13_alone 89 = .ok (.aload_n 0, 1) := by decide +kernel
theorem dX13_alone_90 : decode cX13_alone 90 = .ok (.getfield 308, 3) := by decide +kernel
theorem dX13_alone_93 : decode cX13_alone 93 = .ok (.putfield 123, 3) := by decide +kernel
theorem dX13_alone_96 : decode cX13_alone 96 = .ok (.aload_n 0, 1) := by decide +kernel
theorem dX13_alone_97 : decode cX13_alone 97 = .ok (.getfield 123, 3) := by decide +kernel
theorem dX13_alone_100 : decode cX13_alone 100 = .ok (.ireturn, 1) := by decide +kernel
theorem dX13_alone_101 : decode cX13_alone 101 = .ok (.astore_n 3, 1) := by decide +kernel
theorem dX13_alone_102 : decode cX13_alone 102 = .ok (.aload_n 0, 1) := by decide +kernel
theorem dX13_alone_103 : decode cX13_alone 103 = .ok (.aload_n 3, 1) := by decide +kernel
theorem dX13_alone_104 : decode cX13_alone 104 = .ok (.getfield 262, 3) := by decide +kernel
theorem dX13_alone_107 : decode cX13_alone 107 = .ok (.putfield 120, 3) := by decide +kernel
theorem dX13_alone_110 : decode cX13_alone 110 = .ok (.bipush (-10), 2) := by decide +kernel
theorem dX13_alone_112 : decode cX13_alone 112 = .ok (.aload_n 0, 1) := by decide +kernel
theorem dX13_alone_113 : decode cX13_alone 113 = .ok (.getfield 265, 3) := by decide +kernel
theorem dX13_alone_116 : decode cX13_alone 116 = .ok (.bipush 7, 2) := by decide +kernel
theorem dX13_alone_118 : decode cX13_alone 118 = .ok (.iadd, 1) := by decide +kernel
theorem dX13_alone_119 : decode cX13_alone 119 = .ok (.bipush 8, 2) := by decide +kernel
theorem dX13_alone_121 : decode cX13_alone 121 = .ok (.idiv, 1) := by decide +kernel
theorem dX13_alone_122 : decode cX13_alone 122 = .ok (.isub, 1) := by decide +kernel
theorem dX13_alone_123 : decode cX13_alone 123 = .ok (.ireturn, 1) := by decide +kernel
theorem dJx00060_init_a7421_0 : decode cJx00060_init_a7421 0 = .ok (.aload_n 0, 1) := by decide +kernel
theorem dJx00060_init_a7421_1 : decode cJx00060_init_a7421 1 = .ok (.aload_n 1, 1) := by decide +kernel
theorem dJx00060_init_a7421_2 : decode cJx00060_init_a7421 2 = .ok (.invokespecial 7, 3) := by decide +kernel
theorem dJx00060_init_a7421_5 : decode cJx00060_init_a7421 5 = .ok (.return_, 1) := by decide +kernel
theorem dJ9_max_7cf53_0 : decode cJ9_max_7cf53 0 = .ok (.iload_n 0, 1) := by decide +kernel
theorem dJ9_max_7cf53_1 : decode cJ9_max_7cf53 1 = .ok (.iload_n 1, 1) := by decide +kernel
theorem dJ9_max_7cf53_2 : decode cJ9_max_7cf53 2 = .ok (.if_icmp .lt 7, 3) := by decide +kernel
theorem dJ9_max_7cf53_5 : decode cJ9_max_7cf53 5 = .ok (.iload_n 0, 1) := by decide +kernel
theorem dJ9_max_7cf53_6 : decode cJ9_max_7cf53 6 = .ok (.goto 4, 3) := by decide +kernel
theorem dJ9_max_7cf53_9 : decode cJ9_max_7cf53 9 = .ok (.iload_n 1, 1) := by decide +kernel
theorem dJ9_max_7cf53_10 : decode cJ9_max_7cf53 10 = .ok (.ireturn, 1) := by decide +kernel
theorem dJ9_min_7cf53_0 : decode cJ9_min_7cf53 0 = .ok (.iload_n 0, 1) := by decide +kernel
theorem dJ9_min_7cf53_1 : decode cJ9_min_7cf53 1 = .ok (.iload_n 1, 1) := by decide +kernel
theorem dJ9_min_7cf53_2 : decode cJ9_min_7cf53 2 = .ok (.if_icmp .gt 7, 3) := by decide +kernel
theorem dJ9_min_7cf53_5 : decode cJ9_min_7cf53 5 = .ok (.iload_n 0, 1) := by decide +kernel
theorem dJ9_min_7cf53_6 : decode cJ9_min_7cf53 6 = .ok (.goto 4, 3) := by decide +kernel
theorem dJ9_min_7cf53_9 : decode cJ9_min_7cf53 9 = .ok (.iload_n 1, 1) := by decide +kernel
theorem dJ9_min_7cf53_10 : decode cJ9_min_7cf53 10 = .ok (.ireturn, 1) := by decide +kernel
theorem dJ7_fill_53178_0 : decode cJ7_fill_53178 0 = .ok (.iconst 0, 1) := by decide +kernel
theorem dJ7_fill_53178_1 : decode cJ7_fill_53178 1 = .ok (.istore_n 2, 1) := by decide +kernel
theorem dJ7_fill_53178_2 : decode cJ7_fill_53178 2 = .ok (.aload_n 0, 1) := by decide +kernel
theorem dJ7_fill_53178_3 : decode cJ7_fill_53178 3 = .ok (.arraylength, 1) := by decide +kernel
theorem dJ7_fill_53178_4 : decode cJ7_fill_53178 4 = .ok (.istore_n 3, 1) := by decide +kernel
theorem dJ7_fill_53178_5 : decode cJ7_fill_53178 5 = .ok (.iload_n 2, 1) := by decide +kernel
theorem dJ7_fill_53178_6 : decode cJ7_fill_53178 6 = .ok (.iload_n 3, 1) := by decide +kernel
theorem dJ7_fill_53178_7 : decode cJ7_fill_53178 7 = .ok (.if_icmp .ge 13, 3) := by decide +kernel
theorem dJ7_fill_53178_10 : decode cJ7_fill_53178 10 = .ok (.aload_n 0, 1) := by decide +kernel
theorem dJ7_fill_53178_11 : decode cJ7_fill_53178 11 = .ok (.iload_n 2, 1) := by decide +kernel
theorem dJ7_fill_53178_12 : decode cJ7_fill_53178 12 = .ok (.iload_n 1, 1) := by decide +kernel
theorem dJ7_fill_53178_13 : decode cJ7_fill_53178 13 = .ok (.iastore, 1) := by decide +kernel
theorem dJ7_fill_53178_14 : decode cJ7_fill_53178 14 = .ok (.iinc 2 1, 3) := by decide +kernel
theorem dJ7_fill_53178_17 : decode cJ7_fill_53178 17 = .ok (.goto (-12), 3) := by decide +kernel
theorem dJ7_fill_53178_20 : decode cJ7_fill_53178 20 = .ok (.return_, 1) := by decide +kernel
theorem dL_cell_0 : decode cL_cell 0 = .ok (.iload_n 1, 1) := by decide +kernel
theorem dL_cell_1 : decode cL_cell 1 = .ok (.aload_n 0, 1) := by decide +kernel
theorem dL_cell_2 : decode cL_cell 2 = .ok (.arraylength, 1) := by decide +kernel
theorem dL_cell_3 : decode cL_cell 3 = .ok (.if_icmp .ge 9, 3) := by decide +kernel
theorem dL_cell_6 : decode cL_cell 6 = .ok (.aload_n 0, 1) := by decide +kernel
theorem dL_cell_7 : decode cL_cell 7 = .ok (.iload_n 1, 1) := by decide +kernel
theorem dL_cell_8 : decode cL_cell 8 = .ok (.iaload, 1) := by decide +kernel
theorem dL_cell_9 : decode cL_cell 9 = .ok (.goto 4, 3) := by decide +kernel
theorem dL_cell_12 : decode cL_cell 12 = .ok (.iconst 0, 1) := by decide +kernel
theorem dL_cell_13 : decode cL_cell 13 = .ok (.ireturn, 1) := by decide +kernel
theorem dL_out_0 : decode cL_out 0 = .ok (.aload_n 2, 1) := by decide +kernel
theorem dL_out_1 : decode cL_out 1 = .ok (.iconst 0, 1) := by decide +kernel
theorem dL_out_2 : decode cL_out 2 = .ok (.aload_n 0, 1) := by decide +kernel
theorem dL_out_3 : decode cL_out 3 = .ok (.iload_n 1, 1) := by decide +kernel
theorem dL_out_4 : decode cL_out 4 = .ok (.invokevirtual 7, 3) := by decide +kernel
theorem dL_out_7 : decode cL_out 7 = .ok (.i2l, 1) := by decide +kernel
theorem dL_out_8 : decode cL_out 8 = .ok (.lastore, 1) := by decide +kernel
theorem dL_out_9 : decode cL_out 9 = .ok (.goto 6, 3) := by decide +kernel
theorem dL_out_12 : decode cL_out 12 = .ok (.astore_n 3, 1) := by decide +kernel
theorem dL_out_13 : decode cL_out 13 = .ok (.iconst 1, 1) := by decide +kernel
theorem dL_out_14 : decode cL_out 14 = .ok (.ireturn, 1) := by decide +kernel
theorem dL_out_15 : decode cL_out 15 = .ok (.iconst 0, 1) := by decide +kernel
theorem dL_out_16 : decode cL_out 16 = .ok (.ireturn, 1) := by decide +kernel
theorem dL_law_0 : decode cL_law 0 = .ok (.new 8, 3) := by decide +kernel
theorem dL_law_3 : decode cL_law 3 = .ok (.dup, 1) := by decide +kernel
theorem dL_law_4 : decode cL_law 4 = .ok (.aload_n 0, 1) := by decide +kernel
theorem dL_law_5 : decode cL_law 5 = .ok (.iconst 0, 1) := by decide +kernel
theorem dL_law_6 : decode cL_law 6 = .ok (.invokestatic 15, 3) := by decide +kernel
theorem dL_law_9 : decode cL_law 9 = .ok (.invokespecial 21, 3) := by decide +kernel
theorem dL_law_12 : decode cL_law 12 = .ok (.astore_n 1, 1) := by decide +kernel
theorem dL_law_13 : decode cL_law 13 = .ok (.new 24, 3) := by decide +kernel
theorem dL_law_16 : decode cL_law 16 = .ok (.dup, 1) := by decide +kernel
theorem dL_law_17 : decode cL_law 17 = .ok (.aload_n 0, 1) := by decide +kernel
theorem dL_law_18 : decode cL_law 18 = .ok (.iconst 0, 1) := by decide +kernel
theorem dL_law_19 : decode cL_law 19 = .ok (.invokestatic 15, 3) := by decide +kernel
theorem dL_law_22 : decode cL_law 22 = .ok (.invokespecial 26, 3) := by decide +kernel
theorem dL_law_25 : decode cL_law 25 = .ok (.astore_n 2, 1) := by decide +kernel
theorem dL_law_26 : decode cL_law 26 = .ok (.iconst 1, 1) := by decide +kernel
theorem dL_law_27 : decode cL_law 27 = .ok (.newarray .long, 2) := by decide +kernel
theorem dL_law_29 : decode cL_law 29 = .ok (.astore_n 3, 1) := by decide +kernel
theorem dL_law_30 : decode cL_law 30 = .ok (.iconst 1, 1) := by decide +kernel
theorem dL_law_31 : decode cL_law 31 = .ok (.istore 4, 2) := by decide +kernel
theorem dL_law_33 : decode cL_law 33 = .ok (.iload 4, 2) := by decide +kernel
theorem dL_law_35 : decode cL_law 35 = .ok (.aload_n 0, 1) := by decide +kernel
theorem dL_law_36 : decode cL_law 36 = .ok (.arraylength, 1) := by decide +kernel
theorem dL_law_37 : decode cL_law 37 = .ok (.bipush 6, 2) := by decide +kernel
theorem dL_law_39 : decode cL_law 39 = .ok (.isub, 1) := by decide +kernel
theorem dL_law_40 : decode cL_law 40 = .ok (.if_icmp .gt 602, 3) := by decide +kernel
theorem dL_law_43 : decode cL_law 43 = .ok (.aload_n 0, 1) := by decide +kernel
theorem dL_law_44 : decode cL_law 44 = .ok (.iload 4, 2) := by decide +kernel
theorem dL_law_46 : decode cL_law 46 = .ok (.iaload, 1) := by decide +kernel
theorem dL_law_47 : decode cL_law 47 = .ok (.bipush 31, 2) := by decide +kernel
theorem dL_law_49 : decode cL_law 49 = .ok (.iand, 1) := by decide +kernel
theorem dL_law_50 : decode cL_law 50 = .ok (.tableswitch 586 0 16 #[82, 155, 180, 217, 230, 243, 256, 269, 306, 331, 387, 412, 449, 474, 499, 536, 561], 82) := by decide +kernel
theorem dL_law_132 : decode cL_law 132 = .ok (.aload_n 1, 1) := by decide +kernel
theorem dL_law_133 : decode cL_law 133 = .ok (.aload_n 0, 1) := by decide +kernel
theorem dL_law_134 : decode cL_law 134 = .ok (.iload 4, 2) := by decide +kernel
theorem dL_law_136 : decode cL_law 136 = .ok (.iconst 1, 1) := by decide +kernel
theorem dL_law_137 : decode cL_law 137 = .ok (.iadd, 1) := by decide +kernel
theorem dL_law_138 : decode cL_law 138 = .ok (.iaload, 1) := by decide +kernel
theorem dL_law_139 : decode cL_law 139 = .ok (.aload_n 0, 1) := by decide +kernel
theorem dL_law_140 : decode cL_law 140 = .ok (.iload 4, 2) := by decide +kernel
theorem dL_law_142 : decode cL_law 142 = .ok (.iconst 2, 1) := by decide +kernel
theorem dL_law_143 : decode cL_law 143 = .ok (.iadd, 1) := by decide +kernel
theorem dL_law_144 : decode cL_law 144 = .ok (.iaload, 1) := by decide +kernel
theorem dL_law_145 : decode cL_law 145 = .ok (.aload_n 0, 1) := by decide +kernel
theorem dL_law_146 : decode cL_law 146 = .ok (.iload 4, 2) := by decide +kernel
theorem dL_law_148 : decode cL_law 148 = .ok (.iconst 3, 1) := by decide +kernel
theorem dL_law_149 : decode cL_law 149 = .ok (.iadd, 1) := by decide +kernel
theorem dL_law_150 : decode cL_law 150 = .ok (.iaload, 1) := by decide +kernel
theorem dL_law_151 : decode cL_law 151 = .ok (.aload_n 0, 1) := by decide +kernel
theorem dL_law_152 : decode cL_law 152 = .ok (.iload 4, 2) := by decide +kernel
theorem dL_law_154 : decode cL_law 154 = .ok (.iconst 4, 1) := by decide +kernel
theorem dL_law_155 : decode cL_law 155 = .ok (.iadd, 1) := by decide +kernel
theorem dL_law_156 : decode cL_law 156 = .ok (.iaload, 1) := by decide +kernel
theorem dL_law_157 : decode cL_law 157 = .ok (.aload_n 0, 1) := by decide +kernel
theorem dL_law_158 : decode cL_law 158 = .ok (.iload 4, 2) := by decide +kernel
theorem dL_law_160 : decode cL_law 160 = .ok (.iconst 5, 1) := by decide +kernel
theorem dL_law_161 : decode cL_law 161 = .ok (.iadd, 1) := by decide +kernel
theorem dL_law_162 : decode cL_law 162 = .ok (.iaload, 1) := by decide +kernel
theorem dL_law_163 : decode cL_law 163 = .ok (.invokevirtual 27, 3) := by decide +kernel
theorem dL_law_166 : decode cL_law 166 = .ok (.aload_n 2, 1) := by decide +kernel
theorem dL_law_167 : decode cL_law 167 = .ok (.aload_n 0, 1) := by decide +kernel
theorem dL_law_168 : decode cL_law 168 = .ok (.iload 4, 2) := by decide +kernel
theorem dL_law_170 : decode cL_law 170 = .ok (.iconst 1, 1) := by decide +kernel
theorem dL_law_171 : decode cL_law 171 = .ok (.iadd, 1) := by decide +kernel
theorem dL_law_172 : decode cL_law 172 = .ok (.iaload, 1) := by decide +kernel
theorem dL_law_173 : decode cL_law 173 = .ok (.aload_n 0, 1) := by decide +kernel
theorem dL_law_174 : decode cL_law 174 = .ok (.iload 4, 2) := by decide +kernel
theorem dL_law_176 : decode cL_law 176 = .ok (.iconst 2, 1) := by decide +kernel
theorem dL_law_177 : decode cL_law 177 = .ok (.iadd, 1) := by decide +kernel
theorem dL_law_178 : decode cL_law 178 = .ok (.iaload, 1) := by decide +kernel
theorem dL_law_179 : decode cL_law 179 = .ok (.aload_n 0, 1) := by decide +kernel
theorem dL_law_180 : decode cL_law 180 = .ok (.iload 4, 2) := by decide +kernel
theorem dL_law_182 : decode cL_law 182 = .ok (.iconst 3, 1) := by decide +kernel
theorem dL_law_183 : decode cL_law 183 = .ok (.iadd, 1) := by decide +kernel
theorem dL_law_184 : decode cL_law 184 = .ok (.iaload, 1) := by decide +kernel
theorem dL_law_185 : decode cL_law 185 = .ok (.aload_n 0, 1) := by decide +kernel
theorem dL_law_186 : decode cL_law 186 = .ok (.iload 4, 2) := by decide +kernel
theorem dL_law_188 : decode cL_law 188 = .ok (.iconst 4, 1) := by decide +kernel
theorem dL_law_189 : decode cL_law 189 = .ok (.iadd, 1) := by decide +kernel
theorem dL_law_190 : decode cL_law 190 = .ok (.iaload, 1) := by decide +kernel
theorem dL_law_191 : decode cL_law 191 = .ok (.aload_n 0, 1) := by decide +kernel
theorem dL_law_192 : decode cL_law 192 = .ok (.iload 4, 2) := by decide +kernel
theorem dL_law_194 : decode cL_law 194 = .ok (.iconst 5, 1) := by decide +kernel
theorem dL_law_195 : decode cL_law 195 = .ok (.iadd, 1) := by decide +kernel
theorem dL_law_196 : decode cL_law 196 = .ok (.iaload, 1) := by decide +kernel
theorem dL_law_197 : decode cL_law 197 = .ok (.invokevirtual 31, 3) := by decide +kernel
theorem dL_law_200 : decode cL_law 200 = .ok (.if_icmp .eq 436, 3) := by decide +kernel
theorem dL_law_203 : decode cL_law 203 = .ok (.iconst 0, 1) := by decide +kernel
theorem dL_law_204 : decode cL_law 204 = .ok (.ireturn, 1) := by decide +kernel
theorem dL_law_205 : decode cL_law 205 = .ok (.aload_n 1, 1) := by decide +kernel
theorem dL_law_206 : decode cL_law 206 = .ok (.aload_n 0, 1) := by decide +kernel
theorem dL_law_207 : decode cL_law 207 = .ok (.iload 4, 2) := by decide +kernel
theorem dL_law_209 : decode cL_law 209 = .ok (.iconst 1, 1) := by decide +kernel
theorem dL_law_210 : decode cL_law 210 = .ok (.iadd, 1) := by decide +kernel
theorem dL_law_211 : decode cL_law 211 = .ok (.iaload, 1) := by decide +kernel
theorem dL_law_212 : decode cL_law 212 = .ok (.invokevirtual 32, 3) := by decide +kernel
theorem dL_law_215 : decode cL_law 215 = .ok (.aload_n 2, 1) := by decide +kernel
theorem dL_law_216 : decode cL_law 216 = .ok (.aload_n 0, 1) := by decide +kernel
theorem dL_law_217 : decode cL_law 217 = .ok (.iload 4, 2) := by decide +kernel
theorem dL_law_219 : decode cL_law 219 = .ok (.iconst 1, 1) := by decide +kernel
theorem dL_law_220 : decode cL_law 220 = .ok (.iadd, 1) := by decide +kernel
theorem dL_law_221 : decode cL_law 221 = .ok (.iaload, 1) := by decide +kernel
theorem dL_law_222 : decode cL_law 222 = .ok (.invokevirtual 35, 3) := by decide +kernel
theorem dL_law_225 : decode cL_law 225 = .ok (.if_icmp .eq 411, 3) := by decide +kernel
theorem dL_law_228 : decode cL_law 228 = .ok (.iconst 0, 1) := by decide +kernel
theorem dL_law_229 : decode cL_law 229 = .ok (.ireturn, 1) := by decide +kernel
theorem dL_law_230 : decode cL_law 230 = .ok (.aload_n 1, 1) := by decide +kernel
theorem dL_law_231 : decode cL_law 231 = .ok (.aload_n 0, 1) := by decide +kernel
theorem dL_law_232 : decode cL_law 232 = .ok (.iload 4, 2) := by decide +kernel
theorem dL_law_234 : decode cL_law 234 = .ok (.iconst 1, 1) := by decide +kernel
theorem dL_law_235 : decode cL_law 235 = .ok (.iadd, 1) := by decide +kernel
theorem dL_law_236 : decode cL_law 236 = .ok (.iaload, 1) := by decide +kernel
theorem dL_law_237 : decode cL_law 237 = .ok (.aload_n 0, 1) := by decide +kernel
theorem dL_law_238 : decode cL_law 238 = .ok (.iload 4, 2) := by decide +kernel
theorem dL_law_240 : decode cL_law 240 = .ok (.iconst 2, 1) := by decide +kernel
theorem dL_law_241 : decode cL_law 241 = .ok (.iadd, 1) := by decide +kernel
theorem dL_law_242 : decode cL_law 242 = .ok (.iaload, 1) := by decide +kernel
theorem dL_law_243 : decode cL_law 243 = .ok (.invokevirtual 36, 3) := by decide +kernel
theorem dL_law_246 : decode cL_law 246 = .ok (.aload_n 2, 1) := by decide +kernel
theorem dL_law_247 : decode cL_law 247 = .ok (.aload_n 0, 1) := by decide +kernel
theorem dL_law_248 : decode cL_law 248 = .ok (.iload 4, 2) := by decide +kernel
theorem dL_law_250 : decode cL_law 250 = .ok (.iconst 1, 1) := by decide +kernel
theorem dL_law_251 : decode cL_law 251 = .ok (.iadd, 1) := by decide +kernel
theorem dL_law_252 : decode cL_law 252 = .ok (.iaload, 1) := by decide +kernel
theorem dL_law_253 : decode cL_law 253 = .ok (.aload_n 0, 1) := by decide +kernel
theorem dL_law_254 : decode cL_law 254 = .ok (.iload 4, 2) := by decide +kernel
theorem dL_law_256 : decode cL_law 256 = .ok (.iconst 2, 1) := by decide +kernel
theorem dL_law_257 : decode cL_law 257 = .ok (.iadd, 1) := by decide +kernel
theorem dL_law_258 : decode cL_law 258 = .ok (.iaload, 1) := by decide +kernel
theorem dL_law_259 : decode cL_law 259 = .ok (.invokevirtual 40, 3) := by decide +kernel
theorem dL_law_262 : decode cL_law 262 = .ok (.if_icmp .eq 374, 3) := by decide +kernel
theorem dL_law_265 : decode cL_law 265 = .ok (.iconst 0, 1) := by decide +kernel
theorem dL_law_266 : decode cL_law 266 = .ok (.ireturn, 1) := by decide +kernel
theorem dL_law_267 : decode cL_law 267 = .ok (.aload_n 1, 1) := by decide +kernel
theorem dL_law_268 : decode cL_law 268 = .ok (.invokevirtual 41, 3) := by decide +kernel
theorem dL_law_271 : decode cL_law 271 = .ok (.aload_n 2, 1) := by decide +kernel
theorem dL_law_272 : decode cL_law 272 = .ok (.invokevirtual 45, 3) := by decide +kernel
theorem dL_law_275 : decode cL_law 275 = .ok (.if_icmp .eq 361, 3) := by decide +kernel
theorem dL_law_278 : decode cL_law 278 = .ok (.iconst 0, 1) := by decide +kernel
theorem dL_law_279 : decode cL_law 279 = .ok (.ireturn, 1) := by decide +kernel
theorem dL_law_280 : decode cL_law 280 = .ok (.aload_n 1, 1) := by decide +kernel
theorem dL_law_281 : decode cL_law 281 = .ok (.invokevirtual 46, 3) := by decide +kernel
theorem dL_law_284 : decode cL_law 284 = .ok (.aload_n 2, 1) := by decide +kernel
theorem dL_law_285 : decode cL_law 285 = .ok (.invokevirtual 49, 3) := by decide +kernel
theorem dL_law_288 : decode cL_law 288 = .ok (.if_icmp .eq 348, 3) := by decide +kernel
theorem dL_law_291 : decode cL_law 291 = .ok (.iconst 0, 1) := by decide +kernel
theorem dL_law_292 : decode cL_law 292 = .ok (.ireturn, 1) := by decide +kernel
theorem dL_law_293 : decode cL_law 293 = .ok (.aload_n 1, 1) := by decide +kernel
theorem dL_law_294 : decode cL_law 294 = .ok (.invokevirtual 50, 3) := by decide +kernel
theorem dL_law_297 : decode cL_law 297 = .ok (.aload_n 2, 1) := by decide +kernel
theorem dL_law_298 : decode cL_law 298 = .ok (.invokevirtual 53, 3) := by decide +kernel
theorem dL_law_301 : decode cL_law 301 = .ok (.if_icmp .eq 335, 3) := by decide +kernel
theorem dL_law_304 : decode cL_law 304 = .ok (.iconst 0, 1) := by decide +kernel
theorem dL_law_305 : decode cL_law 305 = .ok (.ireturn, 1) := by decide +kernel
theorem dL_law_306 : decode cL_law 306 = .ok (.aload_n 1, 1) := by decide +kernel
theorem dL_law_307 : decode cL_law 307 = .ok (.invokevirtual 54, 3) := by decide +kernel
theorem dL_law_310 : decode cL_law 310 = .ok (.aload_n 2, 1) := by decide +kernel
theorem dL_law_311 : decode cL_law 311 = .ok (.invokevirtual 57, 3) := by decide +kernel
theorem dL_law_314 : decode cL_law 314 = .ok (.if_icmp .eq 322, 3) := by decide +kernel
theorem dL_law_317 : decode cL_law 317 = .ok (.iconst 0, 1) := by decide +kernel
theorem dL_law_318 : decode cL_law 318 = .ok (.ireturn, 1) := by decide +kernel
theorem dL_law_319 : decode cL_law 319 = .ok (.aload_n 1, 1) := by decide +kernel
theorem dL_law_320 : decode cL_law 320 = .ok (.aload_n 0, 1) := by decide +kernel
theorem dL_law_321 : decode cL_law 321 = .ok (.iload 4, 2) := by decide +kernel
theorem dL_law_323 : decode cL_law 323 = .ok (.iconst 1, 1) := by decide +kernel
theorem dL_law_324 : decode cL_law 324 = .ok (.iadd, 1) := by decide +kernel
theorem dL_law_325 : decode cL_law 325 = .ok (.iaload, 1) := by decide +kernel
theorem dL_law_326 : decode cL_law 326 = .ok (.aload_n 0, 1) := by decide +kernel
theorem dL_law_327 : decode cL_law 327 = .ok (.iload 4, 2) := by decide +kernel
theorem dL_law_329 : decode cL_law 329 = .ok (.iconst 2, 1) := by decide +kernel
theorem dL_law_330 : decode cL_law 330 = .ok (.iadd, 1) := by decide +kernel
theorem dL_law_331 : decode cL_law 331 = .ok (.iaload, 1) := by decide +kernel
theorem dL_law_332 : decode cL_law 332 = .ok (.invokevirtual 58, 3) := by decide +kernel
theorem dL_law_335 : decode cL_law 335 = .ok (.aload_n 2, 1) := by decide +kernel
theorem dL_law_336 : decode cL_law 336 = .ok (.aload_n 0, 1) := by decide +kernel
theorem dL_law_337 : decode cL_law 337 = .ok (.iload 4, 2) := by decide +kernel
theorem dL_law_339 : decode cL_law 339 = .ok (.iconst 1, 1) := by decide +kernel
theorem dL_law_340 : decode cL_law 340 = .ok (.iadd, 1) := by decide +kernel
theorem dL_law_341 : decode cL_law 341 = .ok (.iaload, 1) := by decide +kernel
theorem dL_law_342 : decode cL_law 342 = .ok (.aload_n 0, 1) := by decide +kernel
theorem dL_law_343 : decode cL_law 343 = .ok (.iload 4, 2) := by decide +kernel
theorem dL_law_345 : decode cL_law 345 = .ok (.iconst 2, 1) := by decide +kernel
theorem dL_law_346 : decode cL_law 346 = .ok (.iadd, 1) := by decide +kernel
theorem dL_law_347 : decode cL_law 347 = .ok (.iaload, 1) := by decide +kernel
theorem dL_law_348 : decode cL_law 348 = .ok (.invokevirtual 61, 3) := by decide +kernel
theorem dL_law_351 : decode cL_law 351 = .ok (.if_icmp .eq 285, 3) := by decide +kernel
theorem dL_law_354 : decode cL_law 354 = .ok (.iconst 0, 1) := by decide +kernel
theorem dL_law_355 : decode cL_law 355 = .ok (.ireturn, 1) := by decide +kernel
theorem dL_law_356 : decode cL_law 356 = .ok (.aload_n 1, 1) := by decide +kernel
theorem dL_law_357 : decode cL_law 357 = .ok (.aload_n 0, 1) := by decide +kernel
theorem dL_law_358 : decode cL_law 358 = .ok (.iload 4, 2) := by decide +kernel
theorem dL_law_360 : decode cL_law 360 = .ok (.iconst 1, 1) := by decide +kernel
theorem dL_law_361 : decode cL_law 361 = .ok (.iadd, 1) := by decide +kernel
theorem dL_law_362 : decode cL_law 362 = .ok (.iaload, 1) := by decide +kernel
theorem dL_law_363 : decode cL_law 363 = .ok (.invokevirtual 62, 3) := by decide +kernel
theorem dL_law_366 : decode cL_law 366 = .ok (.aload_n 2, 1) := by decide +kernel
theorem dL_law_367 : decode cL_law 367 = .ok (.aload_n 0, 1) := by decide +kernel
theorem dL_law_368 : decode cL_law 368 = .ok (.iload 4, 2) := by decide +kernel
theorem dL_law_370 : decode cL_law 370 = .ok (.iconst 1, 1) := by decide +kernel
theorem dL_law_371 : decode cL_law 371 = .ok (.iadd, 1) := by decide +kernel
theorem dL_law_372 : decode cL_law 372 = .ok (.iaload, 1) := by decide +kernel
theorem dL_law_373 : decode cL_law 373 = .ok (.invokevirtual 65, 3) := by decide +kernel
theorem dL_law_376 : decode cL_law 376 = .ok (.if_icmp .eq 260, 3) := by decide +kernel
theorem dL_law_379 : decode cL_law 379 = .ok (.iconst 0, 1) := by decide +kernel
theorem dL_law_380 : decode cL_law 380 = .ok (.ireturn, 1) := by decide +kernel
theorem dL_law_381 : decode cL_law 381 = .ok (.aload_n 1, 1) := by decide +kernel
theorem dL_law_382 : decode cL_law 382 = .ok (.aload_n 0, 1) := by decide +kernel
theorem dL_law_383 : decode cL_law 383 = .ok (.iload 4, 2) := by decide +kernel
theorem dL_law_385 : decode cL_law 385 = .ok (.iconst 1, 1) := by decide +kernel
theorem dL_law_386 : decode cL_law 386 = .ok (.iadd, 1) := by decide +kernel
theorem dL_law_387 : decode cL_law 387 = .ok (.iaload, 1) := by decide +kernel
theorem dL_law_388 : decode cL_law 388 = .ok (.aload_n 3, 1) := by decide +kernel
theorem dL_law_389 : decode cL_law 389 = .ok (.invokestatic 66, 3) := by decide +kernel
theorem dL_law_392 : decode cL_law 392 = .ok (.istore 5, 2) := by decide +kernel
theorem dL_law_394 : decode cL_law 394 = .ok (.aload_n 2, 1) := by decide +kernel
theorem dL_law_395 : decode cL_law 395 = .ok (.aload_n 0, 1) := by decide +kernel
theorem dL_law_396 : decode cL_law 396 = .ok (.iload 4, 2) := by decide +kernel
theorem dL_law_398 : decode cL_law 398 = .ok (.iconst 1, 1) := by decide +kernel
theorem dL_law_399 : decode cL_law 399 = .ok (.iadd, 1) := by decide +kernel
theorem dL_law_400 : decode cL_law 400 = .ok (.iaload, 1) := by decide +kernel
theorem dL_law_401 : decode cL_law 401 = .ok (.invokevirtual 69, 3) := by decide +kernel
theorem dL_law_404 : decode cL_law 404 = .ok (.istore 6, 2) := by decide +kernel
theorem dL_law_406 : decode cL_law 406 = .ok (.aload_n 2, 1) := by decide +kernel
theorem dL_law_407 : decode cL_law 407 = .ok (.invokevirtual 70, 3) := by decide +kernel
theorem dL_law_410 : decode cL_law 410 = .ok (.iload 5, 2) := by decide +kernel
theorem dL_law_412 : decode cL_law 412 = .ok (.if_icmp .eq 5, 3) := by decide +kernel
theorem dL_law_415 : decode cL_law 415 = .ok (.iconst 0, 1) := by decide +kernel
theorem dL_law_416 : decode cL_law 416 = .ok (.ireturn, 1) := by decide +kernel
theorem dL_law_417 : decode cL_law 417 = .ok (.iload 5, 2) := by decide +kernel
theorem dL_law_419 : decode cL_law 419 = .ok (.ifCond .ne 15, 3) := by decide +kernel
theorem dL_law_422 : decode cL_law 422 = .ok (.aload_n 3, 1) := by decide +kernel
theorem dL_law_423 : decode cL_law 423 = .ok (.iconst 0, 1) := by decide +kernel
theorem dL_law_424 : decode cL_law 424 = .ok (.laload, 1) := by decide +kernel
theorem dL_law_425 : decode cL_law 425 = .ok (.iload 6, 2) := by decide +kernel
theorem dL_law_427 : decode cL_law 427 = .ok (.i2l, 1) := by decide +kernel
theorem dL_law_428 : decode cL_law 428 = .ok (.lcmp, 1) := by decide +kernel
theorem dL_law_429 : decode cL_law 429 = .ok (.ifCond .eq 5, 3) := by decide +kernel
theorem dL_law_432 : decode cL_law 432 = .ok (.iconst 0, 1) := by decide +kernel
theorem dL_law_433 : decode cL_law 433 = .ok (.ireturn, 1) := by decide +kernel
theorem dL_law_434 : decode cL_law 434 = .ok (.goto 202, 3) := by decide +kernel
theorem dL_law_437 : decode cL_law 437 = .ok (.aload_n 1, 1) := by decide +kernel
theorem dL_law_438 : decode cL_law 438 = .ok (.aload_n 0, 1) := by decide +kernel
theorem dL_law_439 : decode cL_law 439 = .ok (.iload 4, 2) := by decide +kernel
theorem dL_law_441 : decode cL_law 441 = .ok (.iconst 1, 1) := by decide +kernel
theorem dL_law_442 : decode cL_law 442 = .ok (.iadd, 1) := by decide +kernel
theorem dL_law_443 : decode cL_law 443 = .ok (.iaload, 1) := by decide +kernel
theorem dL_law_444 : decode cL_law 444 = .ok (.invokevirtual 73, 3) := by decide +kernel
theorem dL_law_447 : decode cL_law 447 = .ok (.aload_n 2, 1) := by decide +kernel
theorem dL_law_448 : decode cL_law 448 = .ok (.aload_n 0, 1) := by decide +kernel
theorem dL_law_449 : decode cL_law 449 = .ok (.iload 4, 2) := by decide +kernel
theorem dL_law_451 : decode cL_law 451 = .ok (.iconst 1, 1) := by decide +kernel
theorem dL_law_452 : decode cL_law 452 = .ok (.iadd, 1) := by decide +kernel
theorem dL_law_453 : decode cL_law 453 = .ok (.iaload, 1) := by decide +kernel
theorem dL_law_454 : decode cL_law 454 = .ok (.invokevirtual 76, 3) := by decide +kernel
theorem dL_law_457 : decode cL_law 457 = .ok (.if_icmp .eq 179, 3) := by decide +kernel
theorem dL_law_460 : decode cL_law 460 = .ok (.iconst 0, 1) := by decide +kernel
theorem dL_law_461 : decode cL_law 461 = .ok (.ireturn, 1) := by decide +kernel
theorem dL_law_462 : decode cL_law 462 = .ok (.aload_n 1, 1) := by decide +kernel
theorem dL_law_463 : decode cL_law 463 = .ok (.aload_n 0, 1) := by decide +kernel
theorem dL_law_464 : decode cL_law 464 = .ok (.iload 4, 2) := by decide +kernel
theorem dL_law_466 : decode cL_law 466 = .ok (.iconst 1, 1) := by decide +kernel
theorem dL_law_467 : decode cL_law 467 = .ok (.iadd, 1) := by decide +kernel
theorem dL_law_468 : decode cL_law 468 = .ok (.iaload, 1) := by decide +kernel
theorem dL_law_469 : decode cL_law 469 = .ok (.aload_n 0, 1) := by decide +kernel
theorem dL_law_470 : decode cL_law 470 = .ok (.iload 4, 2) := by decide +kernel
theorem dL_law_472 : decode cL_law 472 = .ok (.iconst 2, 1) := by decide +kernel
theorem dL_law_473 : decode cL_law 473 = .ok (.iadd, 1) := by decide +kernel
theorem dL_law_474 : decode cL_law 474 = .ok (.iaload, 1) := by decide +kernel
theorem dL_law_475 : decode cL_law 475 = .ok (.invokevirtual 77, 3) := by decide +kernel
theorem dL_law_478 : decode cL_law 478 = .ok (.aload_n 2, 1) := by decide +kernel
theorem dL_law_479 : decode cL_law 479 = .ok (.aload_n 0, 1) := by decide +kernel
theorem dL_law_480 : decode cL_law 480 = .ok (.iload 4, 2) := by decide +kernel
theorem dL_law_482 : decode cL_law 482 = .ok (.iconst 1, 1) := by decide +kernel
theorem dL_law_483 : decode cL_law 483 = .ok (.iadd, 1) := by decide +kernel
theorem dL_law_484 : decode cL_law 484 = .ok (.iaload, 1) := by decide +kernel
theorem dL_law_485 : decode cL_law 485 = .ok (.aload_n 0, 1) := by decide +kernel
theorem dL_law_486 : decode cL_law 486 = .ok (.iload 4, 2) := by decide +kernel
theorem dL_law_488 : decode cL_law 488 = .ok (.iconst 2, 1) := by decide +kernel
theorem dL_law_489 : decode cL_law 489 = .ok (.iadd, 1) := by decide +kernel
theorem dL_law_490 : decode cL_law 490 = .ok (.iaload, 1) := by decide +kernel
theorem dL_law_491 : decode cL_law 491 = .ok (.invokevirtual 80, 3) := by decide +kernel
theorem dL_law_494 : decode cL_law 494 = .ok (.if_icmp .eq 142, 3) := by decide +kernel
theorem dL_law_497 : decode cL_law 497 = .ok (.iconst 0, 1) := by decide +kernel
theorem dL_law_498 : decode cL_law 498 = .ok (.ireturn, 1) := by decide +kernel
theorem dL_law_499 : decode cL_law 499 = .ok (.aload_n 1, 1) := by decide +kernel
theorem dL_law_500 : decode cL_law 500 = .ok (.aload_n 0, 1) := by decide +kernel
theorem dL_law_501 : decode cL_law 501 = .ok (.iload 4, 2) := by decide +kernel
theorem dL_law_503 : decode cL_law 503 = .ok (.iconst 1, 1) := by decide +kernel
theorem dL_law_504 : decode cL_law 504 = .ok (.iadd, 1) := by decide +kernel
theorem dL_law_505 : decode cL_law 505 = .ok (.iaload, 1) := by decide +kernel
theorem dL_law_506 : decode cL_law 506 = .ok (.invokevirtual 81, 3) := by decide +kernel
theorem dL_law_509 : decode cL_law 509 = .ok (.aload_n 2, 1) := by decide +kernel
theorem dL_law_510 : decode cL_law 510 = .ok (.aload_n 0, 1) := by decide +kernel
theorem dL_law_511 : decode cL_law 511 = .ok (.iload 4, 2) := by decide +kernel
theorem dL_law_513 : decode cL_law 513 = .ok (.iconst 1, 1) := by decide +kernel
theorem dL_law_514 : decode cL_law 514 = .ok (.iadd, 1) := by decide +kernel
theorem dL_law_515 : decode cL_law 515 = .ok (.iaload, 1) := by decide +kernel
theorem dL_law_516 : decode cL_law 516 = .ok (.invokevirtual 84, 3) := by decide +kernel
theorem dL_law_519 : decode cL_law 519 = .ok (.if_icmp .eq 117, 3) := by decide +kernel
theorem dL_law_522 : decode cL_law 522 = .ok (.iconst 0, 1) := by decide +kernel
theorem dL_law_523 : decode cL_law 523 = .ok (.ireturn, 1) := by decide +kernel
theorem dL_law_524 : decode cL_law 524 = .ok (.aload_n 1, 1) := by decide +kernel
theorem dL_law_525 : decode cL_law 525 = .ok (.aload_n 0, 1) := by decide +kernel
theorem dL_law_526 : decode cL_law 526 = .ok (.iload 4, 2) := by decide +kernel
theorem dL_law_528 : decode cL_law 528 = .ok (.iconst 1, 1) := by decide +kernel
theorem dL_law_529 : decode cL_law 529 = .ok (.iadd, 1) := by decide +kernel
theorem dL_law_530 : decode cL_law 530 = .ok (.iaload, 1) := by decide +kernel
theorem dL_law_531 : decode cL_law 531 = .ok (.invokevirtual 85, 3) := by decide +kernel
theorem dL_law_534 : decode cL_law 534 = .ok (.aload_n 2, 1) := by decide +kernel
theorem dL_law_535 : decode cL_law 535 = .ok (.aload_n 0, 1) := by decide +kernel
theorem dL_law_536 : decode cL_law 536 = .ok (.iload 4, 2) := by decide +kernel
theorem dL_law_538 : decode cL_law 538 = .ok (.iconst 1, 1) := by decide +kernel
theorem dL_law_539 : decode cL_law 539 = .ok (.iadd, 1) := by decide +kernel
theorem dL_law_540 : decode cL_law 540 = .ok (.iaload, 1) := by decide +kernel
theorem dL_law_541 : decode cL_law 541 = .ok (.invokevirtual 88, 3) := by decide +kernel
theorem dL_law_544 : decode cL_law 544 = .ok (.if_icmp .eq 92, 3) := by decide +kernel
theorem dL_law_547 : decode cL_law 547 = .ok (.iconst 0, 1) := by decide +kernel
theorem dL_law_548 : decode cL_law 548 = .ok (.ireturn, 1) := by decide +kernel
theorem dL_law_549 : decode cL_law 549 = .ok (.aload_n 1, 1) := by decide +kernel
theorem dL_law_550 : decode cL_law 550 = .ok (.aload_n 0, 1) := by decide +kernel
theorem dL_law_551 : decode cL_law 551 = .ok (.iload 4, 2) := by decide +kernel
theorem dL_law_553 : decode cL_law 553 = .ok (.iconst 1, 1) := by decide +kernel
theorem dL_law_554 : decode cL_law 554 = .ok (.iadd, 1) := by decide +kernel
theorem dL_law_555 : decode cL_law 555 = .ok (.iaload, 1) := by decide +kernel
theorem dL_law_556 : decode cL_law 556 = .ok (.aload_n 0, 1) := by decide +kernel
theorem dL_law_557 : decode cL_law 557 = .ok (.iload 4, 2) := by decide +kernel
theorem dL_law_559 : decode cL_law 559 = .ok (.iconst 2, 1) := by decide +kernel
theorem dL_law_560 : decode cL_law 560 = .ok (.iadd, 1) := by decide +kernel
theorem dL_law_561 : decode cL_law 561 = .ok (.iaload, 1) := by decide +kernel
theorem dL_law_562 : decode cL_law 562 = .ok (.invokevirtual 89, 3) := by decide +kernel
theorem dL_law_565 : decode cL_law 565 = .ok (.aload_n 2, 1) := by decide +kernel
theorem dL_law_566 : decode cL_law 566 = .ok (.aload_n 0, 1) := by decide +kernel
theorem dL_law_567 : decode cL_law 567 = .ok (.iload 4, 2) := by decide +kernel
theorem dL_law_569 : decode cL_law 569 = .ok (.iconst 1, 1) := by decide +kernel
theorem dL_law_570 : decode cL_law 570 = .ok (.iadd, 1) := by decide +kernel
theorem dL_law_571 : decode cL_law 571 = .ok (.iaload, 1) := by decide +kernel
theorem dL_law_572 : decode cL_law 572 = .ok (.aload_n 0, 1) := by decide +kernel
theorem dL_law_573 : decode cL_law 573 = .ok (.iload 4, 2) := by decide +kernel
theorem dL_law_575 : decode cL_law 575 = .ok (.iconst 2, 1) := by decide +kernel
theorem dL_law_576 : decode cL_law 576 = .ok (.iadd, 1) := by decide +kernel
theorem dL_law_577 : decode cL_law 577 = .ok (.iaload, 1) := by decide +kernel
theorem dL_law_578 : decode cL_law 578 = .ok (.invokevirtual 92, 3) := by decide +kernel
theorem dL_law_581 : decode cL_law 581 = .ok (.if_icmp .eq 55, 3) := by decide +kernel
theorem dL_law_584 : decode cL_law 584 = .ok (.iconst 0, 1) := by decide +kernel
theorem dL_law_585 : decode cL_law 585 = .ok (.ireturn, 1) := by decide +kernel
theorem dL_law_586 : decode cL_law 586 = .ok (.aload_n 1, 1) := by decide +kernel
theorem dL_law_587 : decode cL_law 587 = .ok (.aload_n 0, 1) := by decide +kernel
theorem dL_law_588 : decode cL_law 588 = .ok (.iload 4, 2) := by decide +kernel
theorem dL_law_590 : decode cL_law 590 = .ok (.iconst 1, 1) := by decide +kernel
theorem dL_law_591 : decode cL_law 591 = .ok (.iadd, 1) := by decide +kernel
theorem dL_law_592 : decode cL_law 592 = .ok (.iaload, 1) := by decide +kernel
theorem dL_law_593 : decode cL_law 593 = .ok (.invokevirtual 93, 3) := by decide +kernel
theorem dL_law_596 : decode cL_law 596 = .ok (.aload_n 2, 1) := by decide +kernel
theorem dL_law_597 : decode cL_law 597 = .ok (.aload_n 0, 1) := by decide +kernel
theorem dL_law_598 : decode cL_law 598 = .ok (.iload 4, 2) := by decide +kernel
theorem dL_law_600 : decode cL_law 600 = .ok (.iconst 1, 1) := by decide +kernel
theorem dL_law_601 : decode cL_law 601 = .ok (.iadd, 1) := by decide +kernel
theorem dL_law_602 : decode cL_law 602 = .ok (.iaload, 1) := by decide +kernel
theorem dL_law_603 : decode cL_law 603 = .ok (.invokevirtual 96, 3) := by decide +kernel
theorem dL_law_606 : decode cL_law 606 = .ok (.if_icmp .eq 30, 3) := by decide +kernel
theorem dL_law_609 : decode cL_law 609 = .ok (.iconst 0, 1) := by decide +kernel
theorem dL_law_610 : decode cL_law 610 = .ok (.ireturn, 1) := by decide +kernel
theorem dL_law_611 : decode cL_law 611 = .ok (.aload_n 1, 1) := by decide +kernel
theorem dL_law_612 : decode cL_law 612 = .ok (.aload_n 0, 1) := by decide +kernel
theorem dL_law_613 : decode cL_law 613 = .ok (.iload 4, 2) := by decide +kernel
theorem dL_law_615 : decode cL_law 615 = .ok (.iconst 1, 1) := by decide +kernel
theorem dL_law_616 : decode cL_law 616 = .ok (.iadd, 1) := by decide +kernel
theorem dL_law_617 : decode cL_law 617 = .ok (.iaload, 1) := by decide +kernel
theorem dL_law_618 : decode cL_law 618 = .ok (.invokevirtual 97, 3) := by decide +kernel
theorem dL_law_621 : decode cL_law 621 = .ok (.aload_n 2, 1) := by decide +kernel
theorem dL_law_622 : decode cL_law 622 = .ok (.aload_n 0, 1) := by decide +kernel
theorem dL_law_623 : decode cL_law 623 = .ok (.iload 4, 2) := by decide +kernel
theorem dL_law_625 : decode cL_law 625 = .ok (.iconst 1, 1) := by decide +kernel
theorem dL_law_626 : decode cL_law 626 = .ok (.iadd, 1) := by decide +kernel
theorem dL_law_627 : decode cL_law 627 = .ok (.iaload, 1) := by decide +kernel
theorem dL_law_628 : decode cL_law 628 = .ok (.invokevirtual 100, 3) := by decide +kernel
theorem dL_law_631 : decode cL_law 631 = .ok (.if_icmp .eq 5, 3) := by decide +kernel
theorem dL_law_634 : decode cL_law 634 = .ok (.iconst 0, 1) := by decide +kernel
theorem dL_law_635 : decode cL_law 635 = .ok (.ireturn, 1) := by decide +kernel
theorem dL_law_636 : decode cL_law 636 = .ok (.iinc 4 6, 3) := by decide +kernel
theorem dL_law_639 : decode cL_law 639 = .ok (.goto (-606), 3) := by decide +kernel
theorem dL_law_642 : decode cL_law 642 = .ok (.iconst 1, 1) := by decide +kernel
theorem dL_law_643 : decode cL_law 643 = .ok (.ireturn, 1) := by decide +kernel
