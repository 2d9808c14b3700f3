theorem dX13_init_56 : decode cX13_init 56 = .ok (.putfield 34, 3) := by decide +kernel
theorem dX13_init_59 : decode cX13_init 59 = .ok (.aload_n 0, 1) := by decide +kernel
theorem dX13_init_60 : decode cX13_init 60 = .ok (.ldc 37, 2) := by decide +kernel
theorem dX13_init_62 : decode cX13_init 62 = .ok (.newarray .int, 2) := by decide +kernel
theorem dX13_init_64 : decode cX13_init 64 = .ok (.putfield 38, 3) := by decide +kernel
theorem dX13_init_67 : decode cX13_init 67 = .ok (.aload_n 0, 1) := by decide +kernel
theorem dX13_init_68 : decode cX13_init 68 = .ok (.sipush 1560, 3) := by decide +kernel
theorem dX13_init_71 : decode cX13_init 71 = .ok (.newarray .int, 2) := by decide +kernel
theorem dX13_init_73 : decode cX13_init 73 = .ok (.putfield 41, 3) := by decide +kernel
theorem dX13_init_76 : decode cX13_init 76 = .ok (.aload_n 0, 1) := by decide +kernel
theorem dX13_init_77 : decode cX13_init 77 = .ok (.sipush 1900, 3) := by decide +kernel
theorem dX13_init_80 : decode cX13_init 80 = .ok (.newarray .byte, 2) := by decide +kernel
theorem dX13_init_82 : decode cX13_init 82 = .ok (.putfield 44, 3) := by decide +kernel
theorem dX13_init_85 : decode cX13_init 85 = .ok (.aload_n 0, 1) := by decide +kernel
theorem dX13_init_86 : decode cX13_init 86 = .ok (.sipush 1900, 3) := by decide +kernel
theorem dX13_init_89 : decode cX13_init 89 = .ok (.newarray .int, 2) := by decide +kernel
theorem dX13_init_91 : decode cX13_init 91 = .ok (.putfield 47, 3) := by decide +kernel
theorem dX13_init_94 : decode cX13_init 94 = .ok (.aload_n 0, 1) := by decide +kernel
theorem dX13_init_95 : decode cX13_init 95 = .ok (.sipush 1900, 3) := by decide +kernel
theorem dX13_init_98 : decode cX13_init 98 = .ok (.newarray .int, 2) := by decide +kernel
theorem dX13_init_100 : decode cX13_init 100 = .ok (.putfield 50, 3) := by decide +kernel
theorem dX13_init_103 : decode cX13_init 103 = .ok (.aload_n 0, 1) := by decide +kernel
theorem dX13_init_104 : decode cX13_init 104 = .ok (.sipush 2000, 3) := by decide +kernel
theorem dX13_init_107 : decode cX13_init 107 = .ok (.newarray .int, 2) := by decide +kernel
theorem dX13_init_109 : decode cX13_init 109 = .ok (.putfield 53, 3) := by decide +kernel
theorem dX13_init_112 : decode cX13_init 112 = .ok (.aload_n 0, 1) := by decide +kernel
theorem dX13_init_113 : decode cX13_init 113 = .ok (.sipush 256, 3) := by decide +kernel
theorem dX13_init_116 : decode cX13_init 116 = .ok (.newarray .int, 2) := by decide +kernel
theorem dX13_init_118 : decode cX13_init 118 = .ok (.putfield 56, 3) := by decide +kernel
theorem dX13_init_121 : decode cX13_init 121 = .ok (.aload_n 0, 1) := by decide +kernel
theorem dX13_init_122 : decode cX13_init 122 = .ok (.sipush 256, 3) := by decide +kernel
theorem dX13_init_125 : decode cX13_init 125 = .ok (.newarray .boolean, 2) := by decide +kernel
theorem dX13_init_127 : decode cX13_init 127 = .ok (.putfield 59, 3) := by decide +kernel
theorem dX13_init_130 : decode cX13_init 130 = .ok (.aload_n 0, 1) := by decide +kernel
theorem dX13_init_131 : decode cX13_init 131 = .ok (.sipush 1560, 3) := by decide +kernel
theorem dX13_init_134 : decode cX13_init 134 = .ok (.newarray .int, 2) := by decide +kernel
theorem dX13_init_136 : decode cX13_init 136 = .ok (.putfield 63, 3) := by decide +kernel
theorem dX13_init_139 : decode cX13_init 139 = .ok (.aload_n 0, 1) := by decide +kernel
theorem dX13_init_140 : decode cX13_init 140 = .ok (.sipush 1560, 3) := by decide +kernel
theorem dX13_init_143 : decode cX13_init 143 = .ok (.newarray .int, 2) := by decide +kernel
theorem dX13_init_145 : decode cX13_init 145 = .ok (.putfield 66, 3) := by decide +kernel
theorem dX13_init_148 : decode cX13_init 148 = .ok (.aload_n 0, 1) := by decide +kernel
theorem dX13_init_149 : decode cX13_init 149 = .ok (.sipush 1560, 3) := by decide +kernel
theorem dX13_init_152 : decode cX13_init 152 = .ok (.newarray .int, 2) := by decide +kernel
theorem dX13_init_154 : decode cX13_init 154 = .ok (.putfield 69, 3) := by decide +kernel
theorem dX13_init_157 : decode cX13_init 157 = .ok (.aload_n 0, 1) := by decide +kernel
theorem dX13_init_158 : decode cX13_init 158 = .ok (.ldc 37, 2) := by decide +kernel
theorem dX13_init_160 : decode cX13_init 160 = .ok (.newarray .int, 2) := by decide +kernel
theorem dX13_init_162 : decode cX13_init 162 = .ok (.putfield 72, 3) := by decide +kernel
theorem dX13_init_165 : decode cX13_init 165 = .ok (.aload_n 0, 1) := by decide +kernel
theorem dX13_init_166 : decode cX13_init 166 = .ok (.sipush 600, 3) := by decide +kernel
theorem dX13_init_169 : decode cX13_init 169 = .ok (.newarray .long, 2) := by decide +kernel
theorem dX13_init_171 : decode cX13_init 171 = .ok (.putfield 75, 3) := by decide +kernel
theorem dX13_init_174 : decode cX13_init 174 = .ok (.aload_n 0, 1) := by decide +kernel
theorem dX13_init_175 : decode cX13_init 175 = .ok (.sipush 600, 3) := by decide +kernel
theorem dX13_init_178 : decode cX13_init 178 = .ok (.newarray .int, 2) := by decide +kernel
theorem dX13_init_180 : decode cX13_init 180 = .ok (.putfield 79, 3) := by decide +kernel
theorem dX13_init_183 : decode cX13_init 183 = .ok (.aload_n 0, 1) := by decide +kernel
theorem dX13_init_184 : decode cX13_init 184 = .ok (.sipush 300, 3) := by decide +kernel
theorem dX13_init_187 : decode cX13_init 187 = .ok (.newarray .long, 2) := by decide +kernel
theorem dX13_init_189 : decode cX13_init 189 = .ok (.putfield 82, 3) := by decide +kernel
theorem dX13_init_192 : decode cX13_init 192 = .ok (.aload_n 0, 1) := by decide +kernel
theorem dX13_init_193 : decode cX13_init 193 = .ok (.sipush 1560, 3) := by decide +kernel
theorem dX13_init_196 : decode cX13_init 196 = .ok (.newarray .int, 2) := by decide +kernel
theorem dX13_init_198 : decode cX13_init 198 = .ok (.putfield 85, 3) := by decide +kernel
theorem dX13_init_201 : decode cX13_init 201 = .ok (.aload_n 0, 1) := by decide +kernel
theorem dX13_init_202 : decode cX13_init 202 = .ok (.sipush 132, 3) := by decide +kernel
theorem dX13_init_205 : decode cX13_init 205 = .ok (.newarray .int, 2) := by decide +kernel
theorem dX13_init_207 : decode cX13_init 207 = .ok (.putfield 88, 3) := by decide +kernel
theorem dX13_init_210 : decode cX13_init 210 = .ok (.aload_n 0, 1) := by decide +kernel
theorem dX13_init_211 : decode cX13_init 211 = .ok (.sipush 132, 3) := by decide +kernel
theorem dX13_init_214 : decode cX13_init 214 = .ok (.newarray .int, 2) := by decide +kernel
theorem dX13_init_216 : decode cX13_init 216 = .ok (.putfield 91, 3) := by decide +kernel
theorem dX13_init_219 : decode cX13_init 219 = .ok (.aload_n 0, 1) := by decide +kernel
theorem dX13_init_220 : decode cX13_init 220 = .ok (.bipush 6, 2) := by decide +kernel
theorem dX13_init_222 : decode cX13_init 222 = .ok (.newarray .int, 2) := by decide +kernel
theorem dX13_init_224 : decode cX13_init 224 = .ok (.putfield 94, 3) := by decide +kernel
theorem dX13_init_227 : decode cX13_init 227 = .ok (.aload_n 0, 1) := by decide +kernel
theorem dX13_init_228 : decode cX13_init 228 = .ok (.sipush 257, 3) := by decide +kernel
theorem dX13_init_231 : decode cX13_init 231 = .ok (.newarray .int, 2) := by decide +kernel
theorem dX13_init_233 : decode cX13_init 233 = .ok (.putfield 97, 3) := by decide +kernel
theorem dX13_init_236 : decode cX13_init 236 = .ok (.aload_n 0, 1) := by decide +kernel
theorem dX13_init_237 : decode cX13_init 237 = .ok (.sipush 1900, 3) := by decide +kernel
theorem dX13_init_240 : decode cX13_init 240 = .ok (.newarray .byte, 2) := by decide +kernel
theorem dX13_init_242 : decode cX13_init 242 = .ok (.putfield 100, 3) := by decide +kernel
theorem dX13_init_245 : decode cX13_init 245 = .ok (.aload_n 0, 1) := by decide +kernel
theorem dX13_init_246 : decode cX13_init 246 = .ok (.sipush 3000, 3) := by decide +kernel
theorem dX13_init_249 : decode cX13_init 249 = .ok (.newarray .byte, 2) := by decide +kernel
theorem dX13_init_251 : decode cX13_init 251 = .ok (.putfield 103, 3) := by decide +kernel
theorem dX13_init_254 : decode cX13_init 254 = .ok (.aload_n 0, 1) := by decide +kernel
theorem dX13_init_255 : decode cX13_init 255 = .ok (.iconst 0, 1) := by decide +kernel
theorem dX13_init_256 : decode cX13_init 256 = .ok (.putfield 1, 3) := by decide +kernel
theorem dX13_init_259 : decode cX13_init 259 = .ok (.aload_n 0, 1) := by decide +kernel
theorem dX13_init_260 : decode cX13_init 260 = .ok (.iload_n 1, 1) := by decide +kernel
theorem dX13_init_261 : decode cX13_init 261 = .ok (.iconst 1, 1) := by decide +kernel
theorem dX13_init_262 : decode cX13_init 262 = .ok (.if_icmp .ge 7, 3) := by decide +kernel
theorem dX13_init_265 : decode cX13_init 265 = .ok (.iconst 1, 1) := by decide +kernel
theorem dX13_init_266 : decode cX13_init 266 = .ok (.goto 15, 3) := by decide +kernel
theorem dX13_init_269 : decode cX13_init 269 = .ok (.iload_n 1, 1) := by decide +kernel
theorem dX13_init_270 : decode cX13_init 270 = .ok (.bipush 9, 2) := by decide +kernel
theorem dX13_init_272 : decode cX13_init 272 = .ok (.if_icmp .le 8, 3) := by decide +kernel
theorem dX13_init_275 : decode cX13_init 275 = .ok (.bipush 9, 2) := by decide +kernel
theorem dX13_init_277 : decode cX13_init 277 = .ok (.goto 4, 3) := by decide +kernel
theorem dX13_init_280 : decode cX13_init 280 = .ok (.iload_n 1, 1) := by decide +kernel
theorem dX13_init_281 : decode cX13_init 281 = .ok (.putfield 106, 3) := by decide +kernel
theorem dX13_init_284 : decode cX13_init 284 = .ok (.return_, 1) := by decide +kernel
theorem dX13_feed_0 : decode cX13_feed 0 = .ok (.aload_n 0, 1) := by decide +kernel
theorem dX13_feed_1 : decode cX13_feed 1 = .ok (.iconst 0, 1) := by decide +kernel
theorem dX13_feed_2 : decode cX13_feed 2 = .ok (.putfield 1, 3) := by decide +kernel
theorem dX13_feed_5 : decode cX13_feed 5 = .ok (.aload_n 0, 1) := by decide +kernel
theorem dX13_feed_6 : decode cX13_feed 6 = .ok (.getfield 109, 3) := by decide +kernel
theorem dX13_feed_9 : decode cX13_feed 9 = .ok (.bipush 20, 2) := by decide +kernel
theorem dX13_feed_11 : decode cX13_feed 11 = .ok (.iadd, 1) := by decide +kernel
theorem dX13_feed_12 : decode cX13_feed 12 = .ok (.sipush 1500, 3) := by decide +kernel
theorem dX13_feed_15 : decode cX13_feed 15 = .ok (.if_icmp .le 6, 3) := by decide +kernel
theorem dX13_feed_18 : decode cX13_feed 18 = .ok (.bipush (-3), 2) := by decide +kernel
theorem dX13_feed_20 : decode cX13_feed 20 = .ok (.ireturn, 1) := by decide +kernel
theorem dX13_feed_21 : decode cX13_feed 21 = .ok (.iconst 0, 1) := by decide +kernel
theorem dX13_feed_22 : decode cX13_feed 22 = .ok (.istore 6, 2) := by decide +kernel
theorem dX13_feed_24 : decode cX13_feed 24 = .ok (.iload 6, 2) := by decide +kernel
theorem dX13_feed_26 : decode cX13_feed 26 = .ok (.bipush 20, 2) := by decide +kernel
theorem dX13_feed_28 : decode cX13_feed 28 = .ok (.if_icmp .ge 83, 3) := by decide +kernel
theorem dX13_feed_31 : decode cX13_feed 31 = .ok (.iload 6, 2) := by decide +kernel
theorem dX13_feed_33 : decode cX13_feed 33 = .ok (.iconst 4, 1) := by decide +kernel
theorem dX13_feed_34 : decode cX13_feed 34 = .ok (.if_icmp .ge 7, 3) := by decide +kernel
theorem dX13_feed_37 : decode cX13_feed 37 = .ok (.iload_n 1, 1) := by decide +kernel
theorem dX13_feed_38 : decode cX13_feed 38 = .ok (.goto 39, 3) := by decide +kernel
theorem dX13_feed_41 : decode cX13_feed 41 = .ok (.iload 6, 2) := by decide +kernel
theorem dX13_feed_43 : decode cX13_feed 43 = .ok (.bipush 8, 2) := by decide +kernel
theorem dX13_feed_45 : decode cX13_feed 45 = .ok (.if_icmp .ge 7, 3) := by decide +kernel
theorem dX13_feed_48 : decode cX13_feed 48 = .ok (.iload_n 2, 1) := by decide +kernel
theorem dX13_feed_49 : decode cX13_feed 49 = .ok (.goto 28, 3) := by decide +kernel
theorem dX13_feed_52 : decode cX13_feed 52 = .ok (.iload 6, 2) := by decide +kernel
theorem dX13_feed_54 : decode cX13_feed 54 = .ok (.bipush 12, 2) := by decide +kernel
theorem dX13_feed_56 : decode cX13_feed 56 = .ok (.if_icmp .ge 7, 3) := by decide +kernel
theorem dX13_feed_59 : decode cX13_feed 59 = .ok (.iload_n 3, 1) := by decide +kernel
theorem dX13_feed_60 : decode cX13_feed 60 = .ok (.goto 17, 3) := by decide +kernel
theorem dX13_feed_63 : decode cX13_feed 63 = .ok (.iload 6, 2) := by decide +kernel
theorem dX13_feed_65 : decode cX13_feed 65 = .ok (.bipush 16, 2) := by decide +kernel
theorem dX13_feed_67 : decode cX13_feed 67 = .ok (.if_icmp .ge 8, 3) := by decide +kernel
theorem dX13_feed_70 : decode cX13_feed 70 = .ok (.iload 4, 2) := by decide +kernel
theorem dX13_feed_72 : decode cX13_feed 72 = .ok (.goto 5, 3) := by decide +kernel
theorem dX13_feed_75 : decode cX13_feed 75 = .ok (.iload 5, 2) := by decide +kernel
theorem dX13_feed_77 : decode cX13_feed 77 = .ok (.istore 7, 2) := by decide +kernel
theorem dX13_feed_79 : decode cX13_feed 79 = .ok (.aload_n 0, 1) := by decide +kernel
theorem dX13_feed_80 : decode cX13_feed 80 = .ok (.getfield 20, 3) := by decide +kernel
theorem dX13_feed_83 : decode cX13_feed 83 = .ok (.aload_n 0, 1) := by decide +kernel
theorem dX13_feed_84 : decode cX13_feed 84 = .ok (.getfield 109, 3) := by decide +kernel
theorem dX13_feed_87 : decode cX13_feed 87 = .ok (.iload 6, 2) := by decide +kernel
theorem dX13_feed_89 : decode cX13_feed 89 = .ok (.iadd, 1) := by decide +kernel
theorem dX13_feed_90 : decode cX13_feed 90 = .ok (.iload 7, 2) := by decide +kernel
theorem dX13_feed_92 : decode cX13_feed 92 = .ok (.bipush 24, 2) := by decide +kernel
theorem dX13_feed_94 : decode cX13_feed 94 = .ok (.bipush 8, 2) := by decide +kernel
theorem dX13_feed_96 : decode cX13_feed 96 = .ok (.iload 6, 2) := by decide +kernel
theorem dX13_feed_98 : decode cX13_feed 98 = .ok (.iconst 4, 1) := by decide +kernel
theorem dX13_feed_99 : decode cX13_feed 99 = .ok (.irem, 1) := by decide +kernel
theorem dX13_feed_100 : decode cX13_feed 100 = .ok (.imul, 1) := by decide +kernel
theorem dX13_feed_101 : decode cX13_feed 101 = .ok (.isub, 1) := by decide +kernel
theorem dX13_feed_102 : decode cX13_feed 102 = .ok (.iushr, 1) := by decide +kernel
theorem dX13_feed_103 : decode cX13_feed 103 = .ok (.i2b, 1) := by decide +kernel
theorem dX13_feed_104 : decode cX13_feed 104 = .ok (.bastore, 1) := by decide +kernel
theorem dX13_feed_105 : decode cX13_feed 105 = .ok (.iinc 6 1, 3) := by decide +kernel
theorem dX13_feed_108 : decode cX13_feed 108 = .ok (.goto (-84), 3) := by decide +kernel
theorem dX13_feed_111 : decode cX13_feed 111 = .ok (.aload_n 0, 1) := by decide +kernel
theorem dX13_feed_112 : decode cX13_feed 112 = .ok (.aload_n 0, 1) := by decide +kernel
theorem dX13_feed_113 : decode cX13_feed 113 = .ok (.getfield 109, 3) := by decide +kernel
theorem dX13_feed_116 : decode cX13_feed 116 = .ok (.bipush 20, 2) := by decide +kernel
theorem dX13_feed_118 : decode cX13_feed 118 = .ok (.iadd, 1) := by decide +kernel
theorem dX13_feed_119 : decode cX13_feed 119 = .ok (.putfield 109, 3) := by decide +kernel
theorem dX13_feed_122 : decode cX13_feed 122 = .ok (.aload_n 0, 1) := by decide +kernel
theorem dX13_feed_123 : decode cX13_feed 123 = .ok (.getfield 109, 3) := by decide +kernel
theorem dX13_feed_126 : decode cX13_feed 126 = .ok (.ireturn, 1) := by decide +kernel
theorem dX13_end_0 : decode cX13_end 0 = .ok (.aload_n 0, 1) := by decide +kernel
theorem dX13_end_1 : decode cX13_end 1 = .ok (.iconst 0, 1) := by decide +kernel
theorem dX13_end_2 : decode cX13_end 2 = .ok (.putfield 1, 3) := by decide +kernel
theorem dX13_end_5 : decode cX13_end 5 = .ok (.iload_n 1, 1) := by decide +kernel
theorem dX13_end_6 : decode cX13_end 6 = .ok (.i2l, 1) := by decide +kernel
theorem dX13_end_7 : decode cX13_end 7 = .ok (.lconst 0, 1) := by decide +kernel
theorem dX13_end_8 : decode cX13_end 8 = .ok (.ldc2_w 112, 3) := by decide +kernel
theorem dX13_end_11 : decode cX13_end 11 = .ok (.invokestatic 114, 3) := by decide +kernel
theorem dX13_end_14 : decode cX13_end 14 = .ok (.ifCond .eq 12, 3) := by decide +kernel
theorem dX13_end_17 : decode cX13_end 17 = .ok (.aload_n 0, 1) := by decide +kernel
theorem dX13_end_18 : decode cX13_end 18 = .ok (.getfield 109, 3) := by decide +kernel
theorem dX13_end_21 : decode cX13_end 21 = .ok (.bipush 20, 2) := by decide +kernel
theorem dX13_end_23 : decode cX13_end 23 = .ok (.if_icmp .ge 5, 3) := by decide +kernel
theorem dX13_end_26 : decode cX13_end 26 = .ok (.iconst (-1), 1) := by decide +kernel
theorem dX13_end_27 : decode cX13_end 27 = .ok (.ireturn, 1) := by decide +kernel
theorem dX13_end_28 : decode cX13_end 28 = .ok (.aload_n 0, 1) := by decide +kernel
theorem dX13_end_29 : decode cX13_end 29 = .ok (.aload_n 0, 1) := by decide +kernel
theorem dX13_end_30 : decode cX13_end 30 = .ok (.getfield 109, 3) := by decide +kernel
theorem dX13_end_33 : decode cX13_end 33 = .ok (.iload_n 1, 1) := by decide +kernel
theorem dX13_end_34 : decode cX13_end 34 = .ok (.iadd, 1) := by decide +kernel
theorem dX13_end_35 : decode cX13_end 35 = .ok (.bipush 20, 2) := by decide +kernel
theorem dX13_end_37 : decode cX13_end 37 = .ok (.isub, 1) := by decide +kernel
theorem dX13_end_38 : decode cX13_end 38 = .ok (.putfield 109, 3) := by decide +kernel
theorem dX13_end_41 : decode cX13_end 41 = .ok (.aload_n 0, 1) := by decide +kernel
theorem dX13_end_42 : decode cX13_end 42 = .ok (.getfield 109, 3) := by decide +kernel
theorem dX13_end_45 : decode cX13_end 45 = .ok (.ireturn, 1) := by decide +kernel
theorem dX13_octets_0 : decode cX13_octets 0 = .ok (.aload_n 0, 1) := by decide +kernel
theorem dX13_octets_1 : decode cX13_octets 1 = .ok (.iconst 0, 1) := by decide +kernel
theorem dX13_octets_2 : decode cX13_octets 2 = .ok (.putfield 1, 3) := by decide +kernel
theorem dX13_octets_5 : decode cX13_octets 5 = .ok (.iload_n 2, 1) := by decide +kernel
theorem dX13_octets_6 : decode cX13_octets 6 = .ok (.i2l, 1) := by decide +kernel
theorem dX13_octets_7 : decode cX13_octets 7 = .ok (.lconst 1, 1) := by decide +kernel
theorem dX13_octets_8 : decode cX13_octets 8 = .ok (.ldc2_w 118, 3) := by decide +kernel
theorem dX13_octets_11 : decode cX13_octets 11 = .ok (.invokestatic 114, 3) := by decide +kernel
theorem dX13_octets_14 : decode cX13_octets 14 = .ok (.ifCond .ne 5, 3) := by decide +kernel
theorem dX13_octets_17 : decode cX13_octets 17 = .ok (.iconst (-1), 1) := by decide +kernel
theorem dX13_octets_18 : decode cX13_octets 18 = .ok (.ireturn, 1) := by decide +kernel
theorem dX13_octets_19 : decode cX13_octets 19 = .ok (.aload_n 0, 1) := by decide +kernel
theorem dX13_octets_20 : decode cX13_octets 20 = .ok (.getfield 109, 3) := by decide +kernel
theorem dX13_octets_23 : decode cX13_octets 23 = .ok (.iload_n 2, 1) := by decide +kernel
theorem dX13_octets_24 : decode cX13_octets 24 = .ok (.iadd, 1) := by decide +kernel
theorem dX13_octets_25 : decode cX13_octets 25 = .ok (.sipush 1500, 3) := by decide +kernel
theorem dX13_octets_28 : decode cX13_octets 28 = .ok (.if_icmp .le 6, 3) := by decide +kernel
theorem dX13_octets_31 : decode cX13_octets 31 = .ok (.bipush (-3), 2) := by decide +kernel
theorem dX13_octets_33 : decode cX13_octets 33 = .ok (.ireturn, 1) := by decide +kernel
theorem dX13_octets_34 : decode cX13_octets 34 = .ok (.iconst 0, 1) := by decide +kernel
theorem dX13_octets_35 : decode cX13_octets 35 = .ok (.istore_n 3, 1) := by decide +kernel
theorem dX13_octets_36 : decode cX13_octets 36 = .ok (.iload_n 3, 1) := by decide +kernel
theorem dX13_octets_37 : decode cX13_octets 37 = .ok (.iload_n 2, 1) := by decide +kernel
theorem dX13_octets_38 : decode cX13_octets 38 = .ok (.if_icmp .ge 22, 3) := by decide +kernel
theorem dX13_octets_41 : decode cX13_octets 41 = .ok (.aload_n 0, 1) := by decide +kernel
theorem dX13_octets_42 : decode cX13_octets 42 = .ok (.getfield 20, 3) := by decide +kernel
theorem dX13_octets_45 : decode cX13_octets 45 = .ok (.aload_n 0, 1) := by decide +kernel
theorem dX13_octets_46 : decode cX13_octets 46 = .ok (.getfield 109, 3) := by decide +kernel
theorem dX13_octets_49 : decode cX13_octets 49 = .ok (.iload_n 3, 1) := by decide +kernel
theorem dX13_octets_50 : decode cX13_octets 50 = .ok (.iadd, 1) := by decide +kernel
theorem dX13_octets_51 : decode cX13_octets 51 = .ok (.iload_n 1, 1) := by decide +kernel
theorem dX13_octets_52 : decode cX13_octets 52 = .ok (.i2b, 1) := by decide +kernel
theorem dX13_octets_53 : decode cX13_octets 53 = .ok (.bastore, 1) := by decide +kernel
theorem dX13_octets_54 : decode cX13_octets 54 = .ok (.iinc 3 1, 3) := by decide +kernel
theorem dX13_octets_57 : decode cX13_octets 57 = .ok (.goto (-21), 3) := by decide +kernel
theorem dX13_octets_60 : decode cX13_octets 60 = .ok (.aload_n 0, 1) := by decide +kernel
theorem dX13_octets_61 : decode cX13_octets 61 = .ok (.aload_n 0, 1) := by decide +kernel
theorem dX13_octets_62 : decode cX13_octets 62 = .ok (.getfield 109, 3) := by decide +kernel
theorem dX13_octets_65 : decode cX13_octets 65 = .ok (.iload_n 2, 1) := by decide +kernel
theorem dX13_octets_66 : decode cX13_octets 66 = .ok (.iadd, 1) := by decide +kernel
theorem dX13_octets_67 : decode cX13_octets 67 = .ok (.putfield 109, 3) := by decide +kernel
theorem dX13_octets_70 : decode cX13_octets 70 = .ok (.aload_n 0, 1) := by decide +kernel
theorem dX13_octets_71 : decode cX13_octets 71 = .ok (.getfield 109, 3) := by decide +kernel
theorem dX13_octets_74 : decode cX13_octets 74 = .ok (.ireturn, 1) := by decide +kernel
theorem dX13_rule_0 : decode cX13_rule 0 = .ok (.aload_n 0, 1) := by decide +kernel
theorem dX13_rule_1 : decode cX13_rule 1 = .ok (.iconst 0, 1) := by decide +kernel
theorem dX13_rule_2 : decode cX13_rule 2 = .ok (.putfield 1, 3) := by decide +kernel
theorem dX13_rule_5 : decode cX13_rule 5 = .ok (.aload_n 0, 1) := by decide +kernel
theorem dX13_rule_6 : decode cX13_rule 6 = .ok (.getfield 120, 3) := by decide +kernel
theorem dX13_rule_9 : decode cX13_rule 9 = .ok (.ireturn, 1) := by decide +kernel
theorem dX13_pass_0 : decode cX13_pass 0 = .ok (.aload_n 0, 1) := by decide +kernel
theorem dX13_pass_1 : decode cX13_pass 1 = .ok (.iconst 0, 1) := by decide +kernel
theorem dX13_pass_2 : decode cX13_pass 2 = .ok (.putfield 1, 3) := by decide +kernel
theorem dX13_pass_5 : decode cX13_pass 5 = .ok (.aload_n 0, 1) := by decide +kernel
theorem dX13_pass_6 : decode cX13_pass 6 = .ok (.getfield 109, 3) := by decide +kernel
theorem dX13_pass_9 : decode cX13_pass 9 = .ok (.aload_n 0, 1) := by decide +kernel
theorem dX13_pass_10 : decode cX13_pass 10 = .ok (.getfield 123, 3) := by decide +kernel
theorem dX13_pass_13 : decode cX13_pass 13 = .ok (.iadd, 1) := by decide +kernel
theorem dX13_pass_14 : decode cX13_pass 14 = .ok (.sipush 1500, 3) := by decide +kernel
theorem dX13_pass_17 : decode cX13_pass 17 = .ok (.if_icmp .le 6, 3) := by decide +kernel
theorem dX13_pass_20 : decode cX13_pass 20 = .ok (.bipush (-3), 2) := by decide +kernel
theorem dX13_pass_22 : decode cX13_pass 22 = .ok (.ireturn, 1) := by decide +kernel
theorem dX13_pass_23 : decode cX13_pass 23 = .ok (.iconst 0, 1) := by decide +kernel
theorem dX13_pass_24 : decode cX13_pass 24 = .ok (.istore_n 1, 1) := by decide +kernel
theorem dX13_pass_25 : decode cX13_pass 25 = .ok (.iload_n 1, 1) := by decide +kernel
theorem dX13_pass_26 : decode cX13_pass 26 = .ok (.aload_n 0, 1) := by decide +kernel
theorem dX13_pass_27 : decode cX13_pass 27 = .ok (.getfield 123, 3) := by decide +kernel
theorem dX13_pass_30 : decode cX13_pass 30 = .ok (.if_icmp .ge 26, 3) := by decide +kernel
theorem dX13_pass_33 : decode cX13_pass 33 = .ok (.aload_n 0, 1) := by decide +kernel
theorem dX13_pass_34 : decode cX13_pass 34 = .ok (.getfield 20, 3) := by decide +kernel
theorem dX13_pass_37 : decode cX13_pass 37 = .ok (.aload_n 0, 1) := by decide +kernel
theorem dX13_pass_38 : decode cX13_pass 38 = .ok (.getfield 109, 3) := by decide +kernel
theorem dX13_pass_41 : decode cX13_pass 41 = .ok (.iload_n 1, 1) := by decide +kernel
theorem dX13_pass_42 : decode cX13_pass 42 = .ok (.iadd, 1) := by decide +kernel
theorem dX13_pass_43 : decode cX13_pass 43 = .ok (.aload_n 0, 1) := by decide +kernel
theorem dX13_pass_44 : decode cX13_pass 44 = .ok (.getfield 24, 3) := by decide +kernel
theorem dX13_pass_47 : decode cX13_pass 47 = .ok (.iload_n 1, 1) := by decide +kernel
theorem dX13_pass_48 : decode cX13_pass 48 = .ok (.baload, 1) := by decide +kernel
theorem dX13_pass_49 : decode cX13_pass 49 = .ok (.bastore, 1) := by decide +kernel
theorem dX13_pass_50 : decode cX13_pass 50 = .ok (.iinc 1 1, 3) := by decide +kernel
theorem dX13_pass_53 : decode cX13_pass 53 = .ok (.goto (-28), 3) := by decide +kernel
theorem dX13_pass_56 : decode cX13_pass 56 = .ok (.aload_n 0, 1) := by decide +kernel
theorem dX13_pass_57 : decode cX13_pass 57 = .ok (.aload_n 0, 1) := by decide +kernel
theorem dX13_pass_58 : decode cX13_pass 58 = .ok (.getfield 109, 3) := by decide +kernel
theorem dX13_pass_61 : decode cX13_pass 61 = .ok (.aload_n 0, 1) := by decide +kernel
theorem dX13_pass_62 : decode cX13_pass 62 = .ok (.getfield 123, 3) := by decide +kernel
theorem dX13_pass_65 : decode cX13_pass 65 = .ok (.iadd, 1) := by decide +kernel
theorem dX13_pass_66 : decode cX13_pass 66 = .ok (.putfield 109, 3) := by decide +kernel
theorem dX13_pass_69 : decode cX13_pass 69 = .ok (.aload_n 0, 1) := by decide +kernel
theorem dX13_pass_70 : decode cX13_pass 70 = .ok (.getfield 109, 3) := by decide +kernel
theorem dX13_pass_73 : decode cX13_pass 73 = .ok (.ireturn, 1) := by decide +kernel
theorem dX13_spoil_0 : decode cX13_spoil 0 = .ok (.aload_n 0, 1) := by decide +kernel
theorem dX13_spoil_1 : decode cX13_spoil 1 = .ok (.iconst 0, 1) := by decide +kernel
theorem dX13_spoil_2 : decode cX13_spoil 2 = .ok (.putfield 1, 3) := by decide +kernel
theorem dX13_spoil_5 : decode cX13_spoil 5 = .ok (.iload_n 1, 1) := by decide +kernel
theorem dX13_spoil_6 : decode cX13_spoil 6 = .ok (.i2l, 1) := by decide +kernel
theorem dX13_spoil_7 : decode cX13_spoil 7 = .ok (.lconst 0, 1) := by decide +kernel
theorem dX13_spoil_8 : decode cX13_spoil 8 = .ok (.aload_n 0, 1) := by decide +kernel
theorem dX13_spoil_9 : decode cX13_spoil 9 = .ok (.getfield 109, 3) := by decide +kernel
theorem dX13_spoil_12 : decode cX13_spoil 12 = .ok (.iconst 1, 1) := by decide +kernel
theorem dX13_spoil_13 : decode cX13_spoil 13 = .ok (.isub, 1) := by decide +kernel
theorem dX13_spoil_14 : decode cX13_spoil 14 = .ok (.i2l, 1) := by decide +kernel
theorem dX13_spoil_15 : decode cX13_spoil 15 = .ok (.invokestatic 114, 3) := by decide +kernel
theorem dX13_spoil_18 : decode cX13_spoil 18 = .ok (.ifCond .eq 15, 3) := by decide +kernel
theorem dX13_spoil_21 : decode cX13_spoil 21 = .ok (.iload_n 2, 1) := by decide +kernel
theorem dX13_spoil_22 : decode cX13_spoil 22 = .ok (.i2l, 1) := by decide +kernel
theorem dX13_spoil_23 : decode cX13_spoil 23 = .ok (.lconst 1, 1) := by decide +kernel
theorem dX13_spoil_24 : decode cX13_spoil 24 = .ok (.ldc2_w 126, 3) := by decide +kernel
theorem dX13_spoil_27 : decode cX13_spoil 27 = .ok (.invokestatic 114, 3) := by decide +kernel
theorem dX13_spoil_30 : decode cX13_spoil 30 = .ok (.ifCond .ne 5, 3) := by decide +kernel
theorem dX13_spoil_33 : decode cX13_spoil 33 = .ok (.iconst (-1), 1) := by decide +kernel
theorem dX13_spoil_34 : decode cX13_spoil 34 = .ok (.ireturn, 1) := by decide +kernel
theorem dX13_spoil_35 : decode cX13_spoil 35 = .ok (.aload_n 0, 1) := by decide +kernel
theorem dX13_spoil_36 : decode cX13_spoil 36 = .ok (.getfield 20, 3) := by decide +kernel
theorem dX13_spoil_39 : decode cX13_spoil 39 = .ok (.iload_n 1, 1) := by decide +kernel
theorem dX13_spoil_40 : decode cX13_spoil 40 = .ok (.aload_n 0, 1) := by decide +kernel
theorem dX13_spoil_41 : decode cX13_spoil 41 = .ok (.getfield 20, 3) := by decide +kernel
theorem dX13_spoil_44 : decode cX13_spoil 44 = .ok (.iload_n 1, 1) := by decide +kernel
theorem dX13_spoil_45 : decode cX13_spoil 45 = .ok (.baload, 1) := by decide +kernel
theorem dX13_spoil_46 : decode cX13_spoil 46 = .ok (.iload_n 2, 1) := by decide +kernel
theorem dX13_spoil_47 : decode cX13_spoil 47 = .ok (.ixor, 1) := by decide +kernel
theorem dX13_spoil_48 : decode cX13_spoil 48 = .ok (.i2b, 1) := by decide +kernel
theorem dX13_spoil_49 : decode cX13_spoil 49 = .ok (.bastore, 1) := by decide +kernel
theorem dX13_spoil_50 : decode cX13_spoil 50 = .ok (.aload_n 0, 1) := by decide +kernel
theorem dX13_spoil_51 : decode cX13_spoil 51 = .ok (.getfield 20, 3) := by decide +kernel
theorem dX13_spoil_54 : decode cX13_spoil 54 = .ok (.iload_n 1, 1) := by decide +kernel
theorem dX13_spoil_55 : decode cX13_spoil 55 = .ok (.baload, 1) := by decide +kernel
theorem dX13_spoil_56 : decode cX13_spoil 56 = .ok (.sipush 255, 3) := by decide +kernel
theorem dX13_spoil_59 : decode cX13_spoil 59 = .ok (.iand, 1) := by decide +kernel
theorem dX13_spoil_60 : decode cX13_spoil 60 = .ok (.ireturn, 1) := by decide +kernel
theorem dX13_drop_0 : decode cX13_drop 0 = .ok (.aload_n 0, 1) := by decide +kernel
theorem dX13_drop_1 : decode cX13_drop 1 = .ok (.iconst 0, 1) := by decide +kernel
theorem dX13_drop_2 : decode cX13_drop 2 = .ok (.putfield 1, 3) := by decide +kernel
theorem dX13_drop_5 : decode cX13_drop 5 = .ok (.iload_n 1, 1) := by decide +kernel
theorem dX13_drop_6 : decode cX13_drop 6 = .ok (.i2l, 1) := by decide +kernel
theorem dX13_drop_7 : decode cX13_drop 7 = .ok (.lconst 0, 1) := by decide +kernel
theorem dX13_drop_8 : decode cX13_drop 8 = .ok (.aload_n 0, 1) := by decide +kernel
theorem dX13_drop_9 : decode cX13_drop 9 = .ok (.getfield 109, 3) := by decide +kernel
theorem dX13_drop_12 : decode cX13_drop 12 = .ok (.i2l, 1) := by decide +kernel
theorem dX13_drop_13 : decode cX13_drop 13 = .ok (.invokestatic 114, 3) := by decide +kernel
theorem dX13_drop_16 : decode cX13_drop 16 = .ok (.ifCond .ne 5, 3) := by decide +kernel
theorem dX13_drop_19 : decode cX13_drop 19 = .ok (.iconst (-1), 1) := by decide +kernel
theorem dX13_drop_20 : decode cX13_drop 20 = .ok (.ireturn, 1) := by decide +kernel
theorem dX13_drop_21 : decode cX13_drop 21 = .ok (.iload_n 1, 1) := by decide +kernel
theorem dX13_drop_22 : decode cX13_drop 22 = .ok (.istore_n 2, 1) := by decide +kernel
theorem dX13_drop_23 : decode cX13_drop 23 = .ok (.iload_n 2, 1) := by decide +kernel
theorem dX13_drop_24 : decode cX13_drop 24 = .ok (.aload_n 0, 1) := by decide +kernel
theorem dX13_drop_25 : decode cX13_drop 25 = .ok (.getfield 109, 3) := by decide +kernel
theorem dX13_drop_28 : decode cX13_drop 28 = .ok (.if_icmp .ge 23, 3) := by decide +kernel
theorem dX13_drop_31 : decode cX13_drop 31 = .ok (.aload_n 0, 1) := by decide +kernel
theorem dX13_drop_32 : decode cX13_drop 32 = .ok (.getfield 20, 3) := by decide +kernel
theorem dX13_drop_35 : decode cX13_drop 35 = .ok (.iload_n 2, 1) := by decide +kernel
theorem dX13_drop_36 : decode cX13_drop 36 = .ok (.iload_n 1, 1) := by decide +kernel
theorem dX13_drop_37 : decode cX13_drop 37 = .ok (.isub, 1) := by decide +kernel
theorem dX13_drop_38 : decode cX13_drop 38 = .ok (.aload_n 0, 1) := by decide +kernel
theorem dX13_drop_39 : decode cX13_drop 39 = .ok (.getfield 20, 3) := by decide +kernel
theorem dX13_drop_42 : decode cX13_drop 42 = .ok (.iload_n 2, 1) := by decide +kernel
theorem dX13_drop_43 : decode cX13_drop 43 = .ok (.baload, 1) := by decide +kernel
theorem dX13_drop_44 : decode cX13_drop 44 = .ok (.bastore, 1) := by decide +kernel
theorem dX13_drop_45 : decode cX13_drop 45 = .ok (.iinc 2 1, 3) := by decide +kernel
theorem dX13_drop_48 : decode cX13_drop 48 = .ok (.goto (-25), 3) := by decide +kernel
theorem dX13_drop_51 : decode cX13_drop 51 = .ok (.aload_n 0, 1) := by decide +kernel
theorem dX13_drop_52 : decode cX13_drop 52 = .ok (.aload_n 0, 1) := by decide +kernel
theorem dX13_drop_53 : decode cX13_drop 53 = .ok (.getfield 109, 3) := by decide +kernel
theorem dX13_drop_56 : decode cX13_drop 56 = .ok (.iload_n 1, 1) := by decide +kernel
theorem dX13_drop_57 : decode cX13_drop 57 = .ok (.isub, 1) := by decide +kernel
theorem dX13_drop_58 : decode cX13_drop 58 = .ok (.putfield 109, 3) := by decide +kernel
theorem dX13_drop_61 : decode cX13_drop 61 = .ok (.aload_n 0, 1) := by decide +kernel
theorem dX13_drop_62 : decode cX13_drop 62 = .ok (.getfield 109, 3) := by decide +kernel
theorem dX13_drop_65 : decode cX13_drop 65 = .ok (.ireturn, 1) := by decide +kernel
theorem dX13_out_0 : decode cX13_out 0 = .ok (.aload_n 0, 1) := by decide +kernel
theorem dX13_out_1 : decode cX13_out 1 = .ok (.iload_n 1, 1) := by decide +kernel
theorem dX13_out_2 : decode cX13_out 2 = .ok (.i2l, 1) := by decide +kernel
theorem dX13_out_3 : decode cX13_out 3 = .ok (.lconst 0, 1) := by decide +kernel
theorem dX13_out_4 : decode cX13_out 4 = .ok (.aload_n 0, 1) := by decide +kernel
theorem dX13_out_5 : decode cX13_out 5 = .ok (.getfield 123, 3) := by decide +kernel
theorem dX13_out_8 : decode cX13_out 8 = .ok (.iconst 1, 1) := by decide +kernel
theorem dX13_out_9 : decode cX13_out 9 = .ok (.isub, 1) := by decide +kernel
theorem dX13_out_10 : decode cX13_out 10 = .ok (.i2l, 1) := by decide +kernel
theorem dX13_out_11 : decode cX13_out 11 = .ok (.invokestatic 114, 3) := by decide +kernel
theorem dX13_out_14 : decode cX13_out 14 = .ok (.ifCond .eq 7, 3) := by decide +kernel
theorem dX13_out_17 : decode cX13_out 17 = .ok (.iconst 0, 1) := by decide +kernel
theorem dX13_out_18 : decode cX13_out 18 = .ok (.goto 4, 3) := by decide +kernel
theorem dX13_out_21 : decode cX13_out 21 = .ok (.iconst 1, 1) := by decide +kernel
theorem dX13_out_22 : decode cX13_out 22 = .ok (.putfield 1, 3) := by decide +kernel
theorem dX13_out_25 : decode cX13_out 25 = .ok (.aload_n 0, 1) := by decide +kernel
theorem dX13_out_26 : decode cX13_out 26 = .ok (.getfield 1, 3) := by decide +kernel
theorem dX13_out_29 : decode cX13_out 29 = .ok (.ifCond .le 7, 3) := by decide +kernel
theorem dX13_out_32 : decode cX13_out 32 = .ok (.iconst 0, 1) := by decide +kernel
theorem dX13_out_33 : decode cX13_out 33 = .ok (.goto 13, 3) := by decide +kernel
theorem dX13_out_36 : decode cX13_out 36 = .ok (.aload_n 0, 1) := by decide +kernel
theorem dX13_out_37 : decode cX13_out 37 = .ok (.getfield 24, 3) := by decide +kernel
theorem dX13_out_40 : decode cX13_out 40 = .ok (.iload_n 1, 1) := by decide +kernel
theorem dX13_out_41 : decode cX13_out 41 = .ok (.baload, 1) := by decide +kernel
theorem dX13_out_42 : decode cX13_out 42 = .ok (.sipush 255, 3) := by decide +kernel
theorem dX13_out_45 : decode cX13_out 45 = .ok (.iand, 1) := by decide +kernel
theorem dX13_out_46 : decode cX13_out 46 = .ok (.ireturn, 1) := by decide +kernel
theorem dX13_count_0 : decode cX13_count 0 = .ok (.aload_n 0, 1) := by decide +kernel
theorem dX13_count_1 : decode cX13_count 1 = .ok (.iconst 0, 1) := by decide +kernel
theorem dX13_count_2 : decode cX13_count 2 = .ok (.putfield 1, 3) := by decide +kernel
theorem dX13_count_5 : decode cX13_count 5 = .ok (.iload_n 1, 1) := by decide +kernel
theorem dX13_count_6 : decode cX13_count 6 = .ok (.ifCond .ne 10, 3) := by decide +kernel
theorem dX13_count_9 : decode cX13_count 9 = .ok (.aload_n 0, 1) := by decide +kernel
theorem dX13_count_10 : decode cX13_count 10 = .ok (.getfield 109, 3) := by decide +kernel
theorem dX13_count_13 : decode cX13_count 13 = .ok (.goto 40, 3) := by decide +kernel
theorem dX13_count_16 : decode cX13_count 16 = .ok (.iload_n 1, 1) := by decide +kernel
theorem dX13_count_17 : decode cX13_count 17 = .ok (.iconst 1, 1) := by decide +kernel
theorem dX13_count_18 : decode cX13_count 18 = .ok (.if_icmp .ne 10, 3) := by decide +kernel
theorem dX13_count_21 : decode cX13_count 21 = .ok (.aload_n 0, 1) := by decide +kernel
theorem dX13_count_22 : decode cX13_count 22 = .ok (.getfield 123, 3) := by decide +kernel
theorem dX13_count_25 : decode cX13_count 25 = .ok (.goto 28, 3) := by decide +kernel
theorem dX13_count_28 : decode cX13_count 28 = .ok (.iload_n 1, 1) := by decide +kernel
theorem dX13_count_29 : decode cX13_count 29 = .ok (.iconst 2, 1) := by decide +kernel
theorem dX13_count_30 : decode cX13_count 30 = .ok (.if_icmp .ne 10, 3) := by decide +kernel
theorem dX13_count_33 : decode cX13_count 33 = .ok (.aload_n 0, 1) := by decide +kernel
theorem dX13_count_34 : decode cX13_count 34 = .ok (.getfield 128, 3) := by decide +kernel
theorem dX13_count_37 : decode cX13_count 37 = .ok (.goto 16, 3) := by decide +kernel
theorem dX13_count_40 : decode cX13_count 40 = .ok (.iload_n 1, 1) := by decide +kernel
theorem dX13_count_41 : decode cX13_count 41 = .ok (.iconst 3, 1) := by decide +kernel
theorem dX13_count_42 : decode cX13_count 42 = .ok (.if_icmp .ne 10, 3) := by decide +kernel
theorem dX13_count_45 : decode cX13_count 45 = .ok (.aload_n 0, 1) := by decide +kernel
theorem dX13_count_46 : decode cX13_count 46 = .ok (.getfield 106, 3) := by decide +kernel
theorem dX13_count_49 : decode cX13_count 49 = .ok (.goto 4, 3) := by decide +kernel
theorem dX13_count_52 : decode cX13_count 52 = .ok (.iconst (-1), 1) := by decide +kernel
theorem dX13_count_53 : decode cX13_count 53 = .ok (.ireturn, 1) := by decide +kernel
theorem dX13_note_0 : decode cX13_note 0 = .ok (.aload_n 0, 1) := by decide +kernel
theorem dX13_note_1 : decode cX13_note 1 = .ok (.getfield 131, 3) := by decide +kernel
theorem dX13_note_4 : decode cX13_note 4 = .ok (.bipush 60, 2) := by decide +kernel
theorem dX13_note_6 : decode cX13_note 6 = .ok (.if_icmp .ge 120, 3) := by decide +kernel
theorem dX13_note_9 : decode cX13_note 9 = .ok (.bipush 9, 2) := by decide +kernel
theorem dX13_note_11 : decode cX13_note 11 = .ok (.aload_n 0, 1) := by decide +kernel
theorem dX13_note_12 : decode cX13_note 12 = .ok (.getfield 131, 3) := by decide +kernel
theorem dX13_note_15 : decode cX13_note 15 = .ok (.imul, 1) := by decide +kernel
theorem dX13_note_16 : decode cX13_note 16 = .ok (.istore 11, 2) := by decide +kernel
theorem dX13_note_18 : decode cX13_note 18 = .ok (.aload_n 0, 1) := by decide +kernel
theorem dX13_note_19 : decode cX13_note 19 = .ok (.getfield 30, 3) := by decide +kernel
theorem dX13_note_22 : decode cX13_note 22 = .ok (.iload 11, 2) := by decide +kernel
theorem dX13_note_24 : decode cX13_note 24 = .ok (.iload_n 1, 1) := by decide +kernel
theorem dX13_note_25 : decode cX13_note 25 = .ok (.iastore, 1) := by decide +kernel
theorem dX13_note_26 : decode cX13_note 26 = .ok (.aload_n 0, 1) := by decide +kernel
theorem dX13_note_27 : decode cX13_note 27 = .ok (.getfield 30, 3) := by decide +kernel
theorem dX13_note_30 : decode cX13_note 30 = .ok (.iload 11, 2) := by decide +kernel
theorem dX13_note_32 : decode cX13_note 32 = .ok (.iconst 1, 1) := by decide +kernel
theorem dX13_note_33 : decode cX13_note 33 = .ok (.iadd, 1) := by decide +kernel
theorem dX13_note_34 : decode cX13_note 34 = .ok (.iload_n 2, 1) := by decide +kernel
theorem dX13_note_35 : decode cX13_note 35 = .ok (.iastore, 1) := by decide +kernel
theorem dX13_note_36 : decode cX13_note 36 = .ok (.aload_n 0, 1) := by decide +kernel
theorem dX13_note_37 : decode cX13_note 37 = .ok (.getfield 30, 3) := by decide +kernel
theorem dX13_note_40 : decode cX13_note 40 = .ok (.iload 11, 2) := by decide +kernel
theorem dX13_note_42 : decode cX13_note 42 = .ok (.iconst 2, 1) := by decide +kernel
theorem dX13_note_43 : decode cX13_note 43 = .ok (.iadd, 1) := by decide +kernel
theorem dX13_note_44 : decode cX13_note 44 = .ok (.iload_n 3, 1) := by decide +kernel
theorem dX13_note_45 : decode cX13_note 45 = .ok (.iastore, 1) := by decide +kernel
theorem dX13_note_46 : decode cX13_note 46 = .ok (.aload_n 0, 1) := by decide +kernel
theorem dX13_note_47 : decode cX13_note 47 = .ok (.getfield 30, 3) := by decide +kernel
theorem dX13_note_50 : decode cX13_note 50 = .ok (.iload 11, 2) := by decide +kernel
theorem dX13_note_52 : decode cX13_note 52 = .ok (.iconst 3, 1) := by decide +kernel
theorem dX13_note_53 : decode cX13_note 53 = .ok (.iadd, 1) := by decide +kernel
theorem dX13_note_54 : decode cX13_note 54 = .ok (.iload 4, 2) := by decide +kernel
theorem dX13_note_56 : decode cX13_note 56 = .ok (.iastore, 1) := by decide +kernel
theorem dX13_note_57 : decode cX13_note 57 = .ok (.aload_n 0, 1) := by decide +kernel
theorem dX13_note_58 : decode cX13_note 58 = .ok (.getfield 30, 3) := by decide +kernel
theorem dX13_note_61 : decode cX13_note 61 = .ok (.iload 11, 2) := by decide +kernel
theorem dX13_note_63 : decode cX13_note 63 = .ok (.iconst 4, 1) := by decide +kernel
theorem dX13_note_64 : decode cX13_note 64 = .ok (.iadd, 1) := by decide +kernel
theorem dX13_note_65 : decode cX13_note 65 = .ok (.iload 5, 2) := by decide +kernel
theorem dX13_note_67 : decode cX13_note 67 = .ok (.iastore, 1) := by decide +kernel
theorem dX13_note_68 : decode cX13_note 68 = .ok (.aload_n 0, 1) := by decide +kernel
theorem dX13_note_69 : decode cX13_note 69 = .ok (.getfield 30, 3) := by decide +kernel
theorem dX13_note_72 : decode cX13_note 72 = .ok (.iload 11, 2) := by decide +kernel
theorem dX13_note_74 : decode cX13_note 74 = .ok (.iconst 5, 1) := by decide +kernel
theorem dX13_note_75 : decode cX13_note 75 = .ok (.iadd, 1) := by decide +kernel
theorem dX13_note_76 : decode cX13_note 76 = .ok (.iload 6, 2) := by decide +kernel
theorem dX13_note_78 : decode cX13_note 78 = .ok (.iastore, 1) := by decide +kernel
theorem dX13_note_79 : decode cX13_note 79 = .ok (.aload_n 0, 1) := by decide +kernel
theorem dX13_note_80 : decode cX13_note 80 = .ok (.getfield 30, 3) := by decide +kernel
theorem dX13_note_83 : decode cX13_note 83 = .ok (.iload 11, 2) := by decide +kernel
theorem dX13_note_85 : decode cX13_note 85 = .ok (.bipush 6, 2) := by decide +kernel
theorem dX13_note_87 : decode cX13_note 87 = .ok (.iadd, 1) := by decide +kernel
theorem dX13_note_88 : decode cX13_note 88 = .ok (.iload 7, 2) := by decide +kernel
theorem dX13_note_90 : decode cX13_note 90 = .ok (.iastore, 1) := by decide +kernel
theorem dX13_note_91 : decode cX13_note 91 = .ok (.aload_n 0, 1) := by decide +kernel
theorem dX13_note_92 : decode cX13_note 92 = .ok (.getfield 30, 3) := by decide +kernel
theorem dX13_note_95 : decode cX13_note 95 = .ok (.iload 11, 2) := by decide +kernel
theorem dX13_note_97 : decode cX13_note 97 = .ok (.bipush 7, 2) := by decide +kernel
theorem dX13_note_99 : decode cX13_note 99 = .ok (.iadd, 1) := by decide +kernel
theorem dX13_note_100 : decode cX13_note 100 = .ok (.iload 8, 2) := by decide +kernel
theorem dX13_note_102 : decode cX13_note 102 = .ok (.iastore, 1) := by decide +kernel
theorem dX13_note_103 : decode cX13_note 103 = .ok (.aload_n 0, 1) := by decide +kernel
theorem dX13_note_104 : decode cX13_note 104 = .ok (.getfield 30, 3) := by decide +kernel
theorem dX13_note_107 : decode cX13_note 107 = .ok (.iload 11, 2) := by decide +kernel
theorem dX13_note_109 : decode cX13_note 109 = .ok (.bipush 8, 2) := by decide +kernel
theorem dX13_note_111 : decode cX13_note 111 = .ok (.iadd, 1) := by decide +kernel
theorem dX13_note_112 : decode cX13_note 112 = .ok (.iload 9, 2) := by decide +kernel
theorem dX13_note_114 : decode cX13_note 114 = .ok (.iastore, 1) := by decide +kernel
theorem dX13_note_115 : decode cX13_note 115 = .ok (.aload_n 0, 1) := by decide +kernel
theorem dX13_note_116 : decode cX13_note 116 = .ok (.getfield 34, 3) := by decide +kernel
theorem dX13_note_119 : decode cX13_note 119 = .ok (.aload_n 0, 1) := by decide +kernel
theorem dX13_note_120 : decode cX13_note 120 = .ok (.getfield 131, 3) := by decide +kernel
theorem dX13_note_123 : decode cX13_note 123 = .ok (.iload 10, 2) := by decide +kernel
theorem dX13_note_125 : decode cX13_note 125 = .ok (.iastore, 1) := by decide +kernel
theorem dX13_note_126 : decode cX13_note 126 = .ok (.aload_n 0, 1) := by decide +kernel
theorem dX13_note_127 : decode cX13_note 127 = .ok (.dup, 1) := by decide +kernel
theorem dX13_note_128 : decode cX13_note 128 = .ok (.getfield 131, 3) := by decide +kernel
theorem dX13_note_131 : decode cX13_note 131 = .ok (.iconst 1, 1) := by decide +kernel
theorem dX13_note_132 : decode cX13_note 132 = .ok (.iadd, 1) := by decide +kernel
theorem dX13_note_133 : decode cX13_note 133 = .ok (.putfield 131, 3) := by decide +kernel
theorem dX13_note_136 : decode cX13_note 136 = .ok (.return_, 1) := by decide +kernel
theorem dX13_toldBlocks_0 : decode cX13_toldBlocks 0 = .ok (.aload_n 0, 1) := by decide +kernel
theorem dX13_toldBlocks_1 : decode cX13_toldBlocks 1 = .ok (.getfield 131, 3) := by decide +kernel
theorem dX13_toldBlocks_4 : decode cX13_toldBlocks 4 = .ok (.bipush 60, 2) := by decide +kernel
theorem dX13_toldBlocks_6 : decode cX13_toldBlocks 6 = .ok (.if_icmp .ge 10, 3) := by decide +kernel
theorem dX13_toldBlocks_9 : decode cX13_toldBlocks 9 = .ok (.aload_n 0, 1) := by decide +kernel
theorem dX13_toldBlocks_10 : decode cX13_toldBlocks 10 = .ok (.getfield 131, 3) := by decide +kernel
theorem dX13_toldBlocks_13 : decode cX13_toldBlocks 13 = .ok (.goto 5, 3) := by decide +kernel
theorem dX13_toldBlocks_16 : decode cX13_toldBlocks 16 = .ok (.bipush 60, 2) := by decide +kernel
theorem dX13_toldBlocks_18 : decode cX13_toldBlocks 18 = .ok (.ireturn, 1) := by decide +kernel
theorem dX13_block_0 : decode cX13_block 0 = .ok (.aload_n 0, 1) := by decide +kernel
theorem dX13_block_1 : decode cX13_block 1 = .ok (.iconst 0, 1) := by decide +kernel
theorem dX13_block_2 : decode cX13_block 2 = .ok (.putfield 1, 3) := by decide +kernel
theorem dX13_block_5 : decode cX13_block 5 = .ok (.iload_n 1, 1) := by decide +kernel
theorem dX13_block_6 : decode cX13_block 6 = .ok (.iconst (-1), 1) := by decide +kernel
theorem dX13_block_7 : decode cX13_block 7 = .ok (.if_icmp .ne 12, 3) := by decide +kernel
theorem dX13_block_10 : decode cX13_block 10 = .ok (.iload_n 2, 1) := by decide +kernel
theorem dX13_block_11 : decode cX13_block 11 = .ok (.ifCond .ne 8, 3) := by decide +kernel
theorem dX13_block_14 : decode cX13_block 14 = .ok (.aload_n 0, 1) := by decide +kernel
theorem dX13_block_15 : decode cX13_block 15 = .ok (.getfield 131, 3) := by decide +kernel
theorem dX13_block_18 : decode cX13_block 18 = .ok (.ireturn, 1) := by decide +kernel
theorem dX13_block_19 : decode cX13_block 19 = .ok (.iload_n 1, 1) := by decide +kernel
theorem dX13_block_20 : decode cX13_block 20 = .ok (.i2l, 1) := by decide +kernel
theorem dX13_block_21 : decode cX13_block 21 = .ok (.lconst 0, 1) := by decide +kernel
theorem dX13_block_22 : decode cX13_block 22 = .ok (.aload_n 0, 1) := by decide +kernel
theorem dX13_block_23 : decode cX13_block 23 = .ok (.invokevirtual 134, 3) := by decide +kernel
theorem dX13_block_26 : decode cX13_block 26 = .ok (.iconst 1, 1) := by decide +kernel
theorem dX13_block_27 : decode cX13_block 27 = .ok (.isub, 1) := by decide +kernel
theorem dX13_block_28 : decode cX13_block 28 = .ok (.i2l, 1) := by decide +kernel
theorem dX13_block_29 : decode cX13_block 29 = .ok (.invokestatic 114, 3) := by decide +kernel
theorem dX13_block_32 : decode cX13_block 32 = .ok (.ifCond .eq 15, 3) := by decide +kernel
theorem dX13_block_35 : decode cX13_block 35 = .ok (.iload_n 2, 1) := by decide +kernel
theorem dX13_block_36 : decode cX13_block 36 = .ok (.i2l, 1) := by decide +kernel
theorem dX13_block_37 : decode cX13_block 37 = .ok (.lconst 0, 1) := by decide +kernel
theorem dX13_block_38 : decode cX13_block 38 = .ok (.ldc2_w 138, 3) := by decide +kernel
theorem dX13_block_41 : decode cX13_block 41 = .ok (.invokestatic 114, 3) := by decide +kernel
theorem dX13_block_44 : decode cX13_block 44 = .ok (.ifCond .ne 7, 3) := by decide +kernel
theorem dX13_block_47 : decode cX13_block 47 = .ok (.iconst (-1), 1) := by decide +kernel
theorem dX13_block_48 : decode cX13_block 48 = .ok (.goto 14, 3) := by decide +kernel
theorem dX13_block_51 : decode cX13_block 51 = .ok (.aload_n 0, 1) := by decide +kernel
theorem dX13_block_52 : decode cX13_block 52 = .ok (.getfield 30, 3) := by decide +kernel
theorem dX13_block_55 : decode cX13_block 55 = .ok (.bipush 9, 2) := by decide +kernel
theorem dX13_block_57 : decode cX13_block 57 = .ok (.iload_n 1, 1) := by decide +kernel
theorem dX13_block_58 : decode cX13_block 58 = .ok (.imul, 1) := by decide +kernel
theorem dX13_block_59 : decode cX13_block 59 = .ok (.iload_n 2, 1) := by decide +kernel
theorem dX13_block_60 : decode cX13_block 60 = .ok (.iadd, 1) := by decide +kernel
theorem dX13_block_61 : decode cX13_block 61 = .ok (.iaload, 1) := by decide +kernel
theorem dX13_block_62 : decode cX13_block 62 = .ok (.ireturn, 1) := by decide +kernel
theorem dX13_sum_0 : decode cX13_sum 0 = .ok (.aload_n 0, 1) := by decide +kernel
theorem dX13_sum_1 : decode cX13_sum 1 = .ok (.iconst 0, 1) := by decide +kernel
theorem dX13_sum_2 : decode cX13_sum 2 = .ok (.putfield 1, 3) := by decide +kernel
theorem dX13_sum_5 : decode cX13_sum 5 = .ok (.iload_n 1, 1) := by decide +kernel
theorem dX13_sum_6 : decode cX13_sum 6 = .ok (.i2l, 1) := by decide +kernel
theorem dX13_sum_7 : decode cX13_sum 7 = .ok (.lconst 0, 1) := by decide +kernel
theorem dX13_sum_8 : decode cX13_sum 8 = .ok (.aload_n 0, 1) := by decide +kernel
theorem dX13_sum_9 : decode cX13_sum 9 = .ok (.invokevirtual 134, 3) := by decide +kernel
theorem dX13_sum_12 : decode cX13_sum 12 = .ok (.iconst 1, 1) := by decide +kernel
theorem dX13_sum_13 : decode cX13_sum 13 = .ok (.isub, 1) := by decide +kernel
theorem dX13_sum_14 : decode cX13_sum 14 = .ok (.i2l, 1) := by decide +kernel
theorem dX13_sum_15 : decode cX13_sum 15 = .ok (.invokestatic 114, 3) := by decide +kernel
theorem dX13_sum_18 : decode cX13_sum 18 = .ok (.ifCond .eq 12, 3) := by decide +kernel
theorem dX13_sum_21 : decode cX13_sum 21 = .ok (.aload_n 0, 1) := by decide +kernel
theorem dX13_sum_22 : decode cX13_sum 22 = .ok (.getfield 34, 3) := by decide +kernel
theorem dX13_sum_25 : decode cX13_sum 25 = .ok (.iload_n 1, 1) := by decide +kernel
theorem dX13_sum_26 : decode cX13_sum 26 = .ok (.iaload, 1) := by decide +kernel
theorem dX13_sum_27 : decode cX13_sum 27 = .ok (.goto 4, 3) := by decide +kernel
theorem dX13_sum_30 : decode cX13_sum 30 = .ok (.iconst 0, 1) := by decide +kernel
theorem dX13_sum_31 : decode cX13_sum 31 = .ok (.ireturn, 1) := by decide +kernel
theorem dX13_keepTables_0 : decode cX13_keepTables 0 = .ok (.aload_n 0, 1) := by decide +kernel
theorem dX13_keepTables_1 : decode cX13_keepTables 1 = .ok (.iload_n 1, 1) := by decide +kernel
theorem dX13_keepTables_2 : decode cX13_keepTables 2 = .ok (.putfield 140, 3) := by decide +kernel
theorem dX13_keepTables_5 : decode cX13_keepTables 5 = .ok (.aload_n 0, 1) := by decide +kernel
theorem dX13_keepTables_6 : decode cX13_keepTables 6 = .ok (.iload_n 2, 1) := by decide +kernel
theorem dX13_keepTables_7 : decode cX13_keepTables 7 = .ok (.putfield 143, 3) := by decide +kernel
theorem dX13_keepTables_10 : decode cX13_keepTables 10 = .ok (.aload_n 0, 1) := by decide +kernel
theorem dX13_keepTables_11 : decode cX13_keepTables 11 = .ok (.iload_n 3, 1) := by decide +kernel
theorem dX13_keepTables_12 : decode cX13_keepTables 12 = .ok (.putfield 146, 3) := by decide +kernel
theorem dX13_keepTables_15 : decode cX13_keepTables 15 = .ok (.iconst 0, 1) := by decide +kernel
theorem dX13_keepTables_16 : decode cX13_keepTables 16 = .ok (.istore 4, 2) := by decide +kernel
theorem dX13_keepTables_18 : decode cX13_keepTables 18 = .ok (.iload 4, 2) := by decide +kernel
theorem dX13_keepTables_20 : decode cX13_keepTables 20 = .ok (.iload_n 3, 1) := by decide +kernel
theorem dX13_keepTables_21 : decode cX13_keepTables 21 = .ok (.if_icmp .ge 23, 3) := by decide +kernel
theorem dX13_keepTables_24 : decode cX13_keepTables 24 = .ok (.aload_n 0, 1) := by decide +kernel
theorem dX13_keepTables_25 : decode cX13_keepTables 25 = .ok (.getfield 38, 3) := by decide +kernel
theorem dX13_keepTables_28 : decode cX13_keepTables 28 = .ok (.iload 4, 2) := by decide +kernel
theorem dX13_keepTables_30 : decode cX13_keepTables 30 = .ok (.aload_n 0, 1) := by decide +kernel
theorem dX13_keepTables_31 : decode cX13_keepTables 31 = .ok (.getfield 72, 3) := by decide +kernel
theorem dX13_keepTables_34 : decode cX13_keepTables 34 = .ok (.iload 4, 2) := by decide +kernel
theorem dX13_keepTables_36 : decode cX13_keepTables 36 = .ok (.iaload, 1) := by decide +kernel
theorem dX13_keepTables_37 : decode cX13_keepTables 37 = .ok (.iastore, 1) := by decide +kernel
theorem dX13_keepTables_38 : decode cX13_keepTables 38 = .ok (.iinc 4 1, 3) := by decide +kernel
theorem dX13_keepTables_41 : decode cX13_keepTables 41 = .ok (.goto (-23), 3) := by decide +kernel
theorem dX13_keepTables_44 : decode cX13_keepTables 44 = .ok (.iconst 0, 1) := by decide +kernel
theorem dX13_keepTables_45 : decode cX13_keepTables 45 = .ok (.istore 4, 2) := by decide +kernel
theorem dX13_keepTables_47 : decode cX13_keepTables 47 = .ok (.iload 4, 2) := by decide +kernel
theorem dX13_keepTables_49 : decode cX13_keepTables 49 = .ok (.sipush 1560, 3) := by decide +kernel
theorem dX13_keepTables_52 : decode cX13_keepTables 52 = .ok (.if_icmp .ge 23, 3) := by decide +kernel
theorem dX13_keepTables_55 : decode cX13_keepTables 55 = .ok (.aload_n 0, 1) := by decide +kernel
theorem dX13_keepTables_56 : decode cX13_keepTables 56 = .ok (.getfield 41, 3) := by decide +kernel
theorem dX13_keepTables_59 : decode cX13_keepTables 59 = .ok (.iload 4, 2) := by decide +kernel
theorem dX13_keepTables_61 : decode cX13_keepTables 61 = .ok (.aload_n 0, 1) := by decide +kernel
theorem dX13_keepTables_62 : decode cX13_keepTables 62 = .ok (.getfield 63, 3) := by decide +kernel
theorem dX13_keepTables_65 : decode cX13_keepTables 65 = .ok (.iload 4, 2) := by decide +kernel
theorem dX13_keepTables_67 : decode cX13_keepTables 67 = .ok (.iaload, 1) := by decide +kernel
theorem dX13_keepTables_68 : decode cX13_keepTables 68 = .ok (.iastore, 1) := by decide +kernel
theorem dX13_keepTables_69 : decode cX13_keepTables 69 = .ok (.iinc 4 1, 3) := by decide +kernel
theorem dX13_keepTables_72 : decode cX13_keepTables 72 = .ok (.goto (-25), 3) := by decide +kernel
theorem dX13_keepTables_75 : decode cX13_keepTables 75 = .ok (.return_, 1) := by decide +kernel
theorem dX13_choice_0 : decode cX13_choice 0 = .ok (.aload_n 0, 1) := by decide +kernel
theorem dX13_choice_1 : decode cX13_choice 1 = .ok (.iconst 0, 1) := by decide +kernel
theorem dX13_choice_2 : decode cX13_choice 2 = .ok (.putfield 1, 3) := by decide +kernel
theorem dX13_choice_5 : decode cX13_choice 5 = .ok (.iload_n 1, 1) := by decide +kernel
theorem dX13_choice_6 : decode cX13_choice 6 = .ok (.i2l, 1) := by decide +kernel
theorem dX13_choice_7 : decode cX13_choice 7 = .ok (.lconst 0, 1) := by decide +kernel
theorem dX13_choice_8 : decode cX13_choice 8 = .ok (.aload_n 0, 1) := by decide +kernel
theorem dX13_choice_9 : decode cX13_choice 9 = .ok (.getfield 146, 3) := by decide +kernel
theorem dX13_choice_12 : decode cX13_choice 12 = .ok (.iconst 1, 1) := by decide +kernel
theorem dX13_choice_13 : decode cX13_choice 13 = .ok (.isub, 1) := by decide +kernel
theorem dX13_choice_14 : decode cX13_choice 14 = .ok (.i2l, 1) := by decide +kernel
theorem dX13_choice_15 : decode cX13_choice 15 = .ok (.invokestatic 114, 3) := by decide +kernel
theorem dX13_choice_18 : decode cX13_choice 18 = .ok (.ifCond .eq 12, 3) := by decide +kernel
theorem dX13_choice_21 : decode cX13_choice 21 = .ok (.aload_n 0, 1) := by decide +kernel
theorem dX13_choice_22 : decode cX13_choice 22 = .ok (.getfield 38, 3) := by decide +kernel
theorem dX13_choice_25 : decode cX13_choice 25 = .ok (.iload_n 1, 1) := by decide +kernel
theorem dX13_choice_26 : decode cX13_choice 26 = .ok (.iaload, 1) := by decide +kernel
theorem dX13_choice_27 : decode cX13_choice 27 = .ok (.goto 4, 3) := by decide +kernel
theorem dX13_choice_30 : decode cX13_choice 30 = .ok (.iconst (-1), 1) := by decide +kernel
theorem dX13_choice_31 : decode cX13_choice 31 = .ok (.ireturn, 1) := by decide +kernel
theorem dX13_length_0 : decode cX13_length 0 = .ok (.aload_n 0, 1) := by decide +kernel
theorem dX13_length_1 : decode cX13_length 1 = .ok (.iconst 0, 1) := by decide +kernel
theorem dX13_length_2 : decode cX13_length 2 = .ok (.putfield 1, 3) := by decide +kernel
theorem dX13_length_5 : decode cX13_length 5 = .ok (.iload_n 1, 1) := by decide +kernel
theorem dX13_length_6 : decode cX13_length 6 = .ok (.i2l, 1) := by decide +kernel
theorem dX13_length_7 : decode cX13_length 7 = .ok (.lconst 0, 1) := by decide +kernel
theorem dX13_length_8 : decode cX13_length 8 = .ok (.aload_n 0, 1) := by decide +kernel
theorem dX13_length_9 : decode cX13_length 9 = .ok (.getfield 140, 3) := by decide +kernel
theorem dX13_length_12 : decode cX13_length 12 = .ok (.iconst 1, 1) := by decide +kernel
theorem dX13_length_13 : decode cX13_length 13 = .ok (.isub, 1) := by decide +kernel
theorem dX13_length_14 : decode cX13_length 14 = .ok (.i2l, 1) := by decide +kernel
theorem dX13_length_15 : decode cX13_length 15 = .ok (.invokestatic 114, 3) := by decide +kernel
theorem dX13_length_18 : decode cX13_length 18 = .ok (.ifCond .eq 19, 3) := by decide +kernel
theorem dX13_length_21 : decode cX13_length 21 = .ok (.iload_n 2, 1) := by decide +kernel
theorem dX13_length_22 : decode cX13_length 22 = .ok (.i2l, 1) := by decide +kernel
theorem dX13_length_23 : decode cX13_length 23 = .ok (.lconst 0, 1) := by decide +kernel
theorem dX13_length_24 : decode cX13_length 24 = .ok (.aload_n 0, 1) := by decide +kernel
theorem dX13_length_25 : decode cX13_length 25 = .ok (.getfield 143, 3) := by decide +kernel
theorem dX13_length_28 : decode cX13_length 28 = .ok (.iconst 1, 1) := by decide +kernel
theorem dX13_length_29 : decode cX13_length 29 = .ok (.isub, 1) := by decide +kernel
theorem dX13_length_30 : decode cX13_length 30 = .ok (.i2l, 1) := by decide +kernel
theorem dX13_length_31 : decode cX13_length 31 = .ok (.invokestatic 114, 3) := by decide +kernel
theorem dX13_length_34 : decode cX13_length 34 = .ok (.ifCond .ne 7, 3) := by decide +kernel
theorem dX13_length_37 : decode cX13_length 37 = .ok (.iconst (-1), 1) := by decide +kernel
theorem dX13_length_38 : decode cX13_length 38 = .ok (.goto 15, 3) := by decide +kernel
theorem dX13_length_41 : decode cX13_length 41 = .ok (.aload_n 0, 1) := by decide +kernel
theorem dX13_length_42 : decode cX13_length 42 = .ok (.getfield 41, 3) := by decide +kernel
theorem dX13_length_45 : decode cX13_length 45 = .ok (.sipush 260, 3) := by decide +kernel
theorem dX13_length_48 : decode cX13_length 48 = .ok (.iload_n 1, 1) := by decide +kernel
theorem dX13_length_49 : decode cX13_length 49 = .ok (.imul, 1) := by decide +kernel
theorem dX13_length_50 : decode cX13_length 50 = .ok (.iload_n 2, 1) := by decide +kernel
theorem dX13_length_51 : decode cX13_length 51 = .ok (.iadd, 1) := by decide +kernel
theorem dX13_length_52 : decode cX13_length 52 = .ok (.iaload, 1) := by decide +kernel
theorem dX13_length_53 : decode cX13_length 53 = .ok (.ireturn, 1) := by decide +kernel
theorem dX13_sumOf_0 : decode cX13_sumOf 0 = .ok (.iconst (-1), 1) := by decide +kernel
theorem dX13_sumOf_1 : decode cX13_sumOf 1 = .ok (.istore_n 3, 1) := by decide +kernel
theorem dX13_sumOf_2 : decode cX13_sumOf 2 = .ok (.iconst 0, 1) := by decide +kernel
theorem dX13_sumOf_3 : decode cX13_sumOf 3 = .ok (.istore 4, 2) := by decide +kernel
theorem dX13_sumOf_5 : decode cX13_sumOf 5 = .ok (.iload 4, 2) := by decide +kernel
theorem dX13_sumOf_7 : decode cX13_sumOf 7 = .ok (.iload_n 2, 1) := by decide +kernel
theorem dX13_sumOf_8 : decode cX13_sumOf 8 = .ok (.if_icmp .ge 58, 3) := by decide +kernel
theorem dX13_sumOf_11 : decode cX13_sumOf 11 = .ok (.iload_n 3, 1) := by decide +kernel
theorem dX13_sumOf_12 : decode cX13_sumOf 12 = .ok (.aload_n 0, 1) := by decide +kernel
theorem dX13_sumOf_13 : decode cX13_sumOf 13 = .ok (.iload_n 1, 1) := by decide +kernel
theorem dX13_sumOf_14 : decode cX13_sumOf 14 = .ok (.iload 4, 2) := by decide +kernel
theorem dX13_sumOf_16 : decode cX13_sumOf 16 = .ok (.iadd, 1) := by decide +kernel
theorem dX13_sumOf_17 : decode cX13_sumOf 17 = .ok (.baload, 1) := by decide +kernel
theorem dX13_sumOf_18 : decode cX13_sumOf 18 = .ok (.sipush 255, 3) := by decide +kernel
theorem dX13_sumOf_21 : decode cX13_sumOf 21 = .ok (.iand, 1) := by decide +kernel
theorem dX13_sumOf_22 : decode cX13_sumOf 22 = .ok (.bipush 24, 2) := by decide +kernel
theorem dX13_sumOf_24 : decode cX13_sumOf 24 = .ok (.ishl, 1) := by decide +kernel
theorem dX13_sumOf_25 : decode cX13_sumOf 25 = .ok (.ixor, 1) := by decide +kernel
theorem dX13_sumOf_26 : decode cX13_sumOf 26 = .ok (.istore_n 3, 1) := by decide +kernel
theorem dX13_sumOf_27 : decode cX13_sumOf 27 = .ok (.iconst 0, 1) := by decide +kernel
theorem dX13_sumOf_28 : decode cX13_sumOf 28 = .ok (.istore 5, 2) := by decide +kernel
theorem dX13_sumOf_30 : decode cX13_sumOf 30 = .ok (.iload 5, 2) := by decide +kernel
theorem dX13_sumOf_32 : decode cX13_sumOf 32 = .ok (.bipush 8, 2) := by decide +kernel
theorem dX13_sumOf_34 : decode cX13_sumOf 34 = .ok (.if_icmp .ge 26, 3) := by decide +kernel
theorem dX13_sumOf_37 : decode cX13_sumOf 37 = .ok (.iload_n 3, 1) := by decide +kernel
theorem dX13_sumOf_38 : decode cX13_sumOf 38 = .ok (.ifCond .ge 12, 3) := by decide +kernel
theorem dX13_sumOf_41 : decode cX13_sumOf 41 = .ok (.iload_n 3, 1) := by decide +kernel
theorem dX13_sumOf_42 : decode cX13_sumOf 42 = .ok (.iconst 1, 1) := by decide +kernel
theorem dX13_sumOf_43 : decode cX13_sumOf 43 = .ok (.ishl, 1) := by decide +kernel
theorem dX13_sumOf_44 : decode cX13_sumOf 44 = .ok (.ldc 149, 2) := by decide +kernel
theorem dX13_sumOf_46 : decode cX13_sumOf 46 = .ok (.ixor, 1) := by decide +kernel
theorem dX13_sumOf_47 : decode cX13_sumOf 47 = .ok (.goto 6, 3) := by decide +kernel
theorem dX13_sumOf_50 : decode cX13_sumOf 50 = .ok (.iload_n 3, 1) := by decide +kernel
theorem dX13_sumOf_51 : decode cX13_sumOf 51 = .ok (.iconst 1, 1) := by decide +kernel
theorem dX13_sumOf_52 : decode cX13_sumOf 52 = .ok (.ishl, 1) := by decide +kernel
theorem dX13_sumOf_53 : decode cX13_sumOf 53 = .ok (.istore_n 3, 1) := by decide +kernel
theorem dX13_sumOf_54 : decode cX13_sumOf 54 = .ok (.iinc 5 1, 3) := by decide +kernel
theorem dX13_sumOf_57 : decode cX13_sumOf 57 = .ok (.goto (-27), 3) := by decide +kernel
theorem dX13_sumOf_60 : decode cX13_sumOf 60 = .ok (.iinc 4 1, 3) := by decide +kernel
theorem dX13_sumOf_63 : decode cX13_sumOf 63 = .ok (.goto (-58), 3) := by decide +kernel
theorem dX13_sumOf_66 : decode cX13_sumOf 66 = .ok (.iload_n 3, 1) := by decide +kernel
theorem dX13_sumOf_67 : decode cX13_sumOf 67 = .ok (.iconst (-1), 1) := by decide +kernel
theorem dX13_sumOf_68 : decode cX13_sumOf 68 = .ok (.ixor, 1) := by decide +kernel
theorem dX13_sumOf_69 : decode cX13_sumOf 69 = .ok (.ireturn, 1) := by decide +kernel
theorem dX13_joined_0 : decode cX13_joined 0 = .ok (.iload_n 0, 1) := by decide +kernel
theorem dX13_joined_1 : decode cX13_joined 1 = .ok (.iconst 1, 1) := by decide +kernel
theorem dX13_joined_2 : decode cX13_joined 2 = .ok (.ishl, 1) := by decide +kernel
theorem dX13_joined_3 : decode cX13_joined 3 = .ok (.iload_n 0, 1) := by decide +kernel
theorem dX13_joined_4 : decode cX13_joined 4 = .ok (.bipush 31, 2) := by decide +kernel
theorem dX13_joined_6 : decode cX13_joined 6 = .ok (.iushr, 1) := by decide +kernel
theorem dX13_joined_7 : decode cX13_joined 7 = .ok (.ior, 1) := by decide +kernel
theorem dX13_joined_8 : decode cX13_joined 8 = .ok (.iload_n 1, 1) := by decide +kernel
theorem dX13_joined_9 : decode cX13_joined 9 = .ok (.ixor, 1) := by decide +kernel
theorem dX13_joined_10 : decode cX13_joined 10 = .ok (.ireturn, 1) := by decide +kernel
theorem dX13_putBit_0 : decode cX13_putBit 0 = .ok (.aload_n 0, 1) := by decide +kernel
theorem dX13_putBit_1 : decode cX13_putBit 1 = .ok (.getfield 150, 3) := by decide +kernel
theorem dX13_putBit_4 : decode cX13_putBit 4 = .ok (.sipush 32000, 3) := by decide +kernel
theorem dX13_putBit_7 : decode cX13_putBit 7 = .ok (.if_icmp .lt 9, 3) := by decide +kernel
theorem dX13_putBit_10 : decode cX13_putBit 10 = .ok (.aload_n 0, 1) := by decide +kernel
theorem dX13_putBit_11 : decode cX13_putBit 11 = .ok (.iconst 1, 1) := by decide +kernel
theorem dX13_putBit_12 : decode cX13_putBit 12 = .ok (.putfield 153, 3) := by decide +kernel
theorem dX13_putBit_15 : decode cX13_putBit 15 = .ok (.return_, 1) := by decide +kernel
theorem dX13_putBit_16 : decode cX13_putBit 16 = .ok (.aload_n 0, 1) := by decide +kernel
theorem dX13_putBit_17 : decode cX13_putBit 17 = .ok (.getfield 150, 3) := by decide +kernel
theorem dX13_putBit_20 : decode cX13_putBit 20 = .ok (.bipush 8, 2) := by decide +kernel
theorem dX13_putBit_22 : decode cX13_putBit 22 = .ok (.idiv, 1) := by decide +kernel
theorem dX13_putBit_23 : decode cX13_putBit 23 = .ok (.istore_n 2, 1) := by decide +kernel
theorem dX13_putBit_24 : decode cX13_putBit 24 = .ok (.aload_n 0, 1) := by decide +kernel
theorem dX13_putBit_25 : decode cX13_putBit 25 = .ok (.getfield 150, 3) := by decide +kernel
theorem dX13_putBit_28 : decode cX13_putBit 28 = .ok (.bipush 8, 2) := by decide +kernel
theorem dX13_putBit_30 : decode cX13_putBit 30 = .ok (.irem, 1) := by decide +kernel
theorem dX13_putBit_31 : decode cX13_putBit 31 = .ok (.ifCond .ne 10, 3) := by decide +kernel
theorem dX13_putBit_34 : decode cX13_putBit 34 = .ok (.aload_n 0, 1) := by decide +kernel
theorem dX13_putBit_35 : decode cX13_putBit 35 = .ok (.getfield 24, 3) := by decide +kernel
theorem dX13_putBit_38 : decode cX13_putBit 38 = .ok (.iload_n 2, 1) := by decide +kernel
theorem dX13_putBit_39 : decode cX13_putBit 39 = .ok (.iconst 0, 1) := by decide +kernel
theorem dX13_putBit_40 : decode cX13_putBit 40 = .ok (.bastore, 1) := by decide +kernel
theorem dX13_putBit_41 : decode cX13_putBit 41 = .ok (.aload_n 0, 1) := by decide +kernel
theorem dX13_putBit_42 : decode cX13_putBit 42 = .ok (.getfield 24, 3) := by decide +kernel
theorem dX13_putBit_45 : decode cX13_putBit 45 = .ok (.iload_n 2, 1) := by decide +kernel
theorem dX13_putBit_46 : decode cX13_putBit 46 = .ok (.aload_n 0, 1) := by decide +kernel
theorem dX13_putBit_47 : decode cX13_putBit 47 = .ok (.getfield 24, 3) := by decide +kernel
theorem dX13_putBit_50 : decode cX13_putBit 50 = .ok (.iload_n 2, 1) := by decide +kernel
theorem dX13_putBit_51 : decode cX13_putBit 51 = .ok (.baload, 1) := by decide +kernel
theorem dX13_putBit_52 : decode cX13_putBit 52 = .ok (.iload_n 1, 1) := by decide +kernel
theorem dX13_putBit_53 : decode cX13_putBit 53 = .ok (.bipush 7, 2) := by decide +kernel
theorem dX13_putBit_55 : decode cX13_putBit 55 = .ok (.aload_n 0, 1) := by decide +kernel
theorem dX13_putBit_56 : decode cX13_putBit 56 = .ok (.getfield 150, 3) := by decide +kernel
theorem dX13_putBit_59 : decode cX13_putBit 59 = .ok (.bipush 8, 2) := by decide +kernel
theorem dX13_putBit_61 : decode cX13_putBit 61 = .ok (.irem, 1) := by decide +kernel
theorem dX13_putBit_62 : decode cX13_putBit 62 = .ok (.isub, 1) := by decide +kernel
theorem dX13_putBit_63 : decode cX13_putBit 63 = .ok (.ishl, 1) := by decide +kernel
theorem dX13_putBit_64 : decode cX13_putBit 64 = .ok (.ior, 1) := by decide +kernel
theorem dX13_putBit_65 : decode cX13_putBit 65 = .ok (.i2b, 1) := by decide +kernel
theorem dX13_putBit_66 : decode cX13_putBit 66 = .ok (.bastore, 1) := by decide +kernel
theorem dX13_putBit_67 : decode cX13_putBit 67 = .ok (.aload_n 0, 1) := by decide +kernel
theorem dX13_putBit_68 : decode cX13_putBit 68 = .ok (.dup, 1) := by decide +kernel
theorem dX13_putBit_69 : decode cX13_putBit 69 = .ok (.getfield 150, 3) := by decide +kernel
theorem dX13_putBit_72 : decode cX13_putBit 72 = .ok (.iconst 1, 1) := by decide +kernel
theorem dX13_putBit_73 : decode cX13_putBit 73 = .ok (.iadd, 1) := by decide +kernel
theorem dX13_putBit_74 : decode cX13_putBit 74 = .ok (.putfield 150, 3) := by decide +kernel
theorem dX13_putBit_77 : decode cX13_putBit 77 = .ok (.return_, 1) := by decide +kernel
theorem dX13_put_0 : decode cX13_put 0 = .ok (.iload_n 3, 1) := by decide +kernel
theorem dX13_put_1 : decode cX13_put 1 = .ok (.iconst 1, 1) := by decide +kernel
theorem dX13_put_2 : decode cX13_put 2 = .ok (.isub, 1) := by decide +kernel
theorem dX13_put_3 : decode cX13_put 3 = .ok (.istore 4, 2) := by decide +kernel
theorem dX13_put_5 : decode cX13_put 5 = .ok (.iload 4, 2) := by decide +kernel
theorem dX13_put_7 : decode cX13_put 7 = .ok (.ifCond .lt 20, 3) := by decide +kernel
theorem dX13_put_10 : decode cX13_put 10 = .ok (.aload_n 0, 1) := by decide +kernel
theorem dX13_put_11 : decode cX13_put 11 = .ok (.lload_n 1, 1) := by decide +kernel
theorem dX13_put_12 : decode cX13_put 12 = .ok (.iload 4, 2) := by decide +kernel
theorem dX13_put_14 : decode cX13_put 14 = .ok (.lushr, 1) := by decide +kernel
theorem dX13_put_15 : decode cX13_put 15 = .ok (.lconst 1, 1) := by decide +kernel
theorem dX13_put_16 : decode cX13_put 16 = .ok (.land, 1) := by decide +kernel
theorem dX13_put_17 : decode cX13_put 17 = .ok (.l2i, 1) := by decide +kernel
theorem dX13_put_18 : decode cX13_put 18 = .ok (.invokevirtual 157, 3) := by decide +kernel
theorem dX13_put_21 : decode cX13_put 21 = .ok (.iinc 4 (-1), 3) := by decide +kernel
theorem dX13_put_24 : decode cX13_put 24 = .ok (.goto (-19), 3) := by decide +kernel
theorem dX13_put_27 : decode cX13_put 27 = .ok (.return_, 1) := by decide +kernel
theorem dX13_isAhead_0 : decode cX13_isAhead 0 = .ok (.iload_n 1, 1) := by decide +kernel
theorem dX13_isAhead_1 : decode cX13_isAhead 1 = .ok (.istore_n 3, 1) := by decide +kernel
theorem dX13_isAhead_2 : decode cX13_isAhead 2 = .ok (.iload_n 2, 1) := by decide +kernel
theorem dX13_isAhead_3 : decode cX13_isAhead 3 = .ok (.istore 4, 2) := by decide +kernel
theorem dX13_isAhead_5 : decode cX13_isAhead 5 = .ok (.iconst 0, 1) := by decide +kernel
theorem dX13_isAhead_6 : decode cX13_isAhead 6 = .ok (.istore 5, 2) := by decide +kernel
theorem dX13_isAhead_8 : decode cX13_isAhead 8 = .ok (.iload 5, 2) := by decide +kernel
theorem dX13_isAhead_10 : decode cX13_isAhead 10 = .ok (.aload_n 0, 1) := by decide +kernel
theorem dX13_isAhead_11 : decode cX13_isAhead 11 = .ok (.getfield 161, 3) := by decide +kernel
theorem dX13_isAhead_14 : decode cX13_isAhead 14 = .ok (.if_icmp .ge 93, 3) := by decide +kernel
theorem dX13_isAhead_17 : decode cX13_isAhead 17 = .ok (.aload_n 0, 1) := by decide +kernel
theorem dX13_isAhead_18 : decode cX13_isAhead 18 = .ok (.getfield 44, 3) := by decide +kernel
theorem dX13_isAhead_21 : decode cX13_isAhead 21 = .ok (.iload_n 3, 1) := by decide +kernel
theorem dX13_isAhead_22 : decode cX13_isAhead 22 = .ok (.baload, 1) := by decide +kernel
theorem dX13_isAhead_23 : decode cX13_isAhead 23 = .ok (.sipush 255, 3) := by decide +kernel
theorem dX13_isAhead_26 : decode cX13_isAhead 26 = .ok (.iand, 1) := by decide +kernel
theorem dX13_isAhead_27 : decode cX13_isAhead 27 = .ok (.istore 6, 2) := by decide +kernel
theorem dX13_isAhead_29 : decode cX13_isAhead 29 = .ok (.aload_n 0, 1) := by decide +kernel
theorem dX13_isAhead_30 : decode cX13_isAhead 30 = .ok (.getfield 44, 3) := by decide +kernel
theorem dX13_isAhead_33 : decode cX13_isAhead 33 = .ok (.iload 4, 2) := by decide +kernel
theorem dX13_isAhead_35 : decode cX13_isAhead 35 = .ok (.baload, 1) := by decide +kernel
theorem dX13_isAhead_36 : decode cX13_isAhead 36 = .ok (.sipush 255, 3) := by decide +kernel
theorem dX13_isAhead_39 : decode cX13_isAhead 39 = .ok (.iand, 1) := by decide +kernel
theorem dX13_isAhead_40 : decode cX13_isAhead 40 = .ok (.istore 7, 2) := by decide +kernel
theorem dX13_isAhead_42 : decode cX13_isAhead 42 = .ok (.iload 6, 2) := by decide +kernel
theorem dX13_isAhead_44 : decode cX13_isAhead 44 = .ok (.iload 7, 2) := by decide +kernel
theorem dX13_isAhead_46 : decode cX13_isAhead 46 = .ok (.if_icmp .eq 16, 3) := by decide +kernel
theorem dX13_isAhead_49 : decode cX13_isAhead 49 = .ok (.iload 6, 2) := by decide +kernel
theorem dX13_isAhead_51 : decode cX13_isAhead 51 = .ok (.iload 7, 2) := by decide +kernel
theorem dX13_isAhead_53 : decode cX13_isAhead 53 = .ok (.if_icmp .ge 7, 3) := by decide +kernel
theorem dX13_isAhead_56 : decode cX13_isAhead 56 = .ok (.iconst 1, 1) := by decide +kernel
theorem dX13_isAhead_57 : decode cX13_isAhead 57 = .ok (.goto 4, 3) := by decide +kernel
theorem dX13_isAhead_60 : decode cX13_isAhead 60 = .ok (.iconst 0, 1) := by decide +kernel
theorem dX13_isAhead_61 : decode cX13_isAhead 61 = .ok (.ireturn, 1) := by decide +kernel
theorem dX13_isAhead_62 : decode cX13_isAhead 62 = .ok (.iload_n 3, 1) := by decide +kernel
theorem dX13_isAhead_63 : decode cX13_isAhead 63 = .ok (.iconst 1, 1) := by decide +kernel
theorem dX13_isAhead_64 : decode cX13_isAhead 64 = .ok (.iadd, 1) := by decide +kernel
theorem dX13_isAhead_65 : decode cX13_isAhead 65 = .ok (.aload_n 0, 1) := by decide +kernel
theorem dX13_isAhead_66 : decode cX13_isAhead 66 = .ok (.getfield 161, 3) := by decide +kernel
theorem dX13_isAhead_69 : decode cX13_isAhead 69 = .ok (.if_icmp .ne 7, 3) := by decide +kernel
theorem dX13_isAhead_72 : decode cX13_isAhead 72 = .ok (.iconst 0, 1) := by decide +kernel
theorem dX13_isAhead_73 : decode cX13_isAhead 73 = .ok (.goto 6, 3) := by decide +kernel
theorem dX13_isAhead_76 : decode cX13_isAhead 76 = .ok (.iload_n 3, 1) := by decide +kernel
theorem dX13_isAhead_77 : decode cX13_isAhead 77 = .ok (.iconst 1, 1) := by decide +kernel
theorem dX13_isAhead_78 : decode cX13_isAhead 78 = .ok (.iadd, 1) := by decide +kernel
theorem dX13_isAhead_79 : decode cX13_isAhead 79 = .ok (.istore_n 3, 1) := by decide +kernel
theorem dX13_isAhead_80 : decode cX13_isAhead 80 = .ok (.iload 4, 2) := by decide +kernel
theorem dX13_isAhead_82 : decode cX13_isAhead 82 = .ok (.iconst 1, 1) := by decide +kernel
theorem dX13_isAhead_83 : decode cX13_isAhead 83 = .ok (.iadd, 1) := by decide +kernel
theorem dX13_isAhead_84 : decode cX13_isAhead 84 = .ok (.aload_n 0, 1) := by decide +kernel
theorem dX13_isAhead_85 : decode cX13_isAhead 85 = .ok (.getfield 161, 3) := by decide +kernel
theorem dX13_isAhead_88 : decode cX13_isAhead 88 = .ok (.if_icmp .ne 7, 3) := by decide +kernel
theorem dX13_isAhead_91 : decode cX13_isAhead 91 = .ok (.iconst 0, 1) := by decide +kernel
theorem dX13_isAhead_92 : decode cX13_isAhead 92 = .ok (.goto 7, 3) := by decide +kernel
theorem dX13_isAhead_95 : decode cX13_isAhead 95 = .ok (.iload 4, 2) := by decide +kernel
theorem dX13_isAhead_97 : decode cX13_isAhead 97 = .ok (.iconst 1, 1) := by decide +kernel
theorem dX13_isAhead_98 : decode cX13_isAhead 98 = .ok (.iadd, 1) := by decide +kernel
theorem dX13_isAhead_99 : decode cX13_isAhead 99 = .ok (.istore 4, 2) := by decide +kernel
theorem dX13_isAhead_101 : decode cX13_isAhead 101 = .ok (.iinc 5 1, 3) := by decide +kernel
theorem dX13_isAhead_104 : decode cX13_isAhead 104 = .ok (.goto (-96), 3) := by decide +kernel
theorem dX13_isAhead_107 : decode cX13_isAhead 107 = .ok (.iload_n 1, 1) := by decide +kernel
theorem dX13_isAhead_108 : decode cX13_isAhead 108 = .ok (.iload_n 2, 1) := by decide +kernel
theorem dX13_isAhead_109 : decode cX13_isAhead 109 = .ok (.if_icmp .ge 7, 3) := by decide +kernel
theorem dX13_isAhead_112 : decode cX13_isAhead 112 = .ok (.iconst 1, 1) := by decide +kernel
theorem dX13_isAhead_113 : decode cX13_isAhead 113 = .ok (.goto 4, 3) := by decide +kernel
theorem dX13_isAhead_116 : decode cX13_isAhead 116 = .ok (.iconst 0, 1) := by decide +kernel
theorem dX13_isAhead_117 : decode cX13_isAhead 117 = .ok (.ireturn, 1) := by decide +kernel
theorem dX13_sortTurns_0 : decode cX13_sortTurns 0 = .ok (.iconst 0, 1) := by decide +kernel
theorem dX13_sortTurns_1 : decode cX13_sortTurns 1 = .ok (.istore_n 1, 1) := by decide +kernel
theorem dX13_sortTurns_2 : decode cX13_sortTurns 2 = .ok (.iload_n 1, 1) := by decide +kernel
theorem dX13_sortTurns_3 : decode cX13_sortTurns 3 = .ok (.aload_n 0, 1) := by decide +kernel
theorem dX13_sortTurns_4 : decode cX13_sortTurns 4 = .ok (.getfield 161, 3) := by decide +kernel
theorem dX13_sortTurns_7 : decode cX13_sortTurns 7 = .ok (.if_icmp .ge 16, 3) := by decide +kernel
theorem dX13_sortTurns_10 : decode cX13_sortTurns 10 = .ok (.aload_n 0, 1) := by decide +kernel
theorem dX13_sortTurns_11 : decode cX13_sortTurns 11 = .ok (.getfield 47, 3) := by decide +kernel
theorem dX13_sortTurns_14 : decode cX13_sortTurns 14 = .ok (.iload_n 1, 1) := by decide +kernel
theorem dX13_sortTurns_15 : decode cX13_sortTurns 15 = .ok (.iload_n 1, 1) := by decide +kernel
theorem dX13_sortTurns_16 : decode cX13_sortTurns 16 = .ok (.iastore, 1) := by decide +kernel
theorem dX13_sortTurns_17 : decode cX13_sortTurns 17 = .ok (.iinc 1 1, 3) := by decide +kernel
theorem dX13_sortTurns_20 : decode cX13_sortTurns 20 = .ok (.goto (-18), 3) := by decide +kernel
theorem dX13_sortTurns_23 : decode cX13_sortTurns 23 = .ok (.iconst 1, 1) := by decide +kernel
theorem dX13_sortTurns_24 : decode cX13_sortTurns 24 = .ok (.istore_n 1, 1) := by decide +kernel
theorem dX13_sortTurns_25 : decode cX13_sortTurns 25 = .ok (.iload_n 1, 1) := by decide +kernel
theorem dX13_sortTurns_26 : decode cX13_sortTurns 26 = .ok (.aload_n 0, 1) := by decide +kernel
theorem dX13_sortTurns_27 : decode cX13_sortTurns 27 = .ok (.getfield 161, 3) := by decide +kernel
theorem dX13_sortTurns_30 : decode cX13_sortTurns 30 = .ok (.if_icmp .ge 228, 3) := by decide +kernel
theorem dX13_sortTurns_33 : decode cX13_sortTurns 33 = .ok (.iconst 0, 1) := by decide +kernel
theorem dX13_sortTurns_34 : decode cX13_sortTurns 34 = .ok (.istore_n 2, 1) := by decide +kernel
theorem dX13_sortTurns_35 : decode cX13_sortTurns 35 = .ok (.iload_n 2, 1) := by decide +kernel
theorem dX13_sortTurns_36 : decode cX13_sortTurns 36 = .ok (.aload_n 0, 1) := by decide +kernel
theorem dX13_sortTurns_37 : decode cX13_sortTurns 37 = .ok (.getfield 161, 3) := by decide +kernel
theorem dX13_sortTurns_40 : decode cX13_sortTurns 40 = .ok (.if_icmp .ge 183, 3) := by decide +kernel
theorem dX13_sortTurns_43 : decode cX13_sortTurns 43 = .ok (.iload_n 2, 1) := by decide +kernel
theorem dX13_sortTurns_44 : decode cX13_sortTurns 44 = .ok (.iload_n 1, 1) := by decide +kernel
theorem dX13_sortTurns_45 : decode cX13_sortTurns 45 = .ok (.iadd, 1) := by decide +kernel
theorem dX13_sortTurns_46 : decode cX13_sortTurns 46 = .ok (.aload_n 0, 1) := by decide +kernel
theorem dX13_sortTurns_47 : decode cX13_sortTurns 47 = .ok (.getfield 161, 3) := by decide +kernel
theorem dX13_sortTurns_50 : decode cX13_sortTurns 50 = .ok (.if_icmp .ge 9, 3) := by decide +kernel
theorem dX13_sortTurns_53 : decode cX13_sortTurns 53 = .ok (.iload_n 2, 1) := by decide +kernel
theorem dX13_sortTurns_54 : decode cX13_sortTurns 54 = .ok (.iload_n 1, 1) := by decide +kernel
theorem dX13_sortTurns_55 : decode cX13_sortTurns 55 = .ok (.iadd, 1) := by decide +kernel
theorem dX13_sortTurns_56 : decode cX13_sortTurns 56 = .ok (.goto 7, 3) := by decide +kernel
theorem dX13_sortTurns_59 : decode cX13_sortTurns 59 = .ok (.aload_n 0, 1) := by decide +kernel
theorem dX13_sortTurns_60 : decode cX13_sortTurns 60 = .ok (.getfield 161, 3) := by decide +kernel
theorem dX13_sortTurns_63 : decode cX13_sortTurns 63 = .ok (.istore_n 3, 1) := by decide +kernel
theorem dX13_sortTurns_64 : decode cX13_sortTurns 64 = .ok (.iload_n 2, 1) := by decide +kernel
theorem dX13_sortTurns_65 : decode cX13_sortTurns 65 = .ok (.iconst 2, 1) := by decide +kernel
theorem dX13_sortTurns_66 : decode cX13_sortTurns 66 = .ok (.iload_n 1, 1) := by decide +kernel
theorem dX13_sortTurns_67 : decode cX13_sortTurns 67 = .ok (.imul, 1) := by decide +kernel
theorem dX13_sortTurns_68 : decode cX13_sortTurns 68 = .ok (.iadd, 1) := by decide +kernel
theorem dX13_sortTurns_69 : decode cX13_sortTurns 69 = .ok (.aload_n 0, 1) := by decide +kernel
theorem dX13_sortTurns_70 : decode cX13_sortTurns 70 = .ok (.getfield 161, 3) := by decide +kernel
theorem dX13_sortTurns_73 : decode cX13_sortTurns 73 = .ok (.if_icmp .ge 11, 3) := by decide +kernel
theorem dX13_sortTurns_76 : decode cX13_sortTurns 76 = .ok (.iload_n 2, 1) := by decide +kernel
theorem dX13_sortTurns_77 : decode cX13_sortTurns 77 = .ok (.iconst 2, 1) := by decide +kernel
theorem dX13_sortTurns_78 : decode cX13_sortTurns 78 = .ok (.iload_n 1, 1) := by decide +kernel
theorem dX13_sortTurns_79 : decode cX13_sortTurns 79 = .ok (.imul, 1) := by decide +kernel
theorem dX13_sortTurns_80 : decode cX13_sortTurns 80 = .ok (.iadd, 1) := by decide +kernel
theorem dX13_sortTurns_81 : decode cX13_sortTurns 81 = .ok (.goto 7, 3) := by decide +kernel
theorem dX13_sortTurns_84 : decode cX13_sortTurns 84 = .ok (.aload_n 0, 1) := by decide +kernel
theorem dX13_sortTurns_85 : decode cX13_sortTurns 85 = .ok (.getfield 161, 3) := by decide +kernel
theorem dX13_sortTurns_88 : decode cX13_sortTurns 88 = .ok (.istore 4, 2) := by decide +kernel
theorem dX13_sortTurns_90 : decode cX13_sortTurns 90 = .ok (.iload_n 2, 1) := by decide +kernel
theorem dX13_sortTurns_91 : decode cX13_sortTurns 91 = .ok (.istore 5, 2) := by decide +kernel
theorem dX13_sortTurns_93 : decode cX13_sortTurns 93 = .ok (.iload_n 3, 1) := by decide +kernel
theorem dX13_sortTurns_94 : decode cX13_sortTurns 94 = .ok (.istore 6, 2) := by decide +kernel
theorem dX13_sortTurns_96 : decode cX13_sortTurns 96 = .ok (.iload_n 2, 1) := by decide +kernel
theorem dX13_sortTurns_97 : decode cX13_sortTurns 97 = .ok (.istore 7, 2) := by decide +kernel
theorem dX13_sortTurns_99 : decode cX13_sortTurns 99 = .ok (.iload 7, 2) := by decide +kernel
theorem dX13_sortTurns_101 : decode cX13_sortTurns 101 = .ok (.iload 4, 2) := by decide +kernel
theorem dX13_sortTurns_103 : decode cX13_sortTurns 103 = .ok (.if_icmp .ge 111, 3) := by decide +kernel
theorem dX13_sortTurns_106 : decode cX13_sortTurns 106 = .ok (.iload 5, 2) := by decide +kernel
theorem dX13_sortTurns_108 : decode cX13_sortTurns 108 = .ok (.iload_n 3, 1) := by decide +kernel
theorem dX13_sortTurns_109 : decode cX13_sortTurns 109 = .ok (.if_icmp .ge 35, 3) := by decide +kernel
theorem dX13_sortTurns_112 : decode cX13_sortTurns 112 = .ok (.iload 6, 2) := by decide +kernel
theorem dX13_sortTurns_114 : decode cX13_sortTurns 114 = .ok (.iload 4, 2) := by decide +kernel
theorem dX13_sortTurns_116 : decode cX13_sortTurns 116 = .ok (.if_icmp .ge 24, 3) := by decide +kernel
theorem dX13_sortTurns_119 : decode cX13_sortTurns 119 = .ok (.aload_n 0, 1) := by decide +kernel
theorem dX13_sortTurns_120 : decode cX13_sortTurns 120 = .ok (.aload_n 0, 1) := by decide +kernel
theorem dX13_sortTurns_121 : decode cX13_sortTurns 121 = .ok (.getfield 47, 3) := by decide +kernel
theorem dX13_sortTurns_124 : decode cX13_sortTurns 124 = .ok (.iload 6, 2) := by decide +kernel
theorem dX13_sortTurns_126 : decode cX13_sortTurns 126 = .ok (.iaload, 1) := by decide +kernel
theorem dX13_sortTurns_127 : decode cX13_sortTurns 127 = .ok (.aload_n 0, 1) := by decide +kernel
theorem dX13_sortTurns_128 : decode cX13_sortTurns 128 = .ok (.getfield 47, 3) := by decide +kernel
theorem dX13_sortTurns_131 : decode cX13_sortTurns 131 = .ok (.iload 5, 2) := by decide +kernel
theorem dX13_sortTurns_133 : decode cX13_sortTurns 133 = .ok (.iaload, 1) := by decide +kernel
theorem dX13_sortTurns_134 : decode cX13_sortTurns 134 = .ok (.invokevirtual 164, 3) := by decide +kernel
theorem dX13_sortTurns_137 : decode cX13_sortTurns 137 = .ok (.ifCond .ne 7, 3) := by decide +kernel
theorem dX13_sortTurns_140 : decode cX13_sortTurns 140 = .ok (.iconst 1, 1) := by decide +kernel
theorem dX13_sortTurns_141 : decode cX13_sortTurns 141 = .ok (.goto 4, 3) := by decide +kernel
theorem dX13_sortTurns_144 : decode cX13_sortTurns 144 = .ok (.iconst 0, 1) := by decide +kernel
theorem dX13_sortTurns_145 : decode cX13_sortTurns 145 = .ok (.istore 8, 2) := by decide +kernel
theorem dX13_sortTurns_147 : decode cX13_sortTurns 147 = .ok (.aload_n 0, 1) := by decide +kernel
theorem dX13_sortTurns_148 : decode cX13_sortTurns 148 = .ok (.getfield 50, 3) := by decide +kernel
theorem dX13_sortTurns_151 : decode cX13_sortTurns 151 = .ok (.iload 7, 2) := by decide +kernel
theorem dX13_sortTurns_153 : decode cX13_sortTurns 153 = .ok (.iload 8, 2) := by decide +kernel
theorem dX13_sortTurns_155 : decode cX13_sortTurns 155 = .ok (.ifCond .eq 13, 3) := by decide +kernel
theorem dX13_sortTurns_158 : decode cX13_sortTurns 158 = .ok (.aload_n 0, 1) := by decide +kernel
theorem dX13_sortTurns_159 : decode cX13_sortTurns 159 = .ok (.getfield 47, 3) := by decide +kernel
theorem dX13_sortTurns_162 : decode cX13_sortTurns 162 = .ok (.iload 5, 2) := by decide +kernel
theorem dX13_sortTurns_164 : decode cX13_sortTurns 164 = .ok (.iaload, 1) := by decide +kernel
theorem dX13_sortTurns_165 : decode cX13_sortTurns 165 = .ok (.goto 10, 3) := by decide +kernel
theorem dX13_sortTurns_168 : decode cX13_sortTurns 168 = .ok (.aload_n 0, 1) := by decide +kernel
theorem dX13_sortTurns_169 : decode cX13_sortTurns 169 = .ok (.getfield 47, 3) := by decide +kernel
theorem dX13_sortTurns_172 : decode cX13_sortTurns 172 = .ok (.iload 6, 2) := by decide +kernel
theorem dX13_sortTurns_174 : decode cX13_sortTurns 174 = .ok (.iaload, 1) := by decide +kernel
theorem dX13_sortTurns_175 : decode cX13_sortTurns 175 = .ok (.iastore, 1) := by decide +kernel
theorem dX13_sortTurns_176 : decode cX13_sortTurns 176 = .ok (.iload 8, 2) := by decide +kernel
theorem dX13_sortTurns_178 : decode cX13_sortTurns 178 = .ok (.ifCond .eq 10, 3) := by decide +kernel
theorem dX13_sortTurns_181 : decode cX13_sortTurns 181 = .ok (.iload 5, 2) := by decide +kernel
theorem dX13_sortTurns_183 : decode cX13_sortTurns 183 = .ok (.iconst 1, 1) := by decide +kernel
theorem dX13_sortTurns_184 : decode cX13_sortTurns 184 = .ok (.iadd, 1) := by decide +kernel
theorem dX13_sortTurns_185 : decode cX13_sortTurns 185 = .ok (.goto 5, 3) := by decide +kernel
theorem dX13_sortTurns_188 : decode cX13_sortTurns 188 = .ok (.iload 5, 2) := by decide +kernel
theorem dX13_sortTurns_190 : decode cX13_sortTurns 190 = .ok (.istore 5, 2) := by decide +kernel
theorem dX13_sortTurns_192 : decode cX13_sortTurns 192 = .ok (.iload 8, 2) := by decide +kernel
theorem dX13_sortTurns_194 : decode cX13_sortTurns 194 = .ok (.ifCond .eq 8, 3) := by decide +kernel
theorem dX13_sortTurns_197 : decode cX13_sortTurns 197 = .ok (.iload 6, 2) := by decide +kernel
theorem dX13_sortTurns_199 : decode cX13_sortTurns 199 = .ok (.goto 7, 3) := by decide +kernel
theorem dX13_sortTurns_202 : decode cX13_sortTurns 202 = .ok (.iload 6, 2) := by decide +kernel
theorem dX13_sortTurns_204 : decode cX13_sortTurns 204 = .ok (.iconst 1, 1) := by decide +kernel
theorem dX13_sortTurns_205 : decode cX13_sortTurns 205 = .ok (.iadd, 1) := by decide +kernel
theorem dX13_sortTurns_206 : decode cX13_sortTurns 206 = .ok (.istore 6, 2) := by decide +kernel
theorem dX13_sortTurns_208 : decode cX13_sortTurns 208 = .ok (.iinc 7 1, 3) := by decide +kernel
theorem dX13_sortTurns_211 : decode cX13_sortTurns 211 = .ok (.goto (-112), 3) := by decide +kernel
theorem dX13_sortTurns_214 : decode cX13_sortTurns 214 = .ok (.iload_n 2, 1) := by decide +kernel
theorem dX13_sortTurns_215 : decode cX13_sortTurns 215 = .ok (.iconst 2, 1) := by decide +kernel
theorem dX13_sortTurns_216 : decode cX13_sortTurns 216 = .ok (.iload_n 1, 1) := by decide +kernel
theorem dX13_sortTurns_217 : decode cX13_sortTurns 217 = .ok (.imul, 1) := by decide +kernel
theorem dX13_sortTurns_218 : decode cX13_sortTurns 218 = .ok (.iadd, 1) := by decide +kernel
theorem dX13_sortTurns_219 : decode cX13_sortTurns 219 = .ok (.istore_n 2, 1) := by decide +kernel
theorem dX13_sortTurns_220 : decode cX13_sortTurns 220 = .ok (.goto (-185), 3) := by decide +kernel
theorem dX13_sortTurns_223 : decode cX13_sortTurns 223 = .ok (.iconst 0, 1) := by decide +kernel
theorem dX13_sortTurns_224 : decode cX13_sortTurns 224 = .ok (.istore_n 2, 1) := by decide +kernel
theorem dX13_sortTurns_225 : decode cX13_sortTurns 225 = .ok (.iload_n 2, 1) := by decide +kernel
theorem dX13_sortTurns_226 : decode cX13_sortTurns 226 = .ok (.aload_n 0, 1) := by decide +kernel
theorem dX13_sortTurns_227 : decode cX13_sortTurns 227 = .ok (.getfield 161, 3) := by decide +kernel
theorem dX13_sortTurns_230 : decode cX13_sortTurns 230 = .ok (.if_icmp .ge 21, 3) := by decide +kernel
theorem dX13_sortTurns_233 : decode cX13_sortTurns 233 = .ok (.aload_n 0, 1) := by decide +kernel
theorem dX13_sortTurns_234 : decode cX13_sortTurns 234 = .ok (.getfield 47, 3) := by decide +kernel
theorem dX13_sortTurns_237 : decode cX13_sortTurns 237 = .ok (.iload_n 2, 1) := by decide +kernel
theorem dX13_sortTurns_238 : decode cX13_sortTurns 238 = .ok (.aload_n 0, 1) := by decide +kernel
theorem dX13_sortTurns_239 : decode cX13_sortTurns 239 = .ok (.getfield 50, 3) := by decide +kernel
theorem dX13_sortTurns_242 : decode cX13_sortTurns 242 = .ok (.iload_n 2, 1) := by decide +kernel
theorem dX13_sortTurns_243 : decode cX13_sortTurns 243 = .ok (.iaload, 1) := by decide +kernel
theorem dX13_sortTurns_244 : decode cX13_sortTurns 244 = .ok (.iastore, 1) := by decide +kernel
theorem dX13_sortTurns_245 : decode cX13_sortTurns 245 = .ok (.iinc 2 1, 3) := by decide +kernel
theorem dX13_sortTurns_248 : decode cX13_sortTurns 248 = .ok (.goto (-23), 3) := by decide +kernel
theorem dX13_sortTurns_251 : decode cX13_sortTurns 251 = .ok (.iconst 2, 1) := by decide +kernel
theorem dX13_sortTurns_252 : decode cX13_sortTurns 252 = .ok (.iload_n 1, 1) := by decide +kernel
theorem dX13_sortTurns_253 : decode cX13_sortTurns 253 = .ok (.imul, 1) := by decide +kernel
theorem dX13_sortTurns_254 : decode cX13_sortTurns 254 = .ok (.istore_n 1, 1) := by decide +kernel
theorem dX13_sortTurns_255 : decode cX13_sortTurns 255 = .ok (.goto (-230), 3) := by decide +kernel
theorem dX13_sortTurns_258 : decode cX13_sortTurns 258 = .ok (.return_, 1) := by decide +kernel
theorem dX13_findSigns_0 : decode cX13_findSigns 0 = .ok (.iconst 0, 1) := by decide +kernel
theorem dX13_findSigns_1 : decode cX13_findSigns 1 = .ok (.istore_n 1, 1) := by decide +kernel
theorem dX13_findSigns_2 : decode cX13_findSigns 2 = .ok (.iload_n 1, 1) := by decide +kernel
theorem dX13_findSigns_3 : decode cX13_findSigns 3 = .ok (.sipush 256, 3) := by decide +kernel
theorem dX13_findSigns_6 : decode cX13_findSigns 6 = .ok (.if_icmp .ge 16, 3) := by decide +kernel
theorem dX13_findSigns_9 : decode cX13_findSigns 9 = .ok (.aload_n 0, 1) := by decide +kernel
theorem dX13_findSigns_10 : decode cX13_findSigns 10 = .ok (.getfield 59, 3) := by decide +kernel
theorem dX13_findSigns_13 : decode cX13_findSigns 13 = .ok (.iload_n 1, 1) := by decide +kernel
theorem dX13_findSigns_14 : decode cX13_findSigns 14 = .ok (.iconst 0, 1) := by decide +kernel
theorem dX13_findSigns_15 : decode cX13_findSigns 15 = .ok (.bastore, 1) := by decide +kernel
theorem dX13_findSigns_16 : decode cX13_findSigns 16 = .ok (.iinc 1 1, 3) := by decide +kernel
theorem dX13_findSigns_19 : decode cX13_findSigns 19 = .ok (.goto (-17), 3) := by decide +kernel
theorem dX13_findSigns_22 : decode cX13_findSigns 22 = .ok (.iconst 0, 1) := by decide +kernel
theorem dX13_findSigns_23 : decode cX13_findSigns 23 = .ok (.istore_n 1, 1) := by decide +kernel
theorem dX13_findSigns_24 : decode cX13_findSigns 24 = .ok (.iload_n 1, 1) := by decide +kernel
theorem dX13_findSigns_25 : decode cX13_findSigns 25 = .ok (.aload_n 0, 1) := by decide +kernel
theorem dX13_findSigns_26 : decode cX13_findSigns 26 = .ok (.getfield 161, 3) := by decide +kernel
theorem dX13_findSigns_29 : decode cX13_findSigns 29 = .ok (.if_icmp .ge 25, 3) := by decide +kernel
theorem dX13_findSigns_32 : decode cX13_findSigns 32 = .ok (.aload_n 0, 1) := by decide +kernel
theorem dX13_findSigns_33 : decode cX13_findSigns 33 = .ok (.getfield 59, 3) := by decide +kernel
theorem dX13_findSigns_36 : decode cX13_findSigns 36 = .ok (.aload_n 0, 1) := by decide +kernel
theorem dX13_findSigns_37 : decode cX13_findSigns 37 = .ok (.getfield 44, 3) := by decide +kernel
theorem dX13_findSigns_40 : decode cX13_findSigns 40 = .ok (.iload_n 1, 1) := by decide +kernel
theorem dX13_findSigns_41 : decode cX13_findSigns 41 = .ok (.baload, 1) := by decide +kernel
theorem dX13_findSigns_42 : decode cX13_findSigns 42 = .ok (.sipush 255, 3) := by decide +kernel
theorem dX13_findSigns_45 : decode cX13_findSigns 45 = .ok (.iand, 1) := by decide +kernel
theorem dX13_findSigns_46 : decode cX13_findSigns 46 = .ok (.iconst 1, 1) := by decide +kernel
theorem dX13_findSigns_47 : decode cX13_findSigns 47 = .ok (.bastore, 1) := by decide +kernel
theorem dX13_findSigns_48 : decode cX13_findSigns 48 = .ok (.iinc 1 1, 3) := by decide +kernel
theorem dX13_findSigns_51 : decode cX13_findSigns 51 = .ok (.goto (-27), 3) := by decide +kernel
theorem dX13_findSigns_54 : decode cX13_findSigns 54 = .ok (.aload_n 0, 1) := by decide +kernel
theorem dX13_findSigns_55 : decode cX13_findSigns 55 = .ok (.invokevirtual 168, 3) := by decide +kernel
theorem dX13_findSigns_58 : decode cX13_findSigns 58 = .ok (.return_, 1) := by decide +kernel
theorem dX13_takeSigns_0 : decode cX13_takeSigns 0 = .ok (.aload_n 0, 1) := by decide +kernel
theorem dX13_takeSigns_1 : decode cX13_takeSigns 1 = .ok (.iconst 0, 1) := by decide +kernel
theorem dX13_takeSigns_2 : decode cX13_takeSigns 2 = .ok (.putfield 171, 3) := by decide +kernel
theorem dX13_takeSigns_5 : decode cX13_takeSigns 5 = .ok (.iconst 0, 1) := by decide +kernel
theorem dX13_takeSigns_6 : decode cX13_takeSigns 6 = .ok (.istore_n 1, 1) := by decide +kernel
theorem dX13_takeSigns_7 : decode cX13_takeSigns 7 = .ok (.iload_n 1, 1) := by decide +kernel
theorem dX13_takeSigns_8 : decode cX13_takeSigns 8 = .ok (.sipush 256, 3) := by decide +kernel
theorem dX13_takeSigns_11 : decode cX13_takeSigns 11 = .ok (.if_icmp .ge 38, 3) := by decide +kernel
theorem dX13_takeSigns_14 : decode cX13_takeSigns 14 = .ok (.aload_n 0, 1) := by decide +kernel
theorem dX13_takeSigns_15 : decode cX13_takeSigns 15 = .ok (.getfield 59, 3) := by decide +kernel
theorem dX13_takeSigns_18 : decode cX13_takeSigns 18 = .ok (.iload_n 1, 1) := by decide +kernel
theorem dX13_takeSigns_19 : decode cX13_takeSigns 19 = .ok (.baload, 1) := by decide +kernel
theorem dX13_takeSigns_20 : decode cX13_takeSigns 20 = .ok (.ifCond .eq 23, 3) := by decide +kernel
theorem dX13_takeSigns_23 : decode cX13_takeSigns 23 = .ok (.aload_n 0, 1) := by decide +kernel
theorem dX13_takeSigns_24 : decode cX13_takeSigns 24 = .ok (.getfield 56, 3) := by decide +kernel
theorem dX13_takeSigns_27 : decode cX13_takeSigns 27 = .ok (.aload_n 0, 1) := by decide +kernel
theorem dX13_takeSigns_28 : decode cX13_takeSigns 28 = .ok (.getfield 171, 3) := by decide +kernel
theorem dX13_takeSigns_31 : decode cX13_takeSigns 31 = .ok (.iload_n 1, 1) := by decide +kernel
theorem dX13_takeSigns_32 : decode cX13_takeSigns 32 = .ok (.iastore, 1) := by decide +kernel
theorem dX13_takeSigns_33 : decode cX13_takeSigns 33 = .ok (.aload_n 0, 1) := by decide +kernel
theorem dX13_takeSigns_34 : decode cX13_takeSigns 34 = .ok (.dup, 1) := by decide +kernel
theorem dX13_takeSigns_35 : decode cX13_takeSigns 35 = .ok (.getfield 171, 3) := by decide +kernel
theorem dX13_takeSigns_38 : decode cX13_takeSigns 38 = .ok (.iconst 1, 1) := by decide +kernel
theorem dX13_takeSigns_39 : decode cX13_takeSigns 39 = .ok (.iadd, 1) := by decide +kernel
theorem dX13_takeSigns_40 : decode cX13_takeSigns 40 = .ok (.putfield 171, 3) := by decide +kernel
theorem dX13_takeSigns_43 : decode cX13_takeSigns 43 = .ok (.iinc 1 1, 3) := by decide +kernel
theorem dX13_takeSigns_46 : decode cX13_takeSigns 46 = .ok (.goto (-39), 3) := by decide +kernel
theorem dX13_takeSigns_49 : decode cX13_takeSigns 49 = .ok (.return_, 1) := by decide +kernel
theorem dX13_number_0 : decode cX13_number 0 = .ok (.aload_n 0, 1) := by decide +kernel
theorem dX13_number_1 : decode cX13_number 1 = .ok (.getfield 53, 3) := by decide +kernel
theorem dX13_number_4 : decode cX13_number 4 = .ok (.aload_n 0, 1) := by decide +kernel
theorem dX13_number_5 : decode cX13_number 5 = .ok (.getfield 174, 3) := by decide +kernel
theorem dX13_number_8 : decode cX13_number 8 = .ok (.iload_n 1, 1) := by decide +kernel
theorem dX13_number_9 : decode cX13_number 9 = .ok (.iastore, 1) := by decide +kernel
theorem dX13_number_10 : decode cX13_number 10 = .ok (.aload_n 0, 1) := by decide +kernel
theorem dX13_number_11 : decode cX13_number 11 = .ok (.dup, 1) := by decide +kernel
theorem dX13_number_12 : decode cX13_number 12 = .ok (.getfield 174, 3) := by decide +kernel
theorem dX13_number_15 : decode cX13_number 15 = .ok (.iconst 1, 1) := by decide +kernel
theorem dX13_number_16 : decode cX13_number 16 = .ok (.iadd, 1) := by decide +kernel
theorem dX13_number_17 : decode cX13_number 17 = .ok (.putfield 174, 3) := by decide +kernel
theorem dX13_number_20 : decode cX13_number 20 = .ok (.return_, 1) := by decide +kernel
theorem dX13_digits_0 : decode cX13_digits 0 = .ok (.iload_n 1, 1) := by decide +kernel
theorem dX13_digits_1 : decode cX13_digits 1 = .ok (.istore_n 2, 1) := by decide +kernel
theorem dX13_digits_2 : decode cX13_digits 2 = .ok (.iload_n 2, 1) := by decide +kernel
theorem dX13_digits_3 : decode cX13_digits 3 = .ok (.ifCond .le 32, 3) := by decide +kernel
theorem dX13_digits_6 : decode cX13_digits 6 = .ok (.iload_n 2, 1) := by decide +kernel
theorem dX13_digits_7 : decode cX13_digits 7 = .ok (.iconst 2, 1) := by decide +kernel
theorem dX13_digits_8 : decode cX13_digits 8 = .ok (.irem, 1) := by decide +kernel
theorem dX13_digits_9 : decode cX13_digits 9 = .ok (.iconst 1, 1) := by decide +kernel
theorem dX13_digits_10 : decode cX13_digits 10 = .ok (.if_icmp .ne 7, 3) := by decide +kernel
theorem dX13_digits_13 : decode cX13_digits 13 = .ok (.iconst 1, 1) := by decide +kernel
theorem dX13_digits_14 : decode cX13_digits 14 = .ok (.goto 4, 3) := by decide +kernel
theorem dX13_digits_17 : decode cX13_digits 17 = .ok (.iconst 2, 1) := by decide +kernel
theorem dX13_digits_18 : decode cX13_digits 18 = .ok (.istore_n 3, 1) := by decide +kernel
theorem dX13_digits_19 : decode cX13_digits 19 = .ok (.aload_n 0, 1) := by decide +kernel
theorem dX13_digits_20 : decode cX13_digits 20 = .ok (.iload_n 3, 1) := by decide +kernel
theorem dX13_digits_21 : decode cX13_digits 21 = .ok (.iconst 1, 1) := by decide +kernel
theorem dX13_digits_22 : decode cX13_digits 22 = .ok (.isub, 1) := by decide +kernel
theorem dX13_digits_23 : decode cX13_digits 23 = .ok (.invokevirtual 177, 3) := by decide +kernel
theorem dX13_digits_26 : decode cX13_digits 26 = .ok (.iload_n 2, 1) := by decide +kernel
theorem dX13_digits_27 : decode cX13_digits 27 = .ok (.iload_n 3, 1) := by decide +kernel
theorem dX13_digits_28 : decode cX13_digits 28 = .ok (.isub, 1) := by decide +kernel
theorem dX13_digits_29 : decode cX13_digits 29 = .ok (.iconst 2, 1) := by decide +kernel
theorem dX13_digits_30 : decode cX13_digits 30 = .ok (.idiv, 1) := by decide +kernel
theorem dX13_digits_31 : decode cX13_digits 31 = .ok (.istore_n 2, 1) := by decide +kernel
theorem dX13_digits_32 : decode cX13_digits 32 = .ok (.goto (-30), 3) := by decide +kernel
theorem dX13_digits_35 : decode cX13_digits 35 = .ok (.return_, 1) := by decide +kernel
theorem dX13_makeNumbers_0 : decode cX13_makeNumbers 0 = .ok (.aload_n 0, 1) := by decide +kernel
theorem dX13_makeNumbers_1 : decode cX13_makeNumbers 1 = .ok (.iconst 0, 1) := by decide +kernel
theorem dX13_makeNumbers_2 : decode cX13_makeNumbers 2 = .ok (.putfield 174, 3) := by decide +kernel
theorem dX13_makeNumbers_5 : decode cX13_makeNumbers 5 = .ok (.iconst 0, 1) := by decide +kernel
theorem dX13_makeNumbers_6 : decode cX13_makeNumbers 6 = .ok (.istore_n 1, 1) := by decide +kernel
theorem dX13_makeNumbers_7 : decode cX13_makeNumbers 7 = .ok (.iconst 0, 1) := by decide +kernel
theorem dX13_makeNumbers_8 : decode cX13_makeNumbers 8 = .ok (.istore_n 2, 1) := by decide +kernel
theorem dX13_makeNumbers_9 : decode cX13_makeNumbers 9 = .ok (.iload_n 2, 1) := by decide +kernel
theorem dX13_makeNumbers_10 : decode cX13_makeNumbers 10 = .ok (.aload_n 0, 1) := by decide +kernel
theorem dX13_makeNumbers_11 : decode cX13_makeNumbers 11 = .ok (.getfield 161, 3) := by decide +kernel
theorem dX13_makeNumbers_14 : decode cX13_makeNumbers 14 = .ok (.if_icmp .ge 129, 3) := by decide +kernel
theorem dX13_makeNumbers_17 : decode cX13_makeNumbers 17 = .ok (.aload_n 0, 1) := by decide +kernel
theorem dX13_makeNumbers_18 : decode cX13_makeNumbers 18 = .ok (.getfield 44, 3) := by decide +kernel
theorem dX13_makeNumbers_21 : decode cX13_makeNumbers 21 = .ok (.aload_n 0, 1) := by decide +kernel
theorem dX13_makeNumbers_22 : decode cX13_makeNumbers 22 = .ok (.getfield 47, 3) := by decide +kernel
theorem dX13_makeNumbers_25 : decode cX13_makeNumbers 25 = .ok (.iload_n 2, 1) := by decide +kernel
theorem dX13_makeNumbers_26 : decode cX13_makeNumbers 26 = .ok (.iaload, 1) := by decide +kernel
theorem dX13_makeNumbers_27 : decode cX13_makeNumbers 27 = .ok (.ifCond .ne 12, 3) := by decide +kernel
theorem dX13_makeNumbers_30 : decode cX13_makeNumbers 30 = .ok (.aload_n 0, 1) := by decide +kernel
theorem dX13_makeNumbers_31 : decode cX13_makeNumbers 31 = .ok (.getfield 161, 3) := by decide +kernel
theorem dX13_makeNumbers_34 : decode cX13_makeNumbers 34 = .ok (.iconst 1, 1) := by decide +kernel
theorem dX13_makeNumbers_35 : decode cX13_makeNumbers 35 = .ok (.isub, 1) := by decide +kernel
theorem dX13_makeNumbers_36 : decode cX13_makeNumbers 36 = .ok (.goto 11, 3) := by decide +kernel
theorem dX13_makeNumbers_39 : decode cX13_makeNumbers 39 = .ok (.aload_n 0, 1) := by decide +kernel
theorem dX13_makeNumbers_40 : decode cX13_makeNumbers 40 = .ok (.getfield 47, 3) := by decide +kernel
theorem dX13_makeNumbers_43 : decode cX13_makeNumbers 43 = .ok (.iload_n 2, 1) := by decide +kernel
theorem dX13_makeNumbers_44 : decode cX13_makeNumbers 44 = .ok (.iaload, 1) := by decide +kernel
theorem dX13_makeNumbers_45 : decode cX13_makeNumbers 45 = .ok (.iconst 1, 1) := by decide +kernel
theorem dX13_makeNumbers_46 : decode cX13_makeNumbers 46 = .ok (.isub, 1) := by decide +kernel
theorem dX13_makeNumbers_47 : decode cX13_makeNumbers 47 = .ok (.baload, 1) := by decide +kernel
theorem dX13_makeNumbers_48 : decode cX13_makeNumbers 48 = .ok (.sipush 255, 3) := by decide +kernel
theorem dX13_makeNumbers_51 : decode cX13_makeNumbers 51 = .ok (.iand, 1) := by decide +kernel
theorem dX13_makeNumbers_52 : decode cX13_makeNumbers 52 = .ok (.istore_n 3, 1) := by decide +kernel
theorem dX13_makeNumbers_53 : decode cX13_makeNumbers 53 = .ok (.iconst 0, 1) := by decide +kernel
theorem dX13_makeNumbers_54 : decode cX13_makeNumbers 54 = .ok (.istore 4, 2) := by decide +kernel
theorem dX13_makeNumbers_56 : decode cX13_makeNumbers 56 = .ok (.aload_n 0, 1) := by decide +kernel
theorem dX13_makeNumbers_57 : decode cX13_makeNumbers 57 = .ok (.getfield 56, 3) := by decide +kernel
theorem dX13_makeNumbers_60 : decode cX13_makeNumbers 60 = .ok (.iload 4, 2) := by decide +kernel
theorem dX13_makeNumbers_62 : decode cX13_makeNumbers 62 = .ok (.iaload, 1) := by decide +kernel
theorem dX13_makeNumbers_63 : decode cX13_makeNumbers 63 = .ok (.iload_n 3, 1) := by decide +kernel
theorem dX13_makeNumbers_64 : decode cX13_makeNumbers 64 = .ok (.if_icmp .eq 9, 3) := by decide +kernel
theorem dX13_makeNumbers_67 : decode cX13_makeNumbers 67 = .ok (.iinc 4 1, 3) := by decide +kernel
theorem dX13_makeNumbers_70 : decode cX13_makeNumbers 70 = .ok (.goto (-14), 3) := by decide +kernel
theorem dX13_makeNumbers_73 : decode cX13_makeNumbers 73 = .ok (.iload 4, 2) := by decide +kernel
theorem dX13_makeNumbers_75 : decode cX13_makeNumbers 75 = .ok (.istore 5, 2) := by decide +kernel
theorem dX13_makeNumbers_77 : decode cX13_makeNumbers 77 = .ok (.iload 5, 2) := by decide +kernel
theorem dX13_makeNumbers_79 : decode cX13_makeNumbers 79 = .ok (.ifCond .le 25, 3) := by decide +kernel
theorem dX13_makeNumbers_82 : decode cX13_makeNumbers 82 = .ok (.aload_n 0, 1) := by decide +kernel
theorem dX13_makeNumbers_83 : decode cX13_makeNumbers 83 = .ok (.getfield 56, 3) := by decide +kernel
theorem dX13_makeNumbers_86 : decode cX13_makeNumbers 86 = .ok (.iload 5, 2) := by decide +kernel
theorem dX13_makeNumbers_88 : decode cX13_makeNumbers 88 = .ok (.aload_n 0, 1) := by decide +kernel
theorem dX13_makeNumbers_89 : decode cX13_makeNumbers 89 = .ok (.getfield 56, 3) := by decide +kernel
theorem dX13_makeNumbers_92 : decode cX13_makeNumbers 92 = .ok (.iload 5, 2) := by decide +kernel
theorem dX13_makeNumbers_94 : decode cX13_makeNumbers 94 = .ok (.iconst 1, 1) := by decide +kernel
theorem dX13_makeNumbers_95 : decode cX13_makeNumbers 95 = .ok (.isub, 1) := by decide +kernel
theorem dX13_makeNumbers_96 : decode cX13_makeNumbers 96 = .ok (.iaload, 1) := by decide +kernel
theorem dX13_makeNumbers_97 : decode cX13_makeNumbers 97 = .ok (.iastore, 1) := by decide +kernel
theorem dX13_makeNumbers_98 : decode cX13_makeNumbers 98 = .ok (.iinc 5 (-1), 3) := by decide +kernel
theorem dX13_makeNumbers_101 : decode cX13_makeNumbers 101 = .ok (.goto (-24), 3) := by decide +kernel
theorem dX13_makeNumbers_104 : decode cX13_makeNumbers 104 = .ok (.aload_n 0, 1) := by decide +kernel
theorem dX13_makeNumbers_105 : decode cX13_makeNumbers 105 = .ok (.getfield 56, 3) := by decide +kernel
theorem dX13_makeNumbers_108 : decode cX13_makeNumbers 108 = .ok (.iconst 0, 1) := by decide +kernel
theorem dX13_makeNumbers_109 : decode cX13_makeNumbers 109 = .ok (.iload_n 3, 1) := by decide +kernel
theorem dX13_makeNumbers_110 : decode cX13_makeNumbers 110 = .ok (.iastore, 1) := by decide +kernel
theorem dX13_makeNumbers_111 : decode cX13_makeNumbers 111 = .ok (.iload 4, 2) := by decide +kernel
theorem dX13_makeNumbers_113 : decode cX13_makeNumbers 113 = .ok (.ifCond .ne 9, 3) := by decide +kernel
theorem dX13_makeNumbers_116 : decode cX13_makeNumbers 116 = .ok (.iinc 1 1, 3) := by decide +kernel
theorem dX13_makeNumbers_119 : decode cX13_makeNumbers 119 = .ok (.goto 18, 3) := by decide +kernel
theorem dX13_makeNumbers_122 : decode cX13_makeNumbers 122 = .ok (.aload_n 0, 1) := by decide +kernel
theorem dX13_makeNumbers_123 : decode cX13_makeNumbers 123 = .ok (.iload_n 1, 1) := by decide +kernel
theorem dX13_makeNumbers_124 : decode cX13_makeNumbers 124 = .ok (.invokevirtual 180, 3) := by decide +kernel
theorem dX13_makeNumbers_127 : decode cX13_makeNumbers 127 = .ok (.iconst 0, 1) := by decide +kernel
theorem dX13_makeNumbers_128 : decode cX13_makeNumbers 128 = .ok (.istore_n 1, 1) := by decide +kernel
theorem dX13_makeNumbers_129 : decode cX13_makeNumbers 129 = .ok (.aload_n 0, 1) := by decide +kernel
theorem dX13_makeNumbers_130 : decode cX13_makeNumbers 130 = .ok (.iload 4, 2) := by decide +kernel
theorem dX13_makeNumbers_132 : decode cX13_makeNumbers 132 = .ok (.iconst 1, 1) := by decide +kernel
theorem dX13_makeNumbers_133 : decode cX13_makeNumbers 133 = .ok (.iadd, 1) := by decide +kernel
theorem dX13_makeNumbers_134 : decode cX13_makeNumbers 134 = .ok (.invokevirtual 177, 3) := by decide +kernel
theorem dX13_makeNumbers_137 : decode cX13_makeNumbers 137 = .ok (.iinc 2 1, 3) := by decide +kernel
theorem dX13_makeNumbers_140 : decode cX13_makeNumbers 140 = .ok (.goto (-131), 3) := by decide +kernel
theorem dX13_makeNumbers_143 : decode cX13_makeNumbers 143 = .ok (.aload_n 0, 1) := by decide +kernel
theorem dX13_makeNumbers_144 : decode cX13_makeNumbers 144 = .ok (.iload_n 1, 1) := by decide +kernel
theorem dX13_makeNumbers_145 : decode cX13_makeNumbers 145 = .ok (.invokevirtual 180, 3) := by decide +kernel
theorem dX13_makeNumbers_148 : decode cX13_makeNumbers 148 = .ok (.aload_n 0, 1) := by decide +kernel
theorem dX13_makeNumbers_149 : decode cX13_makeNumbers 149 = .ok (.aload_n 0, 1) := by decide +kernel
theorem dX13_makeNumbers_150 : decode cX13_makeNumbers 150 = .ok (.getfield 171, 3) := by decide +kernel
theorem dX13_makeNumbers_153 : decode cX13_makeNumbers 153 = .ok (.iconst 1, 1) := by decide +kernel
theorem dX13_makeNumbers_154 : decode cX13_makeNumbers 154 = .ok (.iadd, 1) := by decide +kernel
theorem dX13_makeNumbers_155 : decode cX13_makeNumbers 155 = .ok (.invokevirtual 177, 3) := by decide +kernel
theorem dX13_makeNumbers_158 : decode cX13_makeNumbers 158 = .ok (.return_, 1) := by decide +kernel
theorem dX13_makeLengths_0 : decode cX13_makeLengths 0 = .ok (.iconst 0, 1) := by decide +kernel
theorem dX13_makeLengths_1 : decode cX13_makeLengths 1 = .ok (.istore_n 3, 1) := by decide +kernel
theorem dX13_makeLengths_2 : decode cX13_makeLengths 2 = .ok (.iload_n 3, 1) := by decide +kernel
theorem dX13_makeLengths_3 : decode cX13_makeLengths 3 = .ok (.iload_n 2, 1) := by decide +kernel
theorem dX13_makeLengths_4 : decode cX13_makeLengths 4 = .ok (.if_icmp .ge 48, 3) := by decide +kernel
theorem dX13_makeLengths_7 : decode cX13_makeLengths 7 = .ok (.aload_n 0, 1) := by decide +kernel
theorem dX13_makeLengths_8 : decode cX13_makeLengths 8 = .ok (.getfield 82, 3) := by decide +kernel
theorem dX13_makeLengths_11 : decode cX13_makeLengths 11 = .ok (.iload_n 3, 1) := by decide +kernel
theorem dX13_makeLengths_12 : decode cX13_makeLengths 12 = .ok (.aload_n 0, 1) := by decide +kernel
theorem dX13_makeLengths_13 : decode cX13_makeLengths 13 = .ok (.getfield 69, 3) := by decide +kernel
theorem dX13_makeLengths_16 : decode cX13_makeLengths 16 = .ok (.sipush 260, 3) := by decide +kernel
theorem dX13_makeLengths_19 : decode cX13_makeLengths 19 = .ok (.iload_n 1, 1) := by decide +kernel
theorem dX13_makeLengths_20 : decode cX13_makeLengths 20 = .ok (.imul, 1) := by decide +kernel
theorem dX13_makeLengths_21 : decode cX13_makeLengths 21 = .ok (.iload_n 3, 1) := by decide +kernel
theorem dX13_makeLengths_22 : decode cX13_makeLengths 22 = .ok (.iadd, 1) := by decide +kernel
theorem dX13_makeLengths_23 : decode cX13_makeLengths 23 = .ok (.iaload, 1) := by decide +kernel
theorem dX13_makeLengths_24 : decode cX13_makeLengths 24 = .ok (.iconst 1, 1) := by decide +kernel
theorem dX13_makeLengths_25 : decode cX13_makeLengths 25 = .ok (.if_icmp .ge 7, 3) := by decide +kernel
theorem dX13_makeLengths_28 : decode cX13_makeLengths 28 = .ok (.lconst 1, 1) := by decide +kernel
theorem dX13_makeLengths_29 : decode cX13_makeLengths 29 = .ok (.goto 16, 3) := by decide +kernel
theorem dX13_makeLengths_32 : decode cX13_makeLengths 32 = .ok (.aload_n 0, 1) := by decide +kernel
theorem dX13_makeLengths_33 : decode cX13_makeLengths 33 = .ok (.getfield 69, 3) := by decide +kernel
theorem dX13_makeLengths_36 : decode cX13_makeLengths 36 = .ok (.sipush 260, 3) := by decide +kernel
theorem dX13_makeLengths_39 : decode cX13_makeLengths 39 = .ok (.iload_n 1, 1) := by decide +kernel
theorem dX13_makeLengths_40 : decode cX13_makeLengths 40 = .ok (.imul, 1) := by decide +kernel
theorem dX13_makeLengths_41 : decode cX13_makeLengths 41 = .ok (.iload_n 3, 1) := by decide +kernel
theorem dX13_makeLengths_42 : decode cX13_makeLengths 42 = .ok (.iadd, 1) := by decide +kernel
theorem dX13_makeLengths_43 : decode cX13_makeLengths 43 = .ok (.iaload, 1) := by decide +kernel
theorem dX13_makeLengths_44 : decode cX13_makeLengths 44 = .ok (.i2l, 1) := by decide +kernel
theorem dX13_makeLengths_45 : decode cX13_makeLengths 45 = .ok (.lastore, 1) := by decide +kernel
theorem dX13_makeLengths_46 : decode cX13_makeLengths 46 = .ok (.iinc 3 1, 3) := by decide +kernel
theorem dX13_makeLengths_49 : decode cX13_makeLengths 49 = .ok (.goto (-47), 3) := by decide +kernel
theorem dX13_makeLengths_52 : decode cX13_makeLengths 52 = .ok (.iconst 1, 1) := by decide +kernel
theorem dX13_makeLengths_53 : decode cX13_makeLengths 53 = .ok (.istore_n 3, 1) := by decide +kernel
theorem dX13_makeLengths_54 : decode cX13_makeLengths 54 = .ok (.iload_n 3, 1) := by decide +kernel
theorem dX13_makeLengths_55 : decode cX13_makeLengths 55 = .ok (.ifCond .eq 260, 3) := by decide +kernel
theorem dX13_makeLengths_58 : decode cX13_makeLengths 58 = .ok (.iload_n 2, 1) := by decide +kernel
theorem dX13_makeLengths_59 : decode cX13_makeLengths 59 = .ok (.istore 4, 2) := by decide +kernel
theorem dX13_makeLengths_61 : decode cX13_makeLengths 61 = .ok (.iconst 0, 1) := by decide +kernel
theorem dX13_makeLengths_62 : decode cX13_makeLengths 62 = .ok (.istore 5, 2) := by decide +kernel
theorem dX13_makeLengths_64 : decode cX13_makeLengths 64 = .ok (.iload 5, 2) := by decide +kernel
theorem dX13_makeLengths_66 : decode cX13_makeLengths 66 = .ok (.iload_n 2, 1) := by decide +kernel
theorem dX13_makeLengths_67 : decode cX13_makeLengths 67 = .ok (.if_icmp .ge 23, 3) := by decide +kernel
theorem dX13_makeLengths_70 : decode cX13_makeLengths 70 = .ok (.aload_n 0, 1) := by decide +kernel
theorem dX13_makeLengths_71 : decode cX13_makeLengths 71 = .ok (.getfield 75, 3) := by decide +kernel
theorem dX13_makeLengths_74 : decode cX13_makeLengths 74 = .ok (.iload 5, 2) := by decide +kernel
theorem dX13_makeLengths_76 : decode cX13_makeLengths 76 = .ok (.aload_n 0, 1) := by decide +kernel
theorem dX13_makeLengths_77 : decode cX13_makeLengths 77 = .ok (.getfield 82, 3) := by decide +kernel
theorem dX13_makeLengths_80 : decode cX13_makeLengths 80 = .ok (.iload 5, 2) := by decide +kernel
theorem dX13_makeLengths_82 : decode cX13_makeLengths 82 = .ok (.laload, 1) := by decide +kernel
theorem dX13_makeLengths_83 : decode cX13_makeLengths 83 = .ok (.lastore, 1) := by decide +kernel
theorem dX13_makeLengths_84 : decode cX13_makeLengths 84 = .ok (.iinc 5 1, 3) := by decide +kernel
theorem dX13_makeLengths_87 : decode cX13_makeLengths 87 = .ok (.goto (-23), 3) := by decide +kernel
theorem dX13_makeLengths_90 : decode cX13_makeLengths 90 = .ok (.iconst 0, 1) := by decide +kernel
theorem dX13_makeLengths_91 : decode cX13_makeLengths 91 = .ok (.istore 5, 2) := by decide +kernel
theorem dX13_makeLengths_93 : decode cX13_makeLengths 93 = .ok (.iload 5, 2) := by decide +kernel
theorem dX13_makeLengths_95 : decode cX13_makeLengths 95 = .ok (.sipush 600, 3) := by decide +kernel
theorem dX13_makeLengths_98 : decode cX13_makeLengths 98 = .ok (.if_icmp .ge 17, 3) := by decide +kernel
theorem dX13_makeLengths_101 : decode cX13_makeLengths 101 = .ok (.aload_n 0, 1) := by decide +kernel
theorem dX13_makeLengths_102 : decode cX13_makeLengths 102 = .ok (.getfield 79, 3) := by decide +kernel
theorem dX13_makeLengths_105 : decode cX13_makeLengths 105 = .ok (.iload 5, 2) := by decide +kernel
theorem dX13_makeLengths_107 : decode cX13_makeLengths 107 = .ok (.iconst (-1), 1) := by decide +kernel
theorem dX13_makeLengths_108 : decode cX13_makeLengths 108 = .ok (.iastore, 1) := by decide +kernel
theorem dX13_makeLengths_109 : decode cX13_makeLengths 109 = .ok (.iinc 5 1, 3) := by decide +kernel
theorem dX13_makeLengths_112 : decode cX13_makeLengths 112 = .ok (.goto (-19), 3) := by decide +kernel
theorem dX13_makeLengths_115 : decode cX13_makeLengths 115 = .ok (.iload_n 2, 1) := by decide +kernel
theorem dX13_makeLengths_116 : decode cX13_makeLengths 116 = .ok (.istore 5, 2) := by decide +kernel
theorem dX13_makeLengths_118 : decode cX13_makeLengths 118 = .ok (.iload 5, 2) := by decide +kernel
theorem dX13_makeLengths_120 : decode cX13_makeLengths 120 = .ok (.iconst 1, 1) := by decide +kernel
theorem dX13_makeLengths_121 : decode cX13_makeLengths 121 = .ok (.if_icmp .le 71, 3) := by decide +kernel
theorem dX13_makeLengths_124 : decode cX13_makeLengths 124 = .ok (.aload_n 0, 1) := by decide +kernel
theorem dX13_makeLengths_125 : decode cX13_makeLengths 125 = .ok (.iload 4, 2) := by decide +kernel
theorem dX13_makeLengths_127 : decode cX13_makeLengths 127 = .ok (.iconst (-1), 1) := by decide +kernel
theorem dX13_makeLengths_128 : decode cX13_makeLengths 128 = .ok (.invokevirtual 183, 3) := by decide +kernel
theorem dX13_makeLengths_131 : decode cX13_makeLengths 131 = .ok (.istore 6, 2) := by decide +kernel
theorem dX13_makeLengths_133 : decode cX13_makeLengths 133 = .ok (.aload_n 0, 1) := by decide +kernel
theorem dX13_makeLengths_134 : decode cX13_makeLengths 134 = .ok (.iload 4, 2) := by decide +kernel
theorem dX13_makeLengths_136 : decode cX13_makeLengths 136 = .ok (.iload 6, 2) := by decide +kernel
theorem dX13_makeLengths_138 : decode cX13_makeLengths 138 = .ok (.invokevirtual 183, 3) := by decide +kernel
theorem dX13_makeLengths_141 : decode cX13_makeLengths 141 = .ok (.istore 7, 2) := by decide +kernel
theorem dX13_makeLengths_143 : decode cX13_makeLengths 143 = .ok (.aload_n 0, 1) := by decide +kernel
theorem dX13_makeLengths_144 : decode cX13_makeLengths 144 = .ok (.getfield 75, 3) := by decide +kernel
theorem dX13_makeLengths_147 : decode cX13_makeLengths 147 = .ok (.iload 4, 2) := by decide +kernel
theorem dX13_makeLengths_149 : decode cX13_makeLengths 149 = .ok (.aload_n 0, 1) := by decide +kernel
theorem dX13_makeLengths_150 : decode cX13_makeLengths 150 = .ok (.getfield 75, 3) := by decide +kernel
theorem dX13_makeLengths_153 : decode cX13_makeLengths 153 = .ok (.iload 6, 2) := by decide +kernel
theorem dX13_makeLengths_155 : decode cX13_makeLengths 155 = .ok (.laload, 1) := by decide +kernel
theorem dX13_makeLengths_156 : decode cX13_makeLengths 156 = .ok (.aload_n 0, 1) := by decide +kernel
theorem dX13_makeLengths_157 : decode cX13_makeLengths 157 = .ok (.getfield 75, 3) := by decide +kernel
theorem dX13_makeLengths_160 : decode cX13_makeLengths 160 = .ok (.iload 7, 2) := by decide +kernel
theorem dX13_makeLengths_162 : decode cX13_makeLengths 162 = .ok (.laload, 1) := by decide +kernel
theorem dX13_makeLengths_163 : decode cX13_makeLengths 163 = .ok (.ladd, 1) := by decide +kernel
theorem dX13_makeLengths_164 : decode cX13_makeLengths 164 = .ok (.lastore, 1) := by decide +kernel
theorem dX13_makeLengths_165 : decode cX13_makeLengths 165 = .ok (.aload_n 0, 1) := by decide +kernel
theorem dX13_makeLengths_166 : decode cX13_makeLengths 166 = .ok (.getfield 79, 3) := by decide +kernel
theorem dX13_makeLengths_169 : decode cX13_makeLengths 169 = .ok (.iload 6, 2) := by decide +kernel
theorem dX13_makeLengths_171 : decode cX13_makeLengths 171 = .ok (.iload 4, 2) := by decide +kernel
theorem dX13_makeLengths_173 : decode cX13_makeLengths 173 = .ok (.iastore, 1) := by decide +kernel
theorem dX13_makeLengths_174 : decode cX13_makeLengths 174 = .ok (.aload_n 0, 1) := by decide +kernel
theorem dX13_makeLengths_175 : decode cX13_makeLengths 175 = .ok (.getfield 79, 3) := by decide +kernel
theorem dX13_makeLengths_178 : decode cX13_makeLengths 178 = .ok (.iload 7, 2) := by decide +kernel
theorem dX13_makeLengths_180 : decode cX13_makeLengths 180 = .ok (.iload 4, 2) := by decide +kernel
theorem dX13_makeLengths_182 : decode cX13_makeLengths 182 = .ok (.iastore, 1) := by decide +kernel
theorem dX13_makeLengths_183 : decode cX13_makeLengths 183 = .ok (.iinc 4 1, 3) := by decide +kernel
theorem dX13_makeLengths_186 : decode cX13_makeLengths 186 = .ok (.iinc 5 (-1), 3) := by decide +kernel
theorem dX13_makeLengths_189 : decode cX13_makeLengths 189 = .ok (.goto (-71), 3) := by decide +kernel
theorem dX13_makeLengths_192 : decode cX13_makeLengths 192 = .ok (.iconst 0, 1) := by decide +kernel
theorem dX13_makeLengths_193 : decode cX13_makeLengths 193 = .ok (.istore_n 3, 1) := by decide +kernel
theorem dX13_makeLengths_194 : decode cX13_makeLengths 194 = .ok (.iconst 0, 1) := by decide +kernel
theorem dX13_makeLengths_195 : decode cX13_makeLengths 195 = .ok (.istore 5, 2) := by decide +kernel
theorem dX13_makeLengths_197 : decode cX13_makeLengths 197 = .ok (.iload 5, 2) := by decide +kernel
theorem dX13_makeLengths_199 : decode cX13_makeLengths 199 = .ok (.iload_n 2, 1) := by decide +kernel
theorem dX13_makeLengths_200 : decode cX13_makeLengths 200 = .ok (.if_icmp .ge 73, 3) := by decide +kernel
theorem dX13_makeLengths_203 : decode cX13_makeLengths 203 = .ok (.iconst 0, 1) := by decide +kernel
theorem dX13_makeLengths_204 : decode cX13_makeLengths 204 = .ok (.istore 6, 2) := by decide +kernel
theorem dX13_makeLengths_206 : decode cX13_makeLengths 206 = .ok (.iload 5, 2) := by decide +kernel
theorem dX13_makeLengths_208 : decode cX13_makeLengths 208 = .ok (.istore 7, 2) := by decide +kernel
theorem dX13_makeLengths_210 : decode cX13_makeLengths 210 = .ok (.aload_n 0, 1) := by decide +kernel
theorem dX13_makeLengths_211 : decode cX13_makeLengths 211 = .ok (.getfield 79, 3) := by decide +kernel
theorem dX13_makeLengths_214 : decode cX13_makeLengths 214 = .ok (.iload 7, 2) := by decide +kernel
theorem dX13_makeLengths_216 : decode cX13_makeLengths 216 = .ok (.iaload, 1) := by decide +kernel
theorem dX13_makeLengths_217 : decode cX13_makeLengths 217 = .ok (.ifCond .lt 18, 3) := by decide +kernel
theorem dX13_makeLengths_220 : decode cX13_makeLengths 220 = .ok (.iinc 6 1, 3) := by decide +kernel
theorem dX13_makeLengths_223 : decode cX13_makeLengths 223 = .ok (.aload_n 0, 1) := by decide +kernel
theorem dX13_makeLengths_224 : decode cX13_makeLengths 224 = .ok (.getfield 79, 3) := by decide +kernel
theorem dX13_makeLengths_227 : decode cX13_makeLengths 227 = .ok (.iload 7, 2) := by decide +kernel
theorem dX13_makeLengths_229 : decode cX13_makeLengths 229 = .ok (.iaload, 1) := by decide +kernel
theorem dX13_makeLengths_230 : decode cX13_makeLengths 230 = .ok (.istore 7, 2) := by decide +kernel
theorem dX13_makeLengths_232 : decode cX13_makeLengths 232 = .ok (.goto (-22), 3) := by decide +kernel
theorem dX13_makeLengths_235 : decode cX13_makeLengths 235 = .ok (.aload_n 0, 1) := by decide +kernel
theorem dX13_makeLengths_236 : decode cX13_makeLengths 236 = .ok (.getfield 63, 3) := by decide +kernel
theorem dX13_makeLengths_239 : decode cX13_makeLengths 239 = .ok (.sipush 260, 3) := by decide +kernel
theorem dX13_makeLengths_242 : decode cX13_makeLengths 242 = .ok (.iload_n 1, 1) := by decide +kernel
theorem dX13_makeLengths_243 : decode cX13_makeLengths 243 = .ok (.imul, 1) := by decide +kernel
theorem dX13_makeLengths_244 : decode cX13_makeLengths 244 = .ok (.iload 5, 2) := by decide +kernel
theorem dX13_makeLengths_246 : decode cX13_makeLengths 246 = .ok (.iadd, 1) := by decide +kernel
theorem dX13_makeLengths_247 : decode cX13_makeLengths 247 = .ok (.iload 6, 2) := by decide +kernel
theorem dX13_makeLengths_249 : decode cX13_makeLengths 249 = .ok (.iastore, 1) := by decide +kernel
theorem dX13_makeLengths_250 : decode cX13_makeLengths 250 = .ok (.iload_n 3, 1) := by decide +kernel
theorem dX13_makeLengths_251 : decode cX13_makeLengths 251 = .ok (.ifCond .ne 10, 3) := by decide +kernel
theorem dX13_makeLengths_254 : decode cX13_makeLengths 254 = .ok (.iload 6, 2) := by decide +kernel
theorem dX13_makeLengths_256 : decode cX13_makeLengths 256 = .ok (.bipush 17, 2) := by decide +kernel
theorem dX13_makeLengths_258 : decode cX13_makeLengths 258 = .ok (.if_icmp .le 7, 3) := by decide +kernel
theorem dX13_makeLengths_261 : decode cX13_makeLengths 261 = .ok (.iconst 1, 1) := by decide +kernel
theorem dX13_makeLengths_262 : decode cX13_makeLengths 262 = .ok (.goto 4, 3) := by decide +kernel
theorem dX13_makeLengths_265 : decode cX13_makeLengths 265 = .ok (.iconst 0, 1) := by decide +kernel
theorem dX13_makeLengths_266 : decode cX13_makeLengths 266 = .ok (.istore_n 3, 1) := by decide +kernel
theorem dX13_makeLengths_267 : decode cX13_makeLengths 267 = .ok (.iinc 5 1, 3) := by decide +kernel
theorem dX13_makeLengths_270 : decode cX13_makeLengths 270 = .ok (.goto (-73), 3) := by decide +kernel
theorem dX13_makeLengths_273 : decode cX13_makeLengths 273 = .ok (.iconst 0, 1) := by decide +kernel
theorem dX13_makeLengths_274 : decode cX13_makeLengths 274 = .ok (.istore 5, 2) := by decide +kernel
theorem dX13_makeLengths_276 : decode cX13_makeLengths 276 = .ok (.iload 5, 2) := by decide +kernel
theorem dX13_makeLengths_278 : decode cX13_makeLengths 278 = .ok (.iload_n 2, 1) := by decide +kernel
theorem dX13_makeLengths_279 : decode cX13_makeLengths 279 = .ok (.if_icmp .ge 33, 3) := by decide +kernel
theorem dX13_makeLengths_282 : decode cX13_makeLengths 282 = .ok (.iload_n 3, 1) := by decide +kernel
theorem dX13_makeLengths_283 : decode cX13_makeLengths 283 = .ok (.ifCond .eq 29, 3) := by decide +kernel
theorem dX13_makeLengths_286 : decode cX13_makeLengths 286 = .ok (.aload_n 0, 1) := by decide +kernel
theorem dX13_makeLengths_287 : decode cX13_makeLengths 287 = .ok (.getfield 82, 3) := by decide +kernel
theorem dX13_makeLengths_290 : decode cX13_makeLengths 290 = .ok (.iload 5, 2) := by decide +kernel
theorem dX13_makeLengths_292 : decode cX13_makeLengths 292 = .ok (.aload_n 0, 1) := by decide +kernel
theorem dX13_makeLengths_293 : decode cX13_makeLengths 293 = .ok (.getfield 82, 3) := by decide +kernel
theorem dX13_makeLengths_296 : decode cX13_makeLengths 296 = .ok (.iload 5, 2) := by decide +kernel
theorem dX13_makeLengths_298 : decode cX13_makeLengths 298 = .ok (.laload, 1) := by decide +kernel
theorem dX13_makeLengths_299 : decode cX13_makeLengths 299 = .ok (.ldc2_w 187, 3) := by decide +kernel
theorem dX13_makeLengths_302 : decode cX13_makeLengths 302 = .ok (.ldiv, 1) := by decide +kernel
theorem dX13_makeLengths_303 : decode cX13_makeLengths 303 = .ok (.lconst 1, 1) := by decide +kernel
theorem dX13_makeLengths_304 : decode cX13_makeLengths 304 = .ok (.ladd, 1) := by decide +kernel
theorem dX13_makeLengths_305 : decode cX13_makeLengths 305 = .ok (.lastore, 1) := by decide +kernel
theorem dX13_makeLengths_306 : decode cX13_makeLengths 306 = .ok (.iinc 5 1, 3) := by decide +kernel
theorem dX13_makeLengths_309 : decode cX13_makeLengths 309 = .ok (.goto (-33), 3) := by decide +kernel
theorem dX13_makeLengths_312 : decode cX13_makeLengths 312 = .ok (.goto (-258), 3) := by decide +kernel
theorem dX13_makeLengths_315 : decode cX13_makeLengths 315 = .ok (.return_, 1) := by decide +kernel
theorem dX13_leastOne_0 : decode cX13_leastOne 0 = .ok (.iconst (-1), 1) := by decide +kernel
theorem dX13_leastOne_1 : decode cX13_leastOne 1 = .ok (.istore_n 3, 1) := by decide +kernel
theorem dX13_leastOne_2 : decode cX13_leastOne 2 = .ok (.iconst 0, 1) := by decide +kernel
theorem dX13_leastOne_3 : decode cX13_leastOne 3 = .ok (.istore 4, 2) := by decide +kernel
theorem dX13_leastOne_5 : decode cX13_leastOne 5 = .ok (.iload 4, 2) := by decide +kernel
theorem dX13_leastOne_7 : decode cX13_leastOne 7 = .ok (.iload_n 1, 1) := by decide +kernel
theorem dX13_leastOne_8 : decode cX13_leastOne 8 = .ok (.if_icmp .ge 65, 3) := by decide +kernel
theorem dX13_leastOne_11 : decode cX13_leastOne 11 = .ok (.aload_n 0, 1) := by decide +kernel
theorem dX13_leastOne_12 : decode cX13_leastOne 12 = .ok (.getfield 79, 3) := by decide +kernel
theorem dX13_leastOne_15 : decode cX13_leastOne 15 = .ok (.iload 4, 2) := by decide +kernel
theorem dX13_leastOne_17 : decode cX13_leastOne 17 = .ok (.iaload, 1) := by decide +kernel
theorem dX13_leastOne_18 : decode cX13_leastOne 18 = .ok (.ifCond .ge 13, 3) := by decide +kernel
theorem dX13_leastOne_21 : decode cX13_leastOne 21 = .ok (.iload 4, 2) := by decide +kernel
theorem dX13_leastOne_23 : decode cX13_leastOne 23 = .ok (.iload_n 2, 1) := by decide +kernel
theorem dX13_leastOne_24 : decode cX13_leastOne 24 = .ok (.if_icmp .eq 7, 3) := by decide +kernel
theorem dX13_leastOne_27 : decode cX13_leastOne 27 = .ok (.iconst 1, 1) := by decide +kernel
theorem dX13_leastOne_28 : decode cX13_leastOne 28 = .ok (.goto 4, 3) := by decide +kernel
theorem dX13_leastOne_31 : decode cX13_leastOne 31 = .ok (.iconst 0, 1) := by decide +kernel
theorem dX13_leastOne_32 : decode cX13_leastOne 32 = .ok (.istore 5, 2) := by decide +kernel
theorem dX13_leastOne_34 : decode cX13_leastOne 34 = .ok (.iload 5, 2) := by decide +kernel
theorem dX13_leastOne_36 : decode cX13_leastOne 36 = .ok (.ifCond .eq 29, 3) := by decide +kernel
theorem dX13_leastOne_39 : decode cX13_leastOne 39 = .ok (.iload_n 3, 1) := by decide +kernel
theorem dX13_leastOne_40 : decode cX13_leastOne 40 = .ok (.ifCond .lt 20, 3) := by decide +kernel
theorem dX13_leastOne_43 : decode cX13_leastOne 43 = .ok (.aload_n 0, 1) := by decide +kernel
theorem dX13_leastOne_44 : decode cX13_leastOne 44 = .ok (.getfield 75, 3) := by decide +kernel
theorem dX13_leastOne_47 : decode cX13_leastOne 47 = .ok (.iload 4, 2) := by decide +kernel
theorem dX13_leastOne_49 : decode cX13_leastOne 49 = .ok (.laload, 1) := by decide +kernel
theorem dX13_leastOne_50 : decode cX13_leastOne 50 = .ok (.aload_n 0, 1) := by decide +kernel
theorem dX13_leastOne_51 : decode cX13_leastOne 51 = .ok (.getfield 75, 3) := by decide +kernel
theorem dX13_leastOne_54 : decode cX13_leastOne 54 = .ok (.iload_n 3, 1) := by decide +kernel
theorem dX13_leastOne_55 : decode cX13_leastOne 55 = .ok (.laload, 1) := by decide +kernel
theorem dX13_leastOne_56 : decode cX13_leastOne 56 = .ok (.lcmp, 1) := by decide +kernel
theorem dX13_leastOne_57 : decode cX13_leastOne 57 = .ok (.ifCond .ge 8, 3) := by decide +kernel
theorem dX13_leastOne_60 : decode cX13_leastOne 60 = .ok (.iload 4, 2) := by decide +kernel
theorem dX13_leastOne_62 : decode cX13_leastOne 62 = .ok (.goto 4, 3) := by decide +kernel
theorem dX13_leastOne_65 : decode cX13_leastOne 65 = .ok (.iload_n 3, 1) := by decide +kernel
theorem dX13_leastOne_66 : decode cX13_leastOne 66 = .ok (.istore_n 3, 1) := by decide +kernel
theorem dX13_leastOne_67 : decode cX13_leastOne 67 = .ok (.iinc 4 1, 3) := by decide +kernel
theorem dX13_leastOne_70 : decode cX13_leastOne 70 = .ok (.goto (-65), 3) := by decide +kernel
theorem dX13_leastOne_73 : decode cX13_leastOne 73 = .ok (.iload_n 3, 1) := by decide +kernel
theorem dX13_leastOne_74 : decode cX13_leastOne 74 = .ok (.ireturn, 1) := by decide +kernel
theorem dX13_firstCosts_0 : decode cX13_firstCosts 0 = .ok (.iconst 0, 1) := by decide +kernel
theorem dX13_firstCosts_1 : decode cX13_firstCosts 1 = .ok (.istore_n 2, 1) := by decide +kernel
theorem dX13_firstCosts_2 : decode cX13_firstCosts 2 = .ok (.iload_n 2, 1) := by decide +kernel
theorem dX13_firstCosts_3 : decode cX13_firstCosts 3 = .ok (.sipush 1560, 3) := by decide +kernel
theorem dX13_firstCosts_6 : decode cX13_firstCosts 6 = .ok (.if_icmp .ge 16, 3) := by decide +kernel
theorem dX13_firstCosts_9 : decode cX13_firstCosts 9 = .ok (.aload_n 0, 1) := by decide +kernel
theorem dX13_firstCosts_10 : decode cX13_firstCosts 10 = .ok (.getfield 69, 3) := by decide +kernel
theorem dX13_firstCosts_13 : decode cX13_firstCosts 13 = .ok (.iload_n 2, 1) := by decide +kernel
theorem dX13_firstCosts_14 : decode cX13_firstCosts 14 = .ok (.iconst 0, 1) := by decide +kernel
theorem dX13_firstCosts_15 : decode cX13_firstCosts 15 = .ok (.iastore, 1) := by decide +kernel
theorem dX13_firstCosts_16 : decode cX13_firstCosts 16 = .ok (.iinc 2 1, 3) := by decide +kernel
theorem dX13_firstCosts_19 : decode cX13_firstCosts 19 = .ok (.goto (-17), 3) := by decide +kernel
theorem dX13_firstCosts_22 : decode cX13_firstCosts 22 = .ok (.iconst 0, 1) := by decide +kernel
theorem dX13_firstCosts_23 : decode cX13_firstCosts 23 = .ok (.istore_n 2, 1) := by decide +kernel
theorem dX13_firstCosts_24 : decode cX13_firstCosts 24 = .ok (.iload_n 2, 1) := by decide +kernel
theorem dX13_firstCosts_25 : decode cX13_firstCosts 25 = .ok (.aload_n 0, 1) := by decide +kernel
theorem dX13_firstCosts_26 : decode cX13_firstCosts 26 = .ok (.getfield 174, 3) := by decide +kernel
theorem dX13_firstCosts_29 : decode cX13_firstCosts 29 = .ok (.if_icmp .ge 24, 3) := by decide +kernel
theorem dX13_firstCosts_32 : decode cX13_firstCosts 32 = .ok (.aload_n 0, 1) := by decide +kernel
theorem dX13_firstCosts_33 : decode cX13_firstCosts 33 = .ok (.getfield 69, 3) := by decide +kernel
theorem dX13_firstCosts_36 : decode cX13_firstCosts 36 = .ok (.aload_n 0, 1) := by decide +kernel
theorem dX13_firstCosts_37 : decode cX13_firstCosts 37 = .ok (.getfield 53, 3) := by decide +kernel
theorem dX13_firstCosts_40 : decode cX13_firstCosts 40 = .ok (.iload_n 2, 1) := by decide +kernel
theorem dX13_firstCosts_41 : decode cX13_firstCosts 41 = .ok (.iaload, 1) := by decide +kernel
theorem dX13_firstCosts_42 : decode cX13_firstCosts 42 = .ok (.dup2, 1) := by decide +kernel
theorem dX13_firstCosts_43 : decode cX13_firstCosts 43 = .ok (.iaload, 1) := by decide +kernel
theorem dX13_firstCosts_44 : decode cX13_firstCosts 44 = .ok (.iconst 1, 1) := by decide +kernel
theorem dX13_firstCosts_45 : decode cX13_firstCosts 45 = .ok (.iadd, 1) := by decide +kernel
theorem dX13_firstCosts_46 : decode cX13_firstCosts 46 = .ok (.iastore, 1) := by decide +kernel
theorem dX13_firstCosts_47 : decode cX13_firstCosts 47 = .ok (.iinc 2 1, 3) := by decide +kernel
theorem dX13_firstCosts_50 : decode cX13_firstCosts 50 = .ok (.goto (-26), 3) := by decide +kernel
theorem dX13_firstCosts_53 : decode cX13_firstCosts 53 = .ok (.aload_n 0, 1) := by decide +kernel
theorem dX13_firstCosts_54 : decode cX13_firstCosts 54 = .ok (.getfield 174, 3) := by decide +kernel
theorem dX13_firstCosts_57 : decode cX13_firstCosts 57 = .ok (.istore_n 2, 1) := by decide +kernel
theorem dX13_firstCosts_58 : decode cX13_firstCosts 58 = .ok (.iconst 0, 1) := by decide +kernel
theorem dX13_firstCosts_59 : decode cX13_firstCosts 59 = .ok (.istore_n 3, 1) := by decide +kernel
theorem dX13_firstCosts_60 : decode cX13_firstCosts 60 = .ok (.aload_n 0, 1) := by decide +kernel
theorem dX13_firstCosts_61 : decode cX13_firstCosts 61 = .ok (.getfield 189, 3) := by decide +kernel
theorem dX13_firstCosts_64 : decode cX13_firstCosts 64 = .ok (.iconst 1, 1) := by decide +kernel
theorem dX13_firstCosts_65 : decode cX13_firstCosts 65 = .ok (.isub, 1) := by decide +kernel
theorem dX13_firstCosts_66 : decode cX13_firstCosts 66 = .ok (.istore 4, 2) := by decide +kernel
theorem dX13_firstCosts_68 : decode cX13_firstCosts 68 = .ok (.iload 4, 2) := by decide +kernel
theorem dX13_firstCosts_70 : decode cX13_firstCosts 70 = .ok (.ifCond .lt 164, 3) := by decide +kernel
theorem dX13_firstCosts_73 : decode cX13_firstCosts 73 = .ok (.iload_n 2, 1) := by decide +kernel
theorem dX13_firstCosts_74 : decode cX13_firstCosts 74 = .ok (.iload 4, 2) := by decide +kernel
theorem dX13_firstCosts_76 : decode cX13_firstCosts 76 = .ok (.iconst 1, 1) := by decide +kernel
theorem dX13_firstCosts_77 : decode cX13_firstCosts 77 = .ok (.iadd, 1) := by decide +kernel
theorem dX13_firstCosts_78 : decode cX13_firstCosts 78 = .ok (.idiv, 1) := by decide +kernel
theorem dX13_firstCosts_79 : decode cX13_firstCosts 79 = .ok (.istore 5, 2) := by decide +kernel
theorem dX13_firstCosts_81 : decode cX13_firstCosts 81 = .ok (.iload_n 3, 1) := by decide +kernel
theorem dX13_firstCosts_82 : decode cX13_firstCosts 82 = .ok (.istore 6, 2) := by decide +kernel
theorem dX13_firstCosts_84 : decode cX13_firstCosts 84 = .ok (.iconst 0, 1) := by decide +kernel
theorem dX13_firstCosts_85 : decode cX13_firstCosts 85 = .ok (.istore 7, 2) := by decide +kernel
theorem dX13_firstCosts_87 : decode cX13_firstCosts 87 = .ok (.iload 7, 2) := by decide +kernel
theorem dX13_firstCosts_89 : decode cX13_firstCosts 89 = .ok (.iload 5, 2) := by decide +kernel
theorem dX13_firstCosts_91 : decode cX13_firstCosts 91 = .ok (.if_icmp .ge 27, 3) := by decide +kernel
theorem dX13_firstCosts_94 : decode cX13_firstCosts 94 = .ok (.iload 6, 2) := by decide +kernel
theorem dX13_firstCosts_96 : decode cX13_firstCosts 96 = .ok (.iload_n 1, 1) := by decide +kernel
theorem dX13_firstCosts_97 : decode cX13_firstCosts 97 = .ok (.if_icmp .ge 21, 3) := by decide +kernel
theorem dX13_firstCosts_100 : decode cX13_firstCosts 100 = .ok (.iload 7, 2) := by decide +kernel
theorem dX13_firstCosts_102 : decode cX13_firstCosts 102 = .ok (.aload_n 0, 1) := by decide +kernel
theorem dX13_firstCosts_103 : decode cX13_firstCosts 103 = .ok (.getfield 69, 3) := by decide +kernel
theorem dX13_firstCosts_106 : decode cX13_firstCosts 106 = .ok (.iload 6, 2) := by decide +kernel
theorem dX13_firstCosts_108 : decode cX13_firstCosts 108 = .ok (.iaload, 1) := by decide +kernel
theorem dX13_firstCosts_109 : decode cX13_firstCosts 109 = .ok (.iadd, 1) := by decide +kernel
theorem dX13_firstCosts_110 : decode cX13_firstCosts 110 = .ok (.istore 7, 2) := by decide +kernel
theorem dX13_firstCosts_112 : decode cX13_firstCosts 112 = .ok (.iinc 6 1, 3) := by decide +kernel
theorem dX13_firstCosts_115 : decode cX13_firstCosts 115 = .ok (.goto (-28), 3) := by decide +kernel
theorem dX13_firstCosts_118 : decode cX13_firstCosts 118 = .ok (.iload 6, 2) := by decide +kernel
theorem dX13_firstCosts_120 : decode cX13_firstCosts 120 = .ok (.iload_n 3, 1) := by decide +kernel
theorem dX13_firstCosts_121 : decode cX13_firstCosts 121 = .ok (.isub, 1) := by decide +kernel
theorem dX13_firstCosts_122 : decode cX13_firstCosts 122 = .ok (.iconst 1, 1) := by decide +kernel
theorem dX13_firstCosts_123 : decode cX13_firstCosts 123 = .ok (.if_icmp .le 49, 3) := by decide +kernel
theorem dX13_firstCosts_126 : decode cX13_firstCosts 126 = .ok (.iload 4, 2) := by decide +kernel
theorem dX13_firstCosts_128 : decode cX13_firstCosts 128 = .ok (.aload_n 0, 1) := by decide +kernel
theorem dX13_firstCosts_129 : decode cX13_firstCosts 129 = .ok (.getfield 189, 3) := by decide +kernel
theorem dX13_firstCosts_132 : decode cX13_firstCosts 132 = .ok (.iconst 1, 1) := by decide +kernel
theorem dX13_firstCosts_133 : decode cX13_firstCosts 133 = .ok (.isub, 1) := by decide +kernel
theorem dX13_firstCosts_134 : decode cX13_firstCosts 134 = .ok (.if_icmp .eq 38, 3) := by decide +kernel
theorem dX13_firstCosts_137 : decode cX13_firstCosts 137 = .ok (.iload 4, 2) := by decide +kernel
theorem dX13_firstCosts_139 : decode cX13_firstCosts 139 = .ok (.ifCond .eq 33, 3) := by decide +kernel
theorem dX13_firstCosts_142 : decode cX13_firstCosts 142 = .ok (.aload_n 0, 1) := by decide +kernel
theorem dX13_firstCosts_143 : decode cX13_firstCosts 143 = .ok (.getfield 189, 3) := by decide +kernel
theorem dX13_firstCosts_146 : decode cX13_firstCosts 146 = .ok (.iconst 1, 1) := by decide +kernel
theorem dX13_firstCosts_147 : decode cX13_firstCosts 147 = .ok (.isub, 1) := by decide +kernel
theorem dX13_firstCosts_148 : decode cX13_firstCosts 148 = .ok (.iload 4, 2) := by decide +kernel
theorem dX13_firstCosts_150 : decode cX13_firstCosts 150 = .ok (.isub, 1) := by decide +kernel
theorem dX13_firstCosts_151 : decode cX13_firstCosts 151 = .ok (.iconst 2, 1) := by decide +kernel
theorem dX13_firstCosts_152 : decode cX13_firstCosts 152 = .ok (.irem, 1) := by decide +kernel
theorem dX13_firstCosts_153 : decode cX13_firstCosts 153 = .ok (.iconst 1, 1) := by decide +kernel
theorem dX13_firstCosts_154 : decode cX13_firstCosts 154 = .ok (.if_icmp .ne 18, 3) := by decide +kernel
theorem dX13_firstCosts_157 : decode cX13_firstCosts 157 = .ok (.iinc 6 (-1), 3) := by decide +kernel
theorem dX13_firstCosts_160 : decode cX13_firstCosts 160 = .ok (.iload 7, 2) := by decide +kernel
theorem dX13_firstCosts_162 : decode cX13_firstCosts 162 = .ok (.aload_n 0, 1) := by decide +kernel
theorem dX13_firstCosts_163 : decode cX13_firstCosts 163 = .ok (.getfield 69, 3) := by decide +kernel
theorem dX13_firstCosts_166 : decode cX13_firstCosts 166 = .ok (.iload 6, 2) := by decide +kernel
theorem dX13_firstCosts_168 : decode cX13_firstCosts 168 = .ok (.iaload, 1) := by decide +kernel
theorem dX13_firstCosts_169 : decode cX13_firstCosts 169 = .ok (.isub, 1) := by decide +kernel
theorem dX13_firstCosts_170 : decode cX13_firstCosts 170 = .ok (.istore 7, 2) := by decide +kernel
theorem dX13_firstCosts_172 : decode cX13_firstCosts 172 = .ok (.iconst 0, 1) := by decide +kernel
theorem dX13_firstCosts_173 : decode cX13_firstCosts 173 = .ok (.istore 8, 2) := by decide +kernel
theorem dX13_firstCosts_175 : decode cX13_firstCosts 175 = .ok (.iload 8, 2) := by decide +kernel
theorem dX13_firstCosts_177 : decode cX13_firstCosts 177 = .ok (.iload_n 1, 1) := by decide +kernel
theorem dX13_firstCosts_178 : decode cX13_firstCosts 178 = .ok (.if_icmp .ge 42, 3) := by decide +kernel
theorem dX13_firstCosts_181 : decode cX13_firstCosts 181 = .ok (.aload_n 0, 1) := by decide +kernel
theorem dX13_firstCosts_182 : decode cX13_firstCosts 182 = .ok (.getfield 66, 3) := by decide +kernel
theorem dX13_firstCosts_185 : decode cX13_firstCosts 185 = .ok (.sipush 260, 3) := by decide +kernel
theorem dX13_firstCosts_188 : decode cX13_firstCosts 188 = .ok (.iload 4, 2) := by decide +kernel
theorem dX13_firstCosts_190 : decode cX13_firstCosts 190 = .ok (.imul, 1) := by decide +kernel
theorem dX13_firstCosts_191 : decode cX13_firstCosts 191 = .ok (.iload 8, 2) := by decide +kernel
theorem dX13_firstCosts_193 : decode cX13_firstCosts 193 = .ok (.iadd, 1) := by decide +kernel
theorem dX13_firstCosts_194 : decode cX13_firstCosts 194 = .ok (.iload 8, 2) := by decide +kernel
theorem dX13_firstCosts_196 : decode cX13_firstCosts 196 = .ok (.iload_n 3, 1) := by decide +kernel
theorem dX13_firstCosts_197 : decode cX13_firstCosts 197 = .ok (.if_icmp .lt 14, 3) := by decide +kernel
theorem dX13_firstCosts_200 : decode cX13_firstCosts 200 = .ok (.iload 8, 2) := by decide +kernel
theorem dX13_firstCosts_202 : decode cX13_firstCosts 202 = .ok (.iload 6, 2) := by decide +kernel
theorem dX13_firstCosts_204 : decode cX13_firstCosts 204 = .ok (.if_icmp .ge 7, 3) := by decide +kernel
theorem dX13_firstCosts_207 : decode cX13_firstCosts 207 = .ok (.iconst 0, 1) := by decide +kernel
theorem dX13_firstCosts_208 : decode cX13_firstCosts 208 = .ok (.goto 5, 3) := by decide +kernel
theorem dX13_firstCosts_211 : decode cX13_firstCosts 211 = .ok (.bipush 15, 2) := by decide +kernel
theorem dX13_firstCosts_213 : decode cX13_firstCosts 213 = .ok (.iastore, 1) := by decide +kernel
theorem dX13_firstCosts_214 : decode cX13_firstCosts 214 = .ok (.iinc 8 1, 3) := by decide +kernel
theorem dX13_firstCosts_217 : decode cX13_firstCosts 217 = .ok (.goto (-42), 3) := by decide +kernel
theorem dX13_firstCosts_220 : decode cX13_firstCosts 220 = .ok (.iload_n 2, 1) := by decide +kernel
theorem dX13_firstCosts_221 : decode cX13_firstCosts 221 = .ok (.iload 7, 2) := by decide +kernel
theorem dX13_firstCosts_223 : decode cX13_firstCosts 223 = .ok (.isub, 1) := by decide +kernel
theorem dX13_firstCosts_224 : decode cX13_firstCosts 224 = .ok (.istore_n 2, 1) := by decide +kernel
theorem dX13_firstCosts_225 : decode cX13_firstCosts 225 = .ok (.iload 6, 2) := by decide +kernel
theorem dX13_firstCosts_227 : decode cX13_firstCosts 227 = .ok (.istore_n 3, 1) := by decide +kernel
theorem dX13_firstCosts_228 : decode cX13_firstCosts 228 = .ok (.iinc 4 (-1), 3) := by decide +kernel
theorem dX13_firstCosts_231 : decode cX13_firstCosts 231 = .ok (.goto (-163), 3) := by decide +kernel
theorem dX13_firstCosts_234 : decode cX13_firstCosts 234 = .ok (.return_, 1) := by decide +kernel
theorem dX13_chooseTables_0 : decode cX13_chooseTables 0 = .ok (.aload_n 0, 1) := by decide +kernel
theorem dX13_chooseTables_1 : decode cX13_chooseTables 1 = .ok (.aload_n 0, 1) := by decide +kernel
theorem dX13_chooseTables_2 : decode cX13_chooseTables 2 = .ok (.getfield 174, 3) := by decide +kernel
theorem dX13_chooseTables_5 : decode cX13_chooseTables 5 = .ok (.sipush 200, 3) := by decide +kernel
theorem dX13_chooseTables_8 : decode cX13_chooseTables 8 = .ok (.if_icmp .ge 7, 3) := by decide +kernel
theorem dX13_chooseTables_11 : decode cX13_chooseTables 11 = .ok (.iconst 2, 1) := by decide +kernel
theorem dX13_chooseTables_12 : decode cX13_chooseTables 12 = .ok (.goto 32, 3) := by decide +kernel
theorem dX13_chooseTables_15 : decode cX13_chooseTables 15 = .ok (.aload_n 0, 1) := by decide +kernel
theorem dX13_chooseTables_16 : decode cX13_chooseTables 16 = .ok (.getfield 174, 3) := by decide +kernel
theorem dX13_chooseTables_19 : decode cX13_chooseTables 19 = .ok (.sipush 600, 3) := by decide +kernel
theorem dX13_chooseTables_22 : decode cX13_chooseTables 22 = .ok (.if_icmp .ge 7, 3) := by decide +kernel
theorem dX13_chooseTables_25 : decode cX13_chooseTables 25 = .ok (.iconst 3, 1) := by decide +kernel
theorem dX13_chooseTables_26 : decode cX13_chooseTables 26 = .ok (.goto 18, 3) := by decide +kernel
theorem dX13_chooseTables_29 : decode cX13_chooseTables 29 = .ok (.aload_n 0, 1) := by decide +kernel
theorem dX13_chooseTables_30 : decode cX13_chooseTables 30 = .ok (.getfield 174, 3) := by decide +kernel
theorem dX13_chooseTables_33 : decode cX13_chooseTables 33 = .ok (.sipush 1200, 3) := by decide +kernel
theorem dX13_chooseTables_36 : decode cX13_chooseTables 36 = .ok (.if_icmp .ge 7, 3) := by decide +kernel
theorem dX13_chooseTables_39 : decode cX13_chooseTables 39 = .ok (.iconst 4, 1) := by decide +kernel
theorem dX13_chooseTables_40 : decode cX13_chooseTables 40 = .ok (.goto 4, 3) := by decide +kernel
theorem dX13_chooseTables_43 : decode cX13_chooseTables 43 = .ok (.iconst 5, 1) := by decide +kernel
theorem dX13_chooseTables_44 : decode cX13_chooseTables 44 = .ok (.putfield 189, 3) := by decide +kernel
theorem dX13_chooseTables_47 : decode cX13_chooseTables 47 = .ok (.aload_n 0, 1) := by decide +kernel
theorem dX13_chooseTables_48 : decode cX13_chooseTables 48 = .ok (.iload_n 1, 1) := by decide +kernel
theorem dX13_chooseTables_49 : decode cX13_chooseTables 49 = .ok (.invokevirtual 192, 3) := by decide +kernel
theorem dX13_chooseTables_52 : decode cX13_chooseTables 52 = .ok (.iconst 0, 1) := by decide +kernel
theorem dX13_chooseTables_53 : decode cX13_chooseTables 53 = .ok (.istore_n 2, 1) := by decide +kernel
theorem dX13_chooseTables_54 : decode cX13_chooseTables 54 = .ok (.iload_n 2, 1) := by decide +kernel
theorem dX13_chooseTables_55 : decode cX13_chooseTables 55 = .ok (.iconst 4, 1) := by decide +kernel
theorem dX13_chooseTables_56 : decode cX13_chooseTables 56 = .ok (.if_icmp .ge 288, 3) := by decide +kernel
theorem dX13_chooseTables_59 : decode cX13_chooseTables 59 = .ok (.iconst 0, 1) := by decide +kernel
theorem dX13_chooseTables_60 : decode cX13_chooseTables 60 = .ok (.istore_n 3, 1) := by decide +kernel
theorem dX13_chooseTables_61 : decode cX13_chooseTables 61 = .ok (.iload_n 3, 1) := by decide +kernel
theorem dX13_chooseTables_62 : decode cX13_chooseTables 62 = .ok (.sipush 1560, 3) := by decide +kernel
theorem dX13_chooseTables_65 : decode cX13_chooseTables 65 = .ok (.if_icmp .ge 16, 3) := by decide +kernel
theorem dX13_chooseTables_68 : decode cX13_chooseTables 68 = .ok (.aload_n 0, 1) := by decide +kernel
theorem dX13_chooseTables_69 : decode cX13_chooseTables 69 = .ok (.getfield 69, 3) := by decide +kernel
theorem dX13_chooseTables_72 : decode cX13_chooseTables 72 = .ok (.iload_n 3, 1) := by decide +kernel
theorem dX13_chooseTables_73 : decode cX13_chooseTables 73 = .ok (.iconst 0, 1) := by decide +kernel
theorem dX13_chooseTables_74 : decode cX13_chooseTables 74 = .ok (.iastore, 1) := by decide +kernel
theorem dX13_chooseTables_75 : decode cX13_chooseTables 75 = .ok (.iinc 3 1, 3) := by decide +kernel
theorem dX13_chooseTables_78 : decode cX13_chooseTables 78 = .ok (.goto (-17), 3) := by decide +kernel
theorem dX13_chooseTables_81 : decode cX13_chooseTables 81 = .ok (.aload_n 0, 1) := by decide +kernel
theorem dX13_chooseTables_82 : decode cX13_chooseTables 82 = .ok (.iconst 0, 1) := by decide +kernel
theorem dX13_chooseTables_83 : decode cX13_chooseTables 83 = .ok (.putfield 195, 3) := by decide +kernel
theorem dX13_chooseTables_86 : decode cX13_chooseTables 86 = .ok (.iconst 0, 1) := by decide +kernel
theorem dX13_chooseTables_87 : decode cX13_chooseTables 87 = .ok (.istore_n 3, 1) := by decide +kernel
theorem dX13_chooseTables_88 : decode cX13_chooseTables 88 = .ok (.iload_n 3, 1) := by decide +kernel
theorem dX13_chooseTables_89 : decode cX13_chooseTables 89 = .ok (.aload_n 0, 1) := by decide +kernel
theorem dX13_chooseTables_90 : decode cX13_chooseTables 90 = .ok (.getfield 174, 3) := by decide +kernel
theorem dX13_chooseTables_93 : decode cX13_chooseTables 93 = .ok (.if_icmp .ge 182, 3) := by decide +kernel
theorem dX13_chooseTables_96 : decode cX13_chooseTables 96 = .ok (.iload_n 3, 1) := by decide +kernel
theorem dX13_chooseTables_97 : decode cX13_chooseTables 97 = .ok (.bipush 50, 2) := by decide +kernel
theorem dX13_chooseTables_99 : decode cX13_chooseTables 99 = .ok (.iadd, 1) := by decide +kernel
theorem dX13_chooseTables_100 : decode cX13_chooseTables 100 = .ok (.aload_n 0, 1) := by decide +kernel
theorem dX13_chooseTables_101 : decode cX13_chooseTables 101 = .ok (.getfield 174, 3) := by decide +kernel
theorem dX13_chooseTables_104 : decode cX13_chooseTables 104 = .ok (.if_icmp .ge 10, 3) := by decide +kernel
theorem dX13_chooseTables_107 : decode cX13_chooseTables 107 = .ok (.iload_n 3, 1) := by decide +kernel
theorem dX13_chooseTables_108 : decode cX13_chooseTables 108 = .ok (.bipush 50, 2) := by decide +kernel
theorem dX13_chooseTables_110 : decode cX13_chooseTables 110 = .ok (.iadd, 1) := by decide +kernel
theorem dX13_chooseTables_111 : decode cX13_chooseTables 111 = .ok (.goto 7, 3) := by decide +kernel
theorem dX13_chooseTables_114 : decode cX13_chooseTables 114 = .ok (.aload_n 0, 1) := by decide +kernel
theorem dX13_chooseTables_115 : decode cX13_chooseTables 115 = .ok (.getfield 174, 3) := by decide +kernel
theorem dX13_chooseTables_118 : decode cX13_chooseTables 118 = .ok (.istore 4, 2) := by decide +kernel
theorem dX13_chooseTables_120 : decode cX13_chooseTables 120 = .ok (.iconst (-1), 1) := by decide +kernel
theorem dX13_chooseTables_121 : decode cX13_chooseTables 121 = .ok (.istore 5, 2) := by decide +kernel
theorem dX13_chooseTables_123 : decode cX13_chooseTables 123 = .ok (.iconst 0, 1) := by decide +kernel
theorem dX13_chooseTables_124 : decode cX13_chooseTables 124 = .ok (.istore 6, 2) := by decide +kernel
theorem dX13_chooseTables_126 : decode cX13_chooseTables 126 = .ok (.iconst 0, 1) := by decide +kernel
theorem dX13_chooseTables_127 : decode cX13_chooseTables 127 = .ok (.istore 7, 2) := by decide +kernel
theorem dX13_chooseTables_129 : decode cX13_chooseTables 129 = .ok (.iload 7, 2) := by decide +kernel
theorem dX13_chooseTables_131 : decode cX13_chooseTables 131 = .ok (.aload_n 0, 1) := by decide +kernel
theorem dX13_chooseTables_132 : decode cX13_chooseTables 132 = .ok (.getfield 189, 3) := by decide +kernel
theorem dX13_chooseTables_135 : decode cX13_chooseTables 135 = .ok (.if_icmp .ge 72, 3) := by decide +kernel
theorem dX13_chooseTables_138 : decode cX13_chooseTables 138 = .ok (.iconst 0, 1) := by decide +kernel
theorem dX13_chooseTables_139 : decode cX13_chooseTables 139 = .ok (.istore 8, 2) := by decide +kernel
theorem dX13_chooseTables_141 : decode cX13_chooseTables 141 = .ok (.iload_n 3, 1) := by decide +kernel
theorem dX13_chooseTables_142 : decode cX13_chooseTables 142 = .ok (.istore 9, 2) := by decide +kernel
theorem dX13_chooseTables_144 : decode cX13_chooseTables 144 = .ok (.iload 9, 2) := by decide +kernel
theorem dX13_chooseTables_146 : decode cX13_chooseTables 146 = .ok (.iload 4, 2) := by decide +kernel
theorem dX13_chooseTables_148 : decode cX13_chooseTables 148 = .ok (.if_icmp .ge 33, 3) := by decide +kernel
theorem dX13_chooseTables_151 : decode cX13_chooseTables 151 = .ok (.iload 8, 2) := by decide +kernel
theorem dX13_chooseTables_153 : decode cX13_chooseTables 153 = .ok (.aload_n 0, 1) := by decide +kernel
theorem dX13_chooseTables_154 : decode cX13_chooseTables 154 = .ok (.getfield 66, 3) := by decide +kernel
theorem dX13_chooseTables_157 : decode cX13_chooseTables 157 = .ok (.sipush 260, 3) := by decide +kernel
theorem dX13_chooseTables_160 : decode cX13_chooseTables 160 = .ok (.iload 7, 2) := by decide +kernel
theorem dX13_chooseTables_162 : decode cX13_chooseTables 162 = .ok (.imul, 1) := by decide +kernel
theorem dX13_chooseTables_163 : decode cX13_chooseTables 163 = .ok (.aload_n 0, 1) := by decide +kernel
theorem dX13_chooseTables_164 : decode cX13_chooseTables 164 = .ok (.getfield 53, 3) := by decide +kernel
theorem dX13_chooseTables_167 : decode cX13_chooseTables 167 = .ok (.iload 9, 2) := by decide +kernel
theorem dX13_chooseTables_169 : decode cX13_chooseTables 169 = .ok (.iaload, 1) := by decide +kernel
theorem dX13_chooseTables_170 : decode cX13_chooseTables 170 = .ok (.iadd, 1) := by decide +kernel
theorem dX13_chooseTables_171 : decode cX13_chooseTables 171 = .ok (.iaload, 1) := by decide +kernel
theorem dX13_chooseTables_172 : decode cX13_chooseTables 172 = .ok (.iadd, 1) := by decide +kernel
theorem dX13_chooseTables_173 : decode cX13_chooseTables 173 = .ok (.istore 8, 2) := by decide +kernel
theorem dX13_chooseTables_175 : decode cX13_chooseTables 175 = .ok (.iinc 9 1, 3) := by decide +kernel
theorem dX13_chooseTables_178 : decode cX13_chooseTables 178 = .ok (.goto (-34), 3) := by decide +kernel
theorem dX13_chooseTables_181 : decode cX13_chooseTables 181 = .ok (.iload 5, 2) := by decide +kernel
theorem dX13_chooseTables_183 : decode cX13_chooseTables 183 = .ok (.ifCond .lt 10, 3) := by decide +kernel
theorem dX13_chooseTables_186 : decode cX13_chooseTables 186 = .ok (.iload 8, 2) := by decide +kernel
theorem dX13_chooseTables_188 : decode cX13_chooseTables 188 = .ok (.iload 6, 2) := by decide +kernel
theorem dX13_chooseTables_190 : decode cX13_chooseTables 190 = .ok (.if_icmp .ge 11, 3) := by decide +kernel
theorem dX13_chooseTables_193 : decode cX13_chooseTables 193 = .ok (.iload 7, 2) := by decide +kernel
theorem dX13_chooseTables_195 : decode cX13_chooseTables 195 = .ok (.istore 5, 2) := by decide +kernel
theorem dX13_chooseTables_197 : decode cX13_chooseTables 197 = .ok (.iload 8, 2) := by decide +kernel
theorem dX13_chooseTables_199 : decode cX13_chooseTables 199 = .ok (.istore 6, 2) := by decide +kernel
theorem dX13_chooseTables_201 : decode cX13_chooseTables 201 = .ok (.iinc 7 1, 3) := by decide +kernel
theorem dX13_chooseTables_204 : decode cX13_chooseTables 204 = .ok (.goto (-75), 3) := by decide +kernel
theorem dX13_chooseTables_207 : decode cX13_chooseTables 207 = .ok (.aload_n 0, 1) := by decide +kernel
theorem dX13_chooseTables_208 : decode cX13_chooseTables 208 = .ok (.getfield 72, 3) := by decide +kernel
theorem dX13_chooseTables_211 : decode cX13_chooseTables 211 = .ok (.aload_n 0, 1) := by decide +kernel
theorem dX13_chooseTables_212 : decode cX13_chooseTables 212 = .ok (.getfield 195, 3) := by decide +kernel
theorem dX13_chooseTables_215 : decode cX13_chooseTables 215 = .ok (.iload 5, 2) := by decide +kernel
theorem dX13_chooseTables_217 : decode cX13_chooseTables 217 = .ok (.iastore, 1) := by decide +kernel
theorem dX13_chooseTables_218 : decode cX13_chooseTables 218 = .ok (.aload_n 0, 1) := by decide +kernel
theorem dX13_chooseTables_219 : decode cX13_chooseTables 219 = .ok (.dup, 1) := by decide +kernel
theorem dX13_chooseTables_220 : decode cX13_chooseTables 220 = .ok (.getfield 195, 3) := by decide +kernel
theorem dX13_chooseTables_223 : decode cX13_chooseTables 223 = .ok (.iconst 1, 1) := by decide +kernel
theorem dX13_chooseTables_224 : decode cX13_chooseTables 224 = .ok (.iadd, 1) := by decide +kernel
theorem dX13_chooseTables_225 : decode cX13_chooseTables 225 = .ok (.putfield 195, 3) := by decide +kernel
theorem dX13_chooseTables_228 : decode cX13_chooseTables 228 = .ok (.iload_n 3, 1) := by decide +kernel
theorem dX13_chooseTables_229 : decode cX13_chooseTables 229 = .ok (.istore 7, 2) := by decide +kernel
theorem dX13_chooseTables_231 : decode cX13_chooseTables 231 = .ok (.iload 7, 2) := by decide +kernel
theorem dX13_chooseTables_233 : decode cX13_chooseTables 233 = .ok (.iload 4, 2) := by decide +kernel
theorem dX13_chooseTables_235 : decode cX13_chooseTables 235 = .ok (.if_icmp .ge 32, 3) := by decide +kernel
theorem dX13_chooseTables_238 : decode cX13_chooseTables 238 = .ok (.aload_n 0, 1) := by decide +kernel
theorem dX13_chooseTables_239 : decode cX13_chooseTables 239 = .ok (.getfield 69, 3) := by decide +kernel
theorem dX13_chooseTables_242 : decode cX13_chooseTables 242 = .ok (.sipush 260, 3) := by decide +kernel
theorem dX13_chooseTables_245 : decode cX13_chooseTables 245 = .ok (.iload 5, 2) := by decide +kernel
theorem dX13_chooseTables_247 : decode cX13_chooseTables 247 = .ok (.imul, 1) := by decide +kernel
theorem dX13_chooseTables_248 : decode cX13_chooseTables 248 = .ok (.aload_n 0, 1) := by decide +kernel
theorem dX13_chooseTables_249 : decode cX13_chooseTables 249 = .ok (.getfield 53, 3) := by decide +kernel
theorem dX13_chooseTables_252 : decode cX13_chooseTables 252 = .ok (.iload 7, 2) := by decide +kernel
theorem dX13_chooseTables_254 : decode cX13_chooseTables 254 = .ok (.iaload, 1) := by decide +kernel
theorem dX13_chooseTables_255 : decode cX13_chooseTables 255 = .ok (.iadd, 1) := by decide +kernel
theorem dX13_chooseTables_256 : decode cX13_chooseTables 256 = .ok (.dup2, 1) := by decide +kernel
theorem dX13_chooseTables_257 : decode cX13_chooseTables 257 = .ok (.iaload, 1) := by decide +kernel
theorem dX13_chooseTables_258 : decode cX13_chooseTables 258 = .ok (.iconst 1, 1) := by decide +kernel
theorem dX13_chooseTables_259 : decode cX13_chooseTables 259 = .ok (.iadd, 1) := by decide +kernel
theorem dX13_chooseTables_260 : decode cX13_chooseTables 260 = .ok (.iastore, 1) := by decide +kernel
theorem dX13_chooseTables_261 : decode cX13_chooseTables 261 = .ok (.iinc 7 1, 3) := by decide +kernel
theorem dX13_chooseTables_264 : decode cX13_chooseTables 264 = .ok (.goto (-33), 3) := by decide +kernel
theorem dX13_chooseTables_267 : decode cX13_chooseTables 267 = .ok (.iload_n 3, 1) := by decide +kernel
theorem dX13_chooseTables_268 : decode cX13_chooseTables 268 = .ok (.bipush 50, 2) := by decide +kernel
theorem dX13_chooseTables_270 : decode cX13_chooseTables 270 = .ok (.iadd, 1) := by decide +kernel
theorem dX13_chooseTables_271 : decode cX13_chooseTables 271 = .ok (.istore_n 3, 1) := by decide +kernel
theorem dX13_chooseTables_272 : decode cX13_chooseTables 272 = .ok (.goto (-184), 3) := by decide +kernel
theorem dX13_chooseTables_275 : decode cX13_chooseTables 275 = .ok (.iconst 0, 1) := by decide +kernel
theorem dX13_chooseTables_276 : decode cX13_chooseTables 276 = .ok (.istore_n 3, 1) := by decide +kernel
theorem dX13_chooseTables_277 : decode cX13_chooseTables 277 = .ok (.iload_n 3, 1) := by decide +kernel
theorem dX13_chooseTables_278 : decode cX13_chooseTables 278 = .ok (.aload_n 0, 1) := by decide +kernel
theorem dX13_chooseTables_279 : decode cX13_chooseTables 279 = .ok (.getfield 189, 3) := by decide +kernel
theorem dX13_chooseTables_282 : decode cX13_chooseTables 282 = .ok (.if_icmp .ge 56, 3) := by decide +kernel
theorem dX13_chooseTables_285 : decode cX13_chooseTables 285 = .ok (.aload_n 0, 1) := by decide +kernel
theorem dX13_chooseTables_286 : decode cX13_chooseTables 286 = .ok (.iload_n 3, 1) := by decide +kernel
theorem dX13_chooseTables_287 : decode cX13_chooseTables 287 = .ok (.iload_n 1, 1) := by decide +kernel
theorem dX13_chooseTables_288 : decode cX13_chooseTables 288 = .ok (.invokevirtual 198, 3) := by decide +kernel
theorem dX13_chooseTables_291 : decode cX13_chooseTables 291 = .ok (.iconst 0, 1) := by decide +kernel
theorem dX13_chooseTables_292 : decode cX13_chooseTables 292 = .ok (.istore 4, 2) := by decide +kernel
theorem dX13_chooseTables_294 : decode cX13_chooseTables 294 = .ok (.iload 4, 2) := by decide +kernel
theorem dX13_chooseTables_296 : decode cX13_chooseTables 296 = .ok (.iload_n 1, 1) := by decide +kernel
theorem dX13_chooseTables_297 : decode cX13_chooseTables 297 = .ok (.if_icmp .ge 35, 3) := by decide +kernel
theorem dX13_chooseTables_300 : decode cX13_chooseTables 300 = .ok (.aload_n 0, 1) := by decide +kernel
theorem dX13_chooseTables_301 : decode cX13_chooseTables 301 = .ok (.getfield 66, 3) := by decide +kernel
theorem dX13_chooseTables_304 : decode cX13_chooseTables 304 = .ok (.sipush 260, 3) := by decide +kernel
theorem dX13_chooseTables_307 : decode cX13_chooseTables 307 = .ok (.iload_n 3, 1) := by decide +kernel
theorem dX13_chooseTables_308 : decode cX13_chooseTables 308 = .ok (.imul, 1) := by decide +kernel
theorem dX13_chooseTables_309 : decode cX13_chooseTables 309 = .ok (.iload 4, 2) := by decide +kernel
theorem dX13_chooseTables_311 : decode cX13_chooseTables 311 = .ok (.iadd, 1) := by decide +kernel
theorem dX13_chooseTables_312 : decode cX13_chooseTables 312 = .ok (.aload_n 0, 1) := by decide +kernel
theorem dX13_chooseTables_313 : decode cX13_chooseTables 313 = .ok (.getfield 63, 3) := by decide +kernel
theorem dX13_chooseTables_316 : decode cX13_chooseTables 316 = .ok (.sipush 260, 3) := by decide +kernel
theorem dX13_chooseTables_319 : decode cX13_chooseTables 319 = .ok (.iload_n 3, 1) := by decide +kernel
theorem dX13_chooseTables_320 : decode cX13_chooseTables 320 = .ok (.imul, 1) := by decide +kernel
theorem dX13_chooseTables_321 : decode cX13_chooseTables 321 = .ok (.iload 4, 2) := by decide +kernel
theorem dX13_chooseTables_323 : decode cX13_chooseTables 323 = .ok (.iadd, 1) := by decide +kernel
theorem dX13_chooseTables_324 : decode cX13_chooseTables 324 = .ok (.iaload, 1) := by decide +kernel
theorem dX13_chooseTables_325 : decode cX13_chooseTables 325 = .ok (.iastore, 1) := by decide +kernel
theorem dX13_chooseTables_326 : decode cX13_chooseTables 326 = .ok (.iinc 4 1, 3) := by decide +kernel
theorem dX13_chooseTables_329 : decode cX13_chooseTables 329 = .ok (.goto (-35), 3) := by decide +kernel
theorem dX13_chooseTables_332 : decode cX13_chooseTables 332 = .ok (.iinc 3 1, 3) := by decide +kernel
theorem dX13_chooseTables_335 : decode cX13_chooseTables 335 = .ok (.goto (-58), 3) := by decide +kernel
theorem dX13_chooseTables_338 : decode cX13_chooseTables 338 = .ok (.iinc 2 1, 3) := by decide +kernel
theorem dX13_chooseTables_341 : decode cX13_chooseTables 341 = .ok (.goto (-287), 3) := by decide +kernel
theorem dX13_chooseTables_344 : decode cX13_chooseTables 344 = .ok (.return_, 1) := by decide +kernel
theorem dX13_makeCodes_0 : decode cX13_makeCodes 0 = .ok (.iconst 0, 1) := by decide +kernel
theorem dX13_makeCodes_1 : decode cX13_makeCodes 1 = .ok (.istore_n 3, 1) := by decide +kernel
theorem dX13_makeCodes_2 : decode cX13_makeCodes 2 = .ok (.iload_n 3, 1) := by decide +kernel
theorem dX13_makeCodes_3 : decode cX13_makeCodes 3 = .ok (.bipush 21, 2) := by decide +kernel
theorem dX13_makeCodes_5 : decode cX13_makeCodes 5 = .ok (.if_icmp .gt 21, 3) := by decide +kernel
theorem dX13_makeCodes_8 : decode cX13_makeCodes 8 = .ok (.aload_n 0, 1) := by decide +kernel
theorem dX13_makeCodes_9 : decode cX13_makeCodes 9 = .ok (.getfield 91, 3) := by decide +kernel
theorem dX13_makeCodes_12 : decode cX13_makeCodes 12 = .ok (.bipush 22, 2) := by decide +kernel
theorem dX13_makeCodes_14 : decode cX13_makeCodes 14 = .ok (.iload_n 1, 1) := by decide +kernel
theorem dX13_makeCodes_15 : decode cX13_makeCodes 15 = .ok (.imul, 1) := by decide +kernel
theorem dX13_makeCodes_16 : decode cX13_makeCodes 16 = .ok (.iload_n 3, 1) := by decide +kernel
theorem dX13_makeCodes_17 : decode cX13_makeCodes 17 = .ok (.iadd, 1) := by decide +kernel
theorem dX13_makeCodes_18 : decode cX13_makeCodes 18 = .ok (.iconst 0, 1) := by decide +kernel
theorem dX13_makeCodes_19 : decode cX13_makeCodes 19 = .ok (.iastore, 1) := by decide +kernel
theorem dX13_makeCodes_20 : decode cX13_makeCodes 20 = .ok (.iinc 3 1, 3) := by decide +kernel
theorem dX13_makeCodes_23 : decode cX13_makeCodes 23 = .ok (.goto (-21), 3) := by decide +kernel
theorem dX13_makeCodes_26 : decode cX13_makeCodes 26 = .ok (.iconst 0, 1) := by decide +kernel
theorem dX13_makeCodes_27 : decode cX13_makeCodes 27 = .ok (.istore_n 3, 1) := by decide +kernel
theorem dX13_makeCodes_28 : decode cX13_makeCodes 28 = .ok (.iload_n 3, 1) := by decide +kernel
theorem dX13_makeCodes_29 : decode cX13_makeCodes 29 = .ok (.iload_n 2, 1) := by decide +kernel
theorem dX13_makeCodes_30 : decode cX13_makeCodes 30 = .ok (.if_icmp .ge 35, 3) := by decide +kernel
theorem dX13_makeCodes_33 : decode cX13_makeCodes 33 = .ok (.aload_n 0, 1) := by decide +kernel
theorem dX13_makeCodes_34 : decode cX13_makeCodes 34 = .ok (.getfield 91, 3) := by decide +kernel
theorem dX13_makeCodes_37 : decode cX13_makeCodes 37 = .ok (.bipush 22, 2) := by decide +kernel
theorem dX13_makeCodes_39 : decode cX13_makeCodes 39 = .ok (.iload_n 1, 1) := by decide +kernel
theorem dX13_makeCodes_40 : decode cX13_makeCodes 40 = .ok (.imul, 1) := by decide +kernel
theorem dX13_makeCodes_41 : decode cX13_makeCodes 41 = .ok (.aload_n 0, 1) := by decide +kernel
theorem dX13_makeCodes_42 : decode cX13_makeCodes 42 = .ok (.getfield 63, 3) := by decide +kernel
theorem dX13_makeCodes_45 : decode cX13_makeCodes 45 = .ok (.sipush 260, 3) := by decide +kernel
theorem dX13_makeCodes_48 : decode cX13_makeCodes 48 = .ok (.iload_n 1, 1) := by decide +kernel
theorem dX13_makeCodes_49 : decode cX13_makeCodes 49 = .ok (.imul, 1) := by decide +kernel
theorem dX13_makeCodes_50 : decode cX13_makeCodes 50 = .ok (.iload_n 3, 1) := by decide +kernel
theorem dX13_makeCodes_51 : decode cX13_makeCodes 51 = .ok (.iadd, 1) := by decide +kernel
theorem dX13_makeCodes_52 : decode cX13_makeCodes 52 = .ok (.iaload, 1) := by decide +kernel
theorem dX13_makeCodes_53 : decode cX13_makeCodes 53 = .ok (.iadd, 1) := by decide +kernel
theorem dX13_makeCodes_54 : decode cX13_makeCodes 54 = .ok (.dup2, 1) := by decide +kernel
theorem dX13_makeCodes_55 : decode cX13_makeCodes 55 = .ok (.iaload, 1) := by decide +kernel
theorem dX13_makeCodes_56 : decode cX13_makeCodes 56 = .ok (.iconst 1, 1) := by decide +kernel
theorem dX13_makeCodes_57 : decode cX13_makeCodes 57 = .ok (.iadd, 1) := by decide +kernel
theorem dX13_makeCodes_58 : decode cX13_makeCodes 58 = .ok (.iastore, 1) := by decide +kernel
theorem dX13_makeCodes_59 : decode cX13_makeCodes 59 = .ok (.iinc 3 1, 3) := by decide +kernel
theorem dX13_makeCodes_62 : decode cX13_makeCodes 62 = .ok (.goto (-34), 3) := by decide +kernel
theorem dX13_makeCodes_65 : decode cX13_makeCodes 65 = .ok (.aload_n 0, 1) := by decide +kernel
theorem dX13_makeCodes_66 : decode cX13_makeCodes 66 = .ok (.getfield 88, 3) := by decide +kernel
theorem dX13_makeCodes_69 : decode cX13_makeCodes 69 = .ok (.bipush 22, 2) := by decide +kernel
theorem dX13_makeCodes_71 : decode cX13_makeCodes 71 = .ok (.iload_n 1, 1) := by decide +kernel
theorem dX13_makeCodes_72 : decode cX13_makeCodes 72 = .ok (.imul, 1) := by decide +kernel
theorem dX13_makeCodes_73 : decode cX13_makeCodes 73 = .ok (.iconst 1, 1) := by decide +kernel
theorem dX13_makeCodes_74 : decode cX13_makeCodes 74 = .ok (.iadd, 1) := by decide +kernel
theorem dX13_makeCodes_75 : decode cX13_makeCodes 75 = .ok (.iconst 0, 1) := by decide +kernel
theorem dX13_makeCodes_76 : decode cX13_makeCodes 76 = .ok (.iastore, 1) := by decide +kernel
theorem dX13_makeCodes_77 : decode cX13_makeCodes 77 = .ok (.iconst 1, 1) := by decide +kernel
theorem dX13_makeCodes_78 : decode cX13_makeCodes 78 = .ok (.istore_n 3, 1) := by decide +kernel
theorem dX13_makeCodes_79 : decode cX13_makeCodes 79 = .ok (.iload_n 3, 1) := by decide +kernel
theorem dX13_makeCodes_80 : decode cX13_makeCodes 80 = .ok (.bipush 20, 2) := by decide +kernel
theorem dX13_makeCodes_82 : decode cX13_makeCodes 82 = .ok (.if_icmp .gt 110, 3) := by decide +kernel
theorem dX13_makeCodes_85 : decode cX13_makeCodes 85 = .ok (.aload_n 0, 1) := by decide +kernel
theorem dX13_makeCodes_86 : decode cX13_makeCodes 86 = .ok (.getfield 88, 3) := by decide +kernel
theorem dX13_makeCodes_89 : decode cX13_makeCodes 89 = .ok (.bipush 22, 2) := by decide +kernel
theorem dX13_makeCodes_91 : decode cX13_makeCodes 91 = .ok (.iload_n 1, 1) := by decide +kernel
theorem dX13_makeCodes_92 : decode cX13_makeCodes 92 = .ok (.imul, 1) := by decide +kernel
theorem dX13_makeCodes_93 : decode cX13_makeCodes 93 = .ok (.iload_n 3, 1) := by decide +kernel
theorem dX13_makeCodes_94 : decode cX13_makeCodes 94 = .ok (.iadd, 1) := by decide +kernel
theorem dX13_makeCodes_95 : decode cX13_makeCodes 95 = .ok (.iconst 1, 1) := by decide +kernel
theorem dX13_makeCodes_96 : decode cX13_makeCodes 96 = .ok (.iadd, 1) := by decide +kernel
theorem dX13_makeCodes_97 : decode cX13_makeCodes 97 = .ok (.iconst 2, 1) := by decide +kernel
theorem dX13_makeCodes_98 : decode cX13_makeCodes 98 = .ok (.aload_n 0, 1) := by decide +kernel
theorem dX13_makeCodes_99 : decode cX13_makeCodes 99 = .ok (.getfield 88, 3) := by decide +kernel
theorem dX13_makeCodes_102 : decode cX13_makeCodes 102 = .ok (.bipush 22, 2) := by decide +kernel
theorem dX13_makeCodes_104 : decode cX13_makeCodes 104 = .ok (.iload_n 1, 1) := by decide +kernel
theorem dX13_makeCodes_105 : decode cX13_makeCodes 105 = .ok (.imul, 1) := by decide +kernel
theorem dX13_makeCodes_106 : decode cX13_makeCodes 106 = .ok (.iload_n 3, 1) := by decide +kernel
theorem dX13_makeCodes_107 : decode cX13_makeCodes 107 = .ok (.iadd, 1) := by decide +kernel
theorem dX13_makeCodes_108 : decode cX13_makeCodes 108 = .ok (.iaload, 1) := by decide +kernel
theorem dX13_makeCodes_109 : decode cX13_makeCodes 109 = .ok (.aload_n 0, 1) := by decide +kernel
theorem dX13_makeCodes_110 : decode cX13_makeCodes 110 = .ok (.getfield 91, 3) := by decide +kernel
theorem dX13_makeCodes_113 : decode cX13_makeCodes 113 = .ok (.bipush 22, 2) := by decide +kernel
theorem dX13_makeCodes_115 : decode cX13_makeCodes 115 = .ok (.iload_n 1, 1) := by decide +kernel
theorem dX13_makeCodes_116 : decode cX13_makeCodes 116 = .ok (.imul, 1) := by decide +kernel
theorem dX13_makeCodes_117 : decode cX13_makeCodes 117 = .ok (.iload_n 3, 1) := by decide +kernel
theorem dX13_makeCodes_118 : decode cX13_makeCodes 118 = .ok (.iadd, 1) := by decide +kernel
theorem dX13_makeCodes_119 : decode cX13_makeCodes 119 = .ok (.iaload, 1) := by decide +kernel
theorem dX13_makeCodes_120 : decode cX13_makeCodes 120 = .ok (.iadd, 1) := by decide +kernel
theorem dX13_makeCodes_121 : decode cX13_makeCodes 121 = .ok (.imul, 1) := by decide +kernel
theorem dX13_makeCodes_122 : decode cX13_makeCodes 122 = .ok (.iastore, 1) := by decide +kernel
theorem dX13_makeCodes_123 : decode cX13_makeCodes 123 = .ok (.aload_n 0, 1) := by decide +kernel
theorem dX13_makeCodes_124 : decode cX13_makeCodes 124 = .ok (.getfield 88, 3) := by decide +kernel
theorem dX13_makeCodes_127 : decode cX13_makeCodes 127 = .ok (.bipush 22, 2) := by decide +kernel
theorem dX13_makeCodes_129 : decode cX13_makeCodes 129 = .ok (.iload_n 1, 1) := by decide +kernel
theorem dX13_makeCodes_130 : decode cX13_makeCodes 130 = .ok (.imul, 1) := by decide +kernel
theorem dX13_makeCodes_131 : decode cX13_makeCodes 131 = .ok (.iload_n 3, 1) := by decide +kernel
theorem dX13_makeCodes_132 : decode cX13_makeCodes 132 = .ok (.iadd, 1) := by decide +kernel
theorem dX13_makeCodes_133 : decode cX13_makeCodes 133 = .ok (.iaload, 1) := by decide +kernel
theorem dX13_makeCodes_134 : decode cX13_makeCodes 134 = .ok (.istore 4, 2) := by decide +kernel
theorem dX13_makeCodes_136 : decode cX13_makeCodes 136 = .ok (.iconst 0, 1) := by decide +kernel
theorem dX13_makeCodes_137 : decode cX13_makeCodes 137 = .ok (.istore 5, 2) := by decide +kernel
theorem dX13_makeCodes_139 : decode cX13_makeCodes 139 = .ok (.iload 5, 2) := by decide +kernel
theorem dX13_makeCodes_141 : decode cX13_makeCodes 141 = .ok (.iload_n 2, 1) := by decide +kernel
theorem dX13_makeCodes_142 : decode cX13_makeCodes 142 = .ok (.if_icmp .ge 44, 3) := by decide +kernel
theorem dX13_makeCodes_145 : decode cX13_makeCodes 145 = .ok (.aload_n 0, 1) := by decide +kernel
theorem dX13_makeCodes_146 : decode cX13_makeCodes 146 = .ok (.getfield 63, 3) := by decide +kernel
theorem dX13_makeCodes_149 : decode cX13_makeCodes 149 = .ok (.sipush 260, 3) := by decide +kernel
theorem dX13_makeCodes_152 : decode cX13_makeCodes 152 = .ok (.iload_n 1, 1) := by decide +kernel
theorem dX13_makeCodes_153 : decode cX13_makeCodes 153 = .ok (.imul, 1) := by decide +kernel
theorem dX13_makeCodes_154 : decode cX13_makeCodes 154 = .ok (.iload 5, 2) := by decide +kernel
theorem dX13_makeCodes_156 : decode cX13_makeCodes 156 = .ok (.iadd, 1) := by decide +kernel
theorem dX13_makeCodes_157 : decode cX13_makeCodes 157 = .ok (.iaload, 1) := by decide +kernel
theorem dX13_makeCodes_158 : decode cX13_makeCodes 158 = .ok (.iload_n 3, 1) := by decide +kernel
theorem dX13_makeCodes_159 : decode cX13_makeCodes 159 = .ok (.if_icmp .ne 21, 3) := by decide +kernel
theorem dX13_makeCodes_162 : decode cX13_makeCodes 162 = .ok (.aload_n 0, 1) := by decide +kernel
theorem dX13_makeCodes_163 : decode cX13_makeCodes 163 = .ok (.getfield 85, 3) := by decide +kernel
theorem dX13_makeCodes_166 : decode cX13_makeCodes 166 = .ok (.sipush 260, 3) := by decide +kernel
theorem dX13_makeCodes_169 : decode cX13_makeCodes 169 = .ok (.iload_n 1, 1) := by decide +kernel
theorem dX13_makeCodes_170 : decode cX13_makeCodes 170 = .ok (.imul, 1) := by decide +kernel
theorem dX13_makeCodes_171 : decode cX13_makeCodes 171 = .ok (.iload 5, 2) := by decide +kernel
theorem dX13_makeCodes_173 : decode cX13_makeCodes 173 = .ok (.iadd, 1) := by decide +kernel
theorem dX13_makeCodes_174 : decode cX13_makeCodes 174 = .ok (.iload 4, 2) := by decide +kernel
theorem dX13_makeCodes_176 : decode cX13_makeCodes 176 = .ok (.iastore, 1) := by decide +kernel
theorem dX13_makeCodes_177 : decode cX13_makeCodes 177 = .ok (.iinc 4 1, 3) := by decide +kernel
theorem dX13_makeCodes_180 : decode cX13_makeCodes 180 = .ok (.iinc 5 1, 3) := by decide +kernel
theorem dX13_makeCodes_183 : decode cX13_makeCodes 183 = .ok (.goto (-44), 3) := by decide +kernel
theorem dX13_makeCodes_186 : decode cX13_makeCodes 186 = .ok (.iinc 3 1, 3) := by decide +kernel
theorem dX13_makeCodes_189 : decode cX13_makeCodes 189 = .ok (.goto (-110), 3) := by decide +kernel
theorem dX13_makeCodes_192 : decode cX13_makeCodes 192 = .ok (.return_, 1) := by decide +kernel
theorem dX13_putMap_0 : decode cX13_putMap 0 = .ok (.iconst 0, 1) := by decide +kernel
theorem dX13_putMap_1 : decode cX13_putMap 1 = .ok (.istore_n 1, 1) := by decide +kernel
theorem dX13_putMap_2 : decode cX13_putMap 2 = .ok (.iload_n 1, 1) := by decide +kernel
theorem dX13_putMap_3 : decode cX13_putMap 3 = .ok (.bipush 16, 2) := by decide +kernel
theorem dX13_putMap_5 : decode cX13_putMap 5 = .ok (.if_icmp .ge 50, 3) := by decide +kernel
theorem dX13_putMap_8 : decode cX13_putMap 8 = .ok (.iconst 0, 1) := by decide +kernel
theorem dX13_putMap_9 : decode cX13_putMap 9 = .ok (.istore_n 2, 1) := by decide +kernel
theorem dX13_putMap_10 : decode cX13_putMap 10 = .ok (.iconst 0, 1) := by decide +kernel
theorem dX13_putMap_11 : decode cX13_putMap 11 = .ok (.istore_n 3, 1) := by decide +kernel
theorem dX13_putMap_12 : decode cX13_putMap 12 = .ok (.iload_n 3, 1) := by decide +kernel
theorem dX13_putMap_13 : decode cX13_putMap 13 = .ok (.bipush 16, 2) := by decide +kernel
theorem dX13_putMap_15 : decode cX13_putMap 15 = .ok (.if_icmp .ge 29, 3) := by decide +kernel
theorem dX13_putMap_18 : decode cX13_putMap 18 = .ok (.aload_n 0, 1) := by decide +kernel
theorem dX13_putMap_19 : decode cX13_putMap 19 = .ok (.getfield 59, 3) := by decide +kernel
theorem dX13_putMap_22 : decode cX13_putMap 22 = .ok (.bipush 16, 2) := by decide +kernel
theorem dX13_putMap_24 : decode cX13_putMap 24 = .ok (.iload_n 1, 1) := by decide +kernel
theorem dX13_putMap_25 : decode cX13_putMap 25 = .ok (.imul, 1) := by decide +kernel
theorem dX13_putMap_26 : decode cX13_putMap 26 = .ok (.iload_n 3, 1) := by decide +kernel
theorem dX13_putMap_27 : decode cX13_putMap 27 = .ok (.iadd, 1) := by decide +kernel
theorem dX13_putMap_28 : decode cX13_putMap 28 = .ok (.baload, 1) := by decide +kernel
theorem dX13_putMap_29 : decode cX13_putMap 29 = .ok (.ifCond .eq 7, 3) := by decide +kernel
theorem dX13_putMap_32 : decode cX13_putMap 32 = .ok (.iconst 1, 1) := by decide +kernel
theorem dX13_putMap_33 : decode cX13_putMap 33 = .ok (.goto 4, 3) := by decide +kernel
theorem dX13_putMap_36 : decode cX13_putMap 36 = .ok (.iload_n 2, 1) := by decide +kernel
theorem dX13_putMap_37 : decode cX13_putMap 37 = .ok (.istore_n 2, 1) := by decide +kernel
theorem dX13_putMap_38 : decode cX13_putMap 38 = .ok (.iinc 3 1, 3) := by decide +kernel
theorem dX13_putMap_41 : decode cX13_putMap 41 = .ok (.goto (-29), 3) := by decide +kernel
theorem dX13_putMap_44 : decode cX13_putMap 44 = .ok (.aload_n 0, 1) := by decide +kernel
theorem dX13_putMap_45 : decode cX13_putMap 45 = .ok (.iload_n 2, 1) := by decide +kernel
theorem dX13_putMap_46 : decode cX13_putMap 46 = .ok (.invokevirtual 157, 3) := by decide +kernel
theorem dX13_putMap_49 : decode cX13_putMap 49 = .ok (.iinc 1 1, 3) := by decide +kernel
theorem dX13_putMap_52 : decode cX13_putMap 52 = .ok (.goto (-50), 3) := by decide +kernel
theorem dX13_putMap_55 : decode cX13_putMap 55 = .ok (.iconst 0, 1) := by decide +kernel
theorem dX13_putMap_56 : decode cX13_putMap 56 = .ok (.istore_n 1, 1) := by decide +kernel
theorem dX13_putMap_57 : decode cX13_putMap 57 = .ok (.iload_n 1, 1) := by decide +kernel
theorem dX13_putMap_58 : decode cX13_putMap 58 = .ok (.bipush 16, 2) := by decide +kernel
theorem dX13_putMap_60 : decode cX13_putMap 60 = .ok (.if_icmp .ge 90, 3) := by decide +kernel
theorem dX13_putMap_63 : decode cX13_putMap 63 = .ok (.iconst 0, 1) := by decide +kernel
theorem dX13_putMap_64 : decode cX13_putMap 64 = .ok (.istore_n 2, 1) := by decide +kernel
theorem dX13_putMap_65 : decode cX13_putMap 65 = .ok (.iconst 0, 1) := by decide +kernel
theorem dX13_putMap_66 : decode cX13_putMap 66 = .ok (.istore_n 3, 1) := by decide +kernel
theorem dX13_putMap_67 : decode cX13_putMap 67 = .ok (.iload_n 3, 1) := by decide +kernel
theorem dX13_putMap_68 : decode cX13_putMap 68 = .ok (.bipush 16, 2) := by decide +kernel
theorem dX13_putMap_70 : decode cX13_putMap 70 = .ok (.if_icmp .ge 33, 3) := by decide +kernel
theorem dX13_putMap_73 : decode cX13_putMap 73 = .ok (.iload_n 2, 1) := by decide +kernel
theorem dX13_putMap_74 : decode cX13_putMap 74 = .ok (.ifCond .ne 17, 3) := by decide +kernel
theorem dX13_putMap_77 : decode cX13_putMap 77 = .ok (.aload_n 0, 1) := by decide +kernel
theorem dX13_putMap_78 : decode cX13_putMap 78 = .ok (.getfield 59, 3) := by decide +kernel
theorem dX13_putMap_81 : decode cX13_putMap 81 = .ok (.bipush 16, 2) := by decide +kernel
theorem dX13_putMap_83 : decode cX13_putMap 83 = .ok (.iload_n 1, 1) := by decide +kernel
theorem dX13_putMap_84 : decode cX13_putMap 84 = .ok (.imul, 1) := by decide +kernel
theorem dX13_putMap_85 : decode cX13_putMap 85 = .ok (.iload_n 3, 1) := by decide +kernel
theorem dX13_putMap_86 : decode cX13_putMap 86 = .ok (.iadd, 1) := by decide +kernel
theorem dX13_putMap_87 : decode cX13_putMap 87 = .ok (.baload, 1) := by decide +kernel
theorem dX13_putMap_88 : decode cX13_putMap 88 = .ok (.ifCond .eq 7, 3) := by decide +kernel
theorem dX13_putMap_91 : decode cX13_putMap 91 = .ok (.iconst 1, 1) := by decide +kernel
theorem dX13_putMap_92 : decode cX13_putMap 92 = .ok (.goto 4, 3) := by decide +kernel
theorem dX13_putMap_95 : decode cX13_putMap 95 = .ok (.iconst 0, 1) := by decide +kernel
theorem dX13_putMap_96 : decode cX13_putMap 96 = .ok (.istore_n 2, 1) := by decide +kernel
theorem dX13_putMap_97 : decode cX13_putMap 97 = .ok (.iinc 3 1, 3) := by decide +kernel
theorem dX13_putMap_100 : decode cX13_putMap 100 = .ok (.goto (-33), 3) := by decide +kernel
theorem dX13_putMap_103 : decode cX13_putMap 103 = .ok (.iconst 0, 1) := by decide +kernel
theorem dX13_putMap_104 : decode cX13_putMap 104 = .ok (.istore_n 3, 1) := by decide +kernel
theorem dX13_putMap_105 : decode cX13_putMap 105 = .ok (.iload_n 3, 1) := by decide +kernel
theorem dX13_putMap_106 : decode cX13_putMap 106 = .ok (.bipush 16, 2) := by decide +kernel
theorem dX13_putMap_108 : decode cX13_putMap 108 = .ok (.if_icmp .ge 36, 3) := by decide +kernel
theorem dX13_putMap_111 : decode cX13_putMap 111 = .ok (.iload_n 2, 1) := by decide +kernel
theorem dX13_putMap_112 : decode cX13_putMap 112 = .ok (.ifCond .eq 32, 3) := by decide +kernel
theorem dX13_putMap_115 : decode cX13_putMap 115 = .ok (.aload_n 0, 1) := by decide +kernel
theorem dX13_putMap_116 : decode cX13_putMap 116 = .ok (.aload_n 0, 1) := by decide +kernel
theorem dX13_putMap_117 : decode cX13_putMap 117 = .ok (.getfield 59, 3) := by decide +kernel
theorem dX13_putMap_120 : decode cX13_putMap 120 = .ok (.bipush 16, 2) := by decide +kernel
theorem dX13_putMap_122 : decode cX13_putMap 122 = .ok (.iload_n 1, 1) := by decide +kernel
theorem dX13_putMap_123 : decode cX13_putMap 123 = .ok (.imul, 1) := by decide +kernel
theorem dX13_putMap_124 : decode cX13_putMap 124 = .ok (.iload_n 3, 1) := by decide +kernel
theorem dX13_putMap_125 : decode cX13_putMap 125 = .ok (.iadd, 1) := by decide +kernel
theorem dX13_putMap_126 : decode cX13_putMap 126 = .ok (.baload, 1) := by decide +kernel
theorem dX13_putMap_127 : decode cX13_putMap 127 = .ok (.ifCond .eq 7, 3) := by decide +kernel
theorem dX13_putMap_130 : decode cX13_putMap 130 = .ok (.iconst 1, 1) := by decide +kernel
theorem dX13_putMap_131 : decode cX13_putMap 131 = .ok (.goto 4, 3) := by decide +kernel
theorem dX13_putMap_134 : decode cX13_putMap 134 = .ok (.iconst 0, 1) := by decide +kernel
theorem dX13_putMap_135 : decode cX13_putMap 135 = .ok (.invokevirtual 157, 3) := by decide +kernel
theorem dX13_putMap_138 : decode cX13_putMap 138 = .ok (.iinc 3 1, 3) := by decide +kernel
theorem dX13_putMap_141 : decode cX13_putMap 141 = .ok (.goto (-36), 3) := by decide +kernel
theorem dX13_putMap_144 : decode cX13_putMap 144 = .ok (.iinc 1 1, 3) := by decide +kernel
theorem dX13_putMap_147 : decode cX13_putMap 147 = .ok (.goto (-90), 3) := by decide +kernel
theorem dX13_putMap_150 : decode cX13_putMap 150 = .ok (.return_, 1) := by decide +kernel
theorem dX13_putChoices_0 : decode cX13_putChoices 0 = .ok (.iconst 0, 1) := by decide +kernel
theorem dX13_putChoices_1 : decode cX13_putChoices 1 = .ok (.istore_n 1, 1) := by decide +kernel
theorem dX13_putChoices_2 : decode cX13_putChoices 2 = .ok (.iload_n 1, 1) := by decide +kernel
theorem dX13_putChoices_3 : decode cX13_putChoices 3 = .ok (.bipush 6, 2) := by decide +kernel
theorem dX13_putChoices_5 : decode cX13_putChoices 5 = .ok (.if_icmp .ge 16, 3) := by decide +kernel
theorem dX13_putChoices_8 : decode cX13_putChoices 8 = .ok (.aload_n 0, 1) := by decide +kernel
theorem dX13_putChoices_9 : decode cX13_putChoices 9 = .ok (.getfield 94, 3) := by decide +kernel
theorem dX13_putChoices_12 : decode cX13_putChoices 12 = .ok (.iload_n 1, 1) := by decide +kernel
theorem dX13_putChoices_13 : decode cX13_putChoices 13 = .ok (.iload_n 1, 1) := by decide +kernel
theorem dX13_putChoices_14 : decode cX13_putChoices 14 = .ok (.iastore, 1) := by decide +kernel
theorem dX13_putChoices_15 : decode cX13_putChoices 15 = .ok (.iinc 1 1, 3) := by decide +kernel
theorem dX13_putChoices_18 : decode cX13_putChoices 18 = .ok (.goto (-16), 3) := by decide +kernel
theorem dX13_putChoices_21 : decode cX13_putChoices 21 = .ok (.iconst 0, 1) := by decide +kernel
theorem dX13_putChoices_22 : decode cX13_putChoices 22 = .ok (.istore_n 1, 1) := by decide +kernel
theorem dX13_putChoices_23 : decode cX13_putChoices 23 = .ok (.iload_n 1, 1) := by decide +kernel
theorem dX13_putChoices_24 : decode cX13_putChoices 24 = .ok (.aload_n 0, 1) := by decide +kernel
theorem dX13_putChoices_25 : decode cX13_putChoices 25 = .ok (.getfield 195, 3) := by decide +kernel
theorem dX13_putChoices_28 : decode cX13_putChoices 28 = .ok (.if_icmp .ge 93, 3) := by decide +kernel
theorem dX13_putChoices_31 : decode cX13_putChoices 31 = .ok (.iconst 0, 1) := by decide +kernel
theorem dX13_putChoices_32 : decode cX13_putChoices 32 = .ok (.istore_n 2, 1) := by decide +kernel
theorem dX13_putChoices_33 : decode cX13_putChoices 33 = .ok (.aload_n 0, 1) := by decide +kernel
theorem dX13_putChoices_34 : decode cX13_putChoices 34 = .ok (.getfield 94, 3) := by decide +kernel
theorem dX13_putChoices_37 : decode cX13_putChoices 37 = .ok (.iload_n 2, 1) := by decide +kernel
theorem dX13_putChoices_38 : decode cX13_putChoices 38 = .ok (.iaload, 1) := by decide +kernel
theorem dX13_putChoices_39 : decode cX13_putChoices 39 = .ok (.aload_n 0, 1) := by decide +kernel
theorem dX13_putChoices_40 : decode cX13_putChoices 40 = .ok (.getfield 72, 3) := by decide +kernel
theorem dX13_putChoices_43 : decode cX13_putChoices 43 = .ok (.iload_n 1, 1) := by decide +kernel
theorem dX13_putChoices_44 : decode cX13_putChoices 44 = .ok (.iaload, 1) := by decide +kernel
theorem dX13_putChoices_45 : decode cX13_putChoices 45 = .ok (.if_icmp .eq 9, 3) := by decide +kernel
theorem dX13_putChoices_48 : decode cX13_putChoices 48 = .ok (.iinc 2 1, 3) := by decide +kernel
theorem dX13_putChoices_51 : decode cX13_putChoices 51 = .ok (.goto (-18), 3) := by decide +kernel
theorem dX13_putChoices_54 : decode cX13_putChoices 54 = .ok (.iconst 0, 1) := by decide +kernel
theorem dX13_putChoices_55 : decode cX13_putChoices 55 = .ok (.istore_n 3, 1) := by decide +kernel
theorem dX13_putChoices_56 : decode cX13_putChoices 56 = .ok (.iload_n 3, 1) := by decide +kernel
theorem dX13_putChoices_57 : decode cX13_putChoices 57 = .ok (.iload_n 2, 1) := by decide +kernel
theorem dX13_putChoices_58 : decode cX13_putChoices 58 = .ok (.if_icmp .ge 14, 3) := by decide +kernel
theorem dX13_putChoices_61 : decode cX13_putChoices 61 = .ok (.aload_n 0, 1) := by decide +kernel
theorem dX13_putChoices_62 : decode cX13_putChoices 62 = .ok (.iconst 1, 1) := by decide +kernel
theorem dX13_putChoices_63 : decode cX13_putChoices 63 = .ok (.invokevirtual 157, 3) := by decide +kernel
theorem dX13_putChoices_66 : decode cX13_putChoices 66 = .ok (.iinc 3 1, 3) := by decide +kernel
theorem dX13_putChoices_69 : decode cX13_putChoices 69 = .ok (.goto (-13), 3) := by decide +kernel
theorem dX13_putChoices_72 : decode cX13_putChoices 72 = .ok (.aload_n 0, 1) := by decide +kernel
theorem dX13_putChoices_73 : decode cX13_putChoices 73 = .ok (.iconst 0, 1) := by decide +kernel
theorem dX13_putChoices_74 : decode cX13_putChoices 74 = .ok (.invokevirtual 157, 3) := by decide +kernel
theorem dX13_putChoices_77 : decode cX13_putChoices 77 = .ok (.iload_n 2, 1) := by decide +kernel
theorem dX13_putChoices_78 : decode cX13_putChoices 78 = .ok (.istore_n 3, 1) := by decide +kernel
theorem dX13_putChoices_79 : decode cX13_putChoices 79 = .ok (.iload_n 3, 1) := by decide +kernel
theorem dX13_putChoices_80 : decode cX13_putChoices 80 = .ok (.ifCond .le 23, 3) := by decide +kernel
theorem dX13_putChoices_83 : decode cX13_putChoices 83 = .ok (.aload_n 0, 1) := by decide +kernel
theorem dX13_putChoices_84 : decode cX13_putChoices 84 = .ok (.getfield 94, 3) := by decide +kernel
theorem dX13_putChoices_87 : decode cX13_putChoices 87 = .ok (.iload_n 3, 1) := by decide +kernel
theorem dX13_putChoices_88 : decode cX13_putChoices 88 = .ok (.aload_n 0, 1) := by decide +kernel
theorem dX13_putChoices_89 : decode cX13_putChoices 89 = .ok (.getfield 94, 3) := by decide +kernel
theorem dX13_putChoices_92 : decode cX13_putChoices 92 = .ok (.iload_n 3, 1) := by decide +kernel
theorem dX13_putChoices_93 : decode cX13_putChoices 93 = .ok (.iconst 1, 1) := by decide +kernel
theorem dX13_putChoices_94 : decode cX13_putChoices 94 = .ok (.isub, 1) := by decide +kernel
theorem dX13_putChoices_95 : decode cX13_putChoices 95 = .ok (.iaload, 1) := by decide +kernel
theorem dX13_putChoices_96 : decode cX13_putChoices 96 = .ok (.iastore, 1) := by decide +kernel
theorem dX13_putChoices_97 : decode cX13_putChoices 97 = .ok (.iinc 3 (-1), 3) := by decide +kernel
theorem dX13_putChoices_100 : decode cX13_putChoices 100 = .ok (.goto (-21), 3) := by decide +kernel
theorem dX13_putChoices_103 : decode cX13_putChoices 103 = .ok (.aload_n 0, 1) := by decide +kernel
theorem dX13_putChoices_104 : decode cX13_putChoices 104 = .ok (.getfield 94, 3) := by decide +kernel
theorem dX13_putChoices_107 : decode cX13_putChoices 107 = .ok (.iconst 0, 1) := by decide +kernel
theorem dX13_putChoices_108 : decode cX13_putChoices 108 = .ok (.aload_n 0, 1) := by decide +kernel
theorem dX13_putChoices_109 : decode cX13_putChoices 109 = .ok (.getfield 72, 3) := by decide +kernel
theorem dX13_putChoices_112 : decode cX13_putChoices 112 = .ok (.iload_n 1, 1) := by decide +kernel
theorem dX13_putChoices_113 : decode cX13_putChoices 113 = .ok (.iaload, 1) := by decide +kernel
theorem dX13_putChoices_114 : decode cX13_putChoices 114 = .ok (.iastore, 1) := by decide +kernel
theorem dX13_putChoices_115 : decode cX13_putChoices 115 = .ok (.iinc 1 1, 3) := by decide +kernel
theorem dX13_putChoices_118 : decode cX13_putChoices 118 = .ok (.goto (-95), 3) := by decide +kernel
theorem dX13_putChoices_121 : decode cX13_putChoices 121 = .ok (.return_, 1) := by decide +kernel
theorem dX13_putLengths_0 : decode cX13_putLengths 0 = .ok (.aload_n 0, 1) := by decide +kernel
theorem dX13_putLengths_1 : decode cX13_putLengths 1 = .ok (.getfield 63, 3) := by decide +kernel
theorem dX13_putLengths_4 : decode cX13_putLengths 4 = .ok (.sipush 260, 3) := by decide +kernel
theorem dX13_putLengths_7 : decode cX13_putLengths 7 = .ok (.iload_n 1, 1) := by decide +kernel
theorem dX13_putLengths_8 : decode cX13_putLengths 8 = .ok (.imul, 1) := by decide +kernel
theorem dX13_putLengths_9 : decode cX13_putLengths 9 = .ok (.iaload, 1) := by decide +kernel
theorem dX13_putLengths_10 : decode cX13_putLengths 10 = .ok (.istore_n 3, 1) := by decide +kernel
theorem dX13_putLengths_11 : decode cX13_putLengths 11 = .ok (.aload_n 0, 1) := by decide +kernel
theorem dX13_putLengths_12 : decode cX13_putLengths 12 = .ok (.iload_n 3, 1) := by decide +kernel
theorem dX13_putLengths_13 : decode cX13_putLengths 13 = .ok (.i2l, 1) := by decide +kernel
theorem dX13_putLengths_14 : decode cX13_putLengths 14 = .ok (.iconst 5, 1) := by decide +kernel
theorem dX13_putLengths_15 : decode cX13_putLengths 15 = .ok (.invokevirtual 202, 3) := by decide +kernel
theorem dX13_putLengths_18 : decode cX13_putLengths 18 = .ok (.iconst 0, 1) := by decide +kernel
theorem dX13_putLengths_19 : decode cX13_putLengths 19 = .ok (.istore 4, 2) := by decide +kernel
theorem dX13_putLengths_21 : decode cX13_putLengths 21 = .ok (.iload 4, 2) := by decide +kernel
theorem dX13_putLengths_23 : decode cX13_putLengths 23 = .ok (.iload_n 2, 1) := by decide +kernel
theorem dX13_putLengths_24 : decode cX13_putLengths 24 = .ok (.if_icmp .ge 92, 3) := by decide +kernel
theorem dX13_putLengths_27 : decode cX13_putLengths 27 = .ok (.iload_n 3, 1) := by decide +kernel
theorem dX13_putLengths_28 : decode cX13_putLengths 28 = .ok (.aload_n 0, 1) := by decide +kernel
theorem dX13_putLengths_29 : decode cX13_putLengths 29 = .ok (.getfield 63, 3) := by decide +kernel
theorem dX13_putLengths_32 : decode cX13_putLengths 32 = .ok (.sipush 260, 3) := by decide +kernel
theorem dX13_putLengths_35 : decode cX13_putLengths 35 = .ok (.iload_n 1, 1) := by decide +kernel
theorem dX13_putLengths_36 : decode cX13_putLengths 36 = .ok (.imul, 1) := by decide +kernel
theorem dX13_putLengths_37 : decode cX13_putLengths 37 = .ok (.iload 4, 2) := by decide +kernel
theorem dX13_putLengths_39 : decode cX13_putLengths 39 = .ok (.iadd, 1) := by decide +kernel
theorem dX13_putLengths_40 : decode cX13_putLengths 40 = .ok (.iaload, 1) := by decide +kernel
theorem dX13_putLengths_41 : decode cX13_putLengths 41 = .ok (.if_icmp .eq 64, 3) := by decide +kernel
theorem dX13_putLengths_44 : decode cX13_putLengths 44 = .ok (.iload_n 3, 1) := by decide +kernel
theorem dX13_putLengths_45 : decode cX13_putLengths 45 = .ok (.aload_n 0, 1) := by decide +kernel
theorem dX13_putLengths_46 : decode cX13_putLengths 46 = .ok (.getfield 63, 3) := by decide +kernel
theorem dX13_putLengths_49 : decode cX13_putLengths 49 = .ok (.sipush 260, 3) := by decide +kernel
theorem dX13_putLengths_52 : decode cX13_putLengths 52 = .ok (.iload_n 1, 1) := by decide +kernel
theorem dX13_putLengths_53 : decode cX13_putLengths 53 = .ok (.imul, 1) := by decide +kernel
theorem dX13_putLengths_54 : decode cX13_putLengths 54 = .ok (.iload 4, 2) := by decide +kernel
theorem dX13_putLengths_56 : decode cX13_putLengths 56 = .ok (.iadd, 1) := by decide +kernel
theorem dX13_putLengths_57 : decode cX13_putLengths 57 = .ok (.iaload, 1) := by decide +kernel
theorem dX13_putLengths_58 : decode cX13_putLengths 58 = .ok (.if_icmp .ge 7, 3) := by decide +kernel
theorem dX13_putLengths_61 : decode cX13_putLengths 61 = .ok (.iconst 1, 1) := by decide +kernel
theorem dX13_putLengths_62 : decode cX13_putLengths 62 = .ok (.goto 4, 3) := by decide +kernel
theorem dX13_putLengths_65 : decode cX13_putLengths 65 = .ok (.iconst 0, 1) := by decide +kernel
theorem dX13_putLengths_66 : decode cX13_putLengths 66 = .ok (.istore 5, 2) := by decide +kernel
theorem dX13_putLengths_68 : decode cX13_putLengths 68 = .ok (.aload_n 0, 1) := by decide +kernel
theorem dX13_putLengths_69 : decode cX13_putLengths 69 = .ok (.iload 5, 2) := by decide +kernel
theorem dX13_putLengths_71 : decode cX13_putLengths 71 = .ok (.ifCond .eq 9, 3) := by decide +kernel
theorem dX13_putLengths_74 : decode cX13_putLengths 74 = .ok (.ldc2_w 187, 3) := by decide +kernel
theorem dX13_putLengths_77 : decode cX13_putLengths 77 = .ok (.goto 6, 3) := by decide +kernel
theorem dX13_putLengths_80 : decode cX13_putLengths 80 = .ok (.ldc2_w 206, 3) := by decide +kernel
theorem dX13_putLengths_83 : decode cX13_putLengths 83 = .ok (.iconst 2, 1) := by decide +kernel
theorem dX13_putLengths_84 : decode cX13_putLengths 84 = .ok (.invokevirtual 202, 3) := by decide +kernel
theorem dX13_putLengths_87 : decode cX13_putLengths 87 = .ok (.iload 5, 2) := by decide +kernel
theorem dX13_putLengths_89 : decode cX13_putLengths 89 = .ok (.ifCond .eq 9, 3) := by decide +kernel
theorem dX13_putLengths_92 : decode cX13_putLengths 92 = .ok (.iload_n 3, 1) := by decide +kernel
theorem dX13_putLengths_93 : decode cX13_putLengths 93 = .ok (.iconst 1, 1) := by decide +kernel
theorem dX13_putLengths_94 : decode cX13_putLengths 94 = .ok (.iadd, 1) := by decide +kernel
theorem dX13_putLengths_95 : decode cX13_putLengths 95 = .ok (.goto 6, 3) := by decide +kernel
theorem dX13_putLengths_98 : decode cX13_putLengths 98 = .ok (.iload_n 3, 1) := by decide +kernel
theorem dX13_putLengths_99 : decode cX13_putLengths 99 = .ok (.iconst 1, 1) := by decide +kernel
theorem dX13_putLengths_100 : decode cX13_putLengths 100 = .ok (.isub, 1) := by decide +kernel
theorem dX13_putLengths_101 : decode cX13_putLengths 101 = .ok (.istore_n 3, 1) := by decide +kernel
theorem dX13_putLengths_102 : decode cX13_putLengths 102 = .ok (.goto (-75), 3) := by decide +kernel
theorem dX13_putLengths_105 : decode cX13_putLengths 105 = .ok (.aload_n 0, 1) := by decide +kernel
theorem dX13_putLengths_106 : decode cX13_putLengths 106 = .ok (.iconst 0, 1) := by decide +kernel
theorem dX13_putLengths_107 : decode cX13_putLengths 107 = .ok (.invokevirtual 157, 3) := by decide +kernel
theorem dX13_putLengths_110 : decode cX13_putLengths 110 = .ok (.iinc 4 1, 3) := by decide +kernel
theorem dX13_putLengths_113 : decode cX13_putLengths 113 = .ok (.goto (-92), 3) := by decide +kernel
theorem dX13_putLengths_116 : decode cX13_putLengths 116 = .ok (.return_, 1) := by decide +kernel
theorem dX13_packBlock_0 : decode cX13_packBlock 0 = .ok (.aload_n 0, 1) := by decide +kernel
theorem dX13_packBlock_1 : decode cX13_packBlock 1 = .ok (.getfield 150, 3) := by decide +kernel
theorem dX13_packBlock_4 : decode cX13_packBlock 4 = .ok (.istore_n 3, 1) := by decide +kernel
theorem dX13_packBlock_5 : decode cX13_packBlock 5 = .ok (.aload_n 0, 1) := by decide +kernel
theorem dX13_packBlock_6 : decode cX13_packBlock 6 = .ok (.getfield 20, 3) := by decide +kernel
theorem dX13_packBlock_9 : decode cX13_packBlock 9 = .ok (.iload_n 1, 1) := by decide +kernel
theorem dX13_packBlock_10 : decode cX13_packBlock 10 = .ok (.iload_n 2, 1) := by decide +kernel
theorem dX13_packBlock_11 : decode cX13_packBlock 11 = .ok (.iload_n 1, 1) := by decide +kernel
theorem dX13_packBlock_12 : decode cX13_packBlock 12 = .ok (.isub, 1) := by decide +kernel
theorem dX13_packBlock_13 : decode cX13_packBlock 13 = .ok (.invokestatic 208, 3) := by decide +kernel
theorem dX13_packBlock_16 : decode cX13_packBlock 16 = .ok (.istore 4, 2) := by decide +kernel
theorem dX13_packBlock_18 : decode cX13_packBlock 18 = .ok (.aload_n 0, 1) := by decide +kernel
theorem dX13_packBlock_19 : decode cX13_packBlock 19 = .ok (.invokevirtual 212, 3) := by decide +kernel
theorem dX13_packBlock_22 : decode cX13_packBlock 22 = .ok (.aload_n 0, 1) := by decide +kernel
theorem dX13_packBlock_23 : decode cX13_packBlock 23 = .ok (.invokevirtual 215, 3) := by decide +kernel
theorem dX13_packBlock_26 : decode cX13_packBlock 26 = .ok (.iconst 0, 1) := by decide +kernel
theorem dX13_packBlock_27 : decode cX13_packBlock 27 = .ok (.istore 5, 2) := by decide +kernel
theorem dX13_packBlock_29 : decode cX13_packBlock 29 = .ok (.aload_n 0, 1) := by decide +kernel
theorem dX13_packBlock_30 : decode cX13_packBlock 30 = .ok (.getfield 47, 3) := by decide +kernel
theorem dX13_packBlock_33 : decode cX13_packBlock 33 = .ok (.iload 5, 2) := by decide +kernel
theorem dX13_packBlock_35 : decode cX13_packBlock 35 = .ok (.iaload, 1) := by decide +kernel
theorem dX13_packBlock_36 : decode cX13_packBlock 36 = .ok (.ifCond .eq 9, 3) := by decide +kernel
theorem dX13_packBlock_39 : decode cX13_packBlock 39 = .ok (.iinc 5 1, 3) := by decide +kernel
theorem dX13_packBlock_42 : decode cX13_packBlock 42 = .ok (.goto (-13), 3) := by decide +kernel
theorem dX13_packBlock_45 : decode cX13_packBlock 45 = .ok (.aload_n 0, 1) := by decide +kernel
theorem dX13_packBlock_46 : decode cX13_packBlock 46 = .ok (.invokevirtual 218, 3) := by decide +kernel
theorem dX13_packBlock_49 : decode cX13_packBlock 49 = .ok (.aload_n 0, 1) := by decide +kernel
theorem dX13_packBlock_50 : decode cX13_packBlock 50 = .ok (.getfield 171, 3) := by decide +kernel
theorem dX13_packBlock_53 : decode cX13_packBlock 53 = .ok (.iconst 2, 1) := by decide +kernel
theorem dX13_packBlock_54 : decode cX13_packBlock 54 = .ok (.iadd, 1) := by decide +kernel
theorem dX13_packBlock_55 : decode cX13_packBlock 55 = .ok (.istore 6, 2) := by decide +kernel
theorem dX13_packBlock_57 : decode cX13_packBlock 57 = .ok (.aload_n 0, 1) := by decide +kernel
theorem dX13_packBlock_58 : decode cX13_packBlock 58 = .ok (.iload 6, 2) := by decide +kernel
