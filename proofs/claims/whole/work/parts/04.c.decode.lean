theorem dX12_init_0 : decode cX12_init 0 = .ok (.aload_n 0, 1) := by decide +kernel
theorem dX12_init_1 : decode cX12_init 1 = .ok (.invokespecial 1, 3) := by decide +kernel
theorem dX12_init_4 : decode cX12_init 4 = .ok (.aload_n 0, 1) := by decide +kernel
theorem dX12_init_5 : decode cX12_init 5 = .ok (.sipush 1000, 3) := by decide +kernel
theorem dX12_init_8 : decode cX12_init 8 = .ok (.newarray .int, 2) := by decide +kernel
theorem dX12_init_10 : decode cX12_init 10 = .ok (.putfield 7, 3) := by decide +kernel
theorem dX12_init_13 : decode cX12_init 13 = .ok (.aload_n 0, 1) := by decide +kernel
theorem dX12_init_14 : decode cX12_init 14 = .ok (.sipush 2000, 3) := by decide +kernel
theorem dX12_init_17 : decode cX12_init 17 = .ok (.newarray .int, 2) := by decide +kernel
theorem dX12_init_19 : decode cX12_init 19 = .ok (.putfield 13, 3) := by decide +kernel
theorem dX12_init_22 : decode cX12_init 22 = .ok (.aload_n 0, 1) := by decide +kernel
theorem dX12_init_23 : decode cX12_init 23 = .ok (.iconst 2, 1) := by decide +kernel
theorem dX12_init_24 : decode cX12_init 24 = .ok (.newarray .int, 2) := by decide +kernel
theorem dX12_init_26 : decode cX12_init 26 = .ok (.putfield 16, 3) := by decide +kernel
theorem dX12_init_29 : decode cX12_init 29 = .ok (.aload_n 0, 1) := by decide +kernel
theorem dX12_init_30 : decode cX12_init 30 = .ok (.iconst 2, 1) := by decide +kernel
theorem dX12_init_31 : decode cX12_init 31 = .ok (.newarray .int, 2) := by decide +kernel
theorem dX12_init_33 : decode cX12_init 33 = .ok (.putfield 19, 3) := by decide +kernel
theorem dX12_init_36 : decode cX12_init 36 = .ok (.aload_n 0, 1) := by decide +kernel
theorem dX12_init_37 : decode cX12_init 37 = .ok (.bipush 16, 2) := by decide +kernel
theorem dX12_init_39 : decode cX12_init 39 = .ok (.newarray .int, 2) := by decide +kernel
theorem dX12_init_41 : decode cX12_init 41 = .ok (.putfield 22, 3) := by decide +kernel
theorem dX12_init_44 : decode cX12_init 44 = .ok (.aload_n 0, 1) := by decide +kernel
theorem dX12_init_45 : decode cX12_init 45 = .ok (.bipush 16, 2) := by decide +kernel
theorem dX12_init_47 : decode cX12_init 47 = .ok (.newarray .int, 2) := by decide +kernel
theorem dX12_init_49 : decode cX12_init 49 = .ok (.putfield 25, 3) := by decide +kernel
theorem dX12_init_52 : decode cX12_init 52 = .ok (.aload_n 0, 1) := by decide +kernel
theorem dX12_init_53 : decode cX12_init 53 = .ok (.bipush 16, 2) := by decide +kernel
theorem dX12_init_55 : decode cX12_init 55 = .ok (.newarray .int, 2) := by decide +kernel
theorem dX12_init_57 : decode cX12_init 57 = .ok (.putfield 28, 3) := by decide +kernel
theorem dX12_init_60 : decode cX12_init 60 = .ok (.aload_n 0, 1) := by decide +kernel
theorem dX12_init_61 : decode cX12_init 61 = .ok (.sipush 256, 3) := by decide +kernel
theorem dX12_init_64 : decode cX12_init 64 = .ok (.newarray .int, 2) := by decide +kernel
theorem dX12_init_66 : decode cX12_init 66 = .ok (.putfield 31, 3) := by decide +kernel
theorem dX12_init_69 : decode cX12_init 69 = .ok (.aload_n 0, 1) := by decide +kernel
theorem dX12_init_70 : decode cX12_init 70 = .ok (.sipush 256, 3) := by decide +kernel
theorem dX12_init_73 : decode cX12_init 73 = .ok (.newarray .int, 2) := by decide +kernel
theorem dX12_init_75 : decode cX12_init 75 = .ok (.putfield 34, 3) := by decide +kernel
theorem dX12_init_78 : decode cX12_init 78 = .ok (.aload_n 0, 1) := by decide +kernel
theorem dX12_init_79 : decode cX12_init 79 = .ok (.sipush 256, 3) := by decide +kernel
theorem dX12_init_82 : decode cX12_init 82 = .ok (.newarray .int, 2) := by decide +kernel
theorem dX12_init_84 : decode cX12_init 84 = .ok (.putfield 37, 3) := by decide +kernel
theorem dX12_init_87 : decode cX12_init 87 = .ok (.aload_n 0, 1) := by decide +kernel
theorem dX12_init_88 : decode cX12_init 88 = .ok (.sipush 256, 3) := by decide +kernel
theorem dX12_init_91 : decode cX12_init 91 = .ok (.newarray .int, 2) := by decide +kernel
theorem dX12_init_93 : decode cX12_init 93 = .ok (.putfield 40, 3) := by decide +kernel
theorem dX12_init_96 : decode cX12_init 96 = .ok (.aload_n 0, 1) := by decide +kernel
theorem dX12_init_97 : decode cX12_init 97 = .ok (.sipush 256, 3) := by decide +kernel
theorem dX12_init_100 : decode cX12_init 100 = .ok (.newarray .boolean, 2) := by decide +kernel
theorem dX12_init_102 : decode cX12_init 102 = .ok (.putfield 43, 3) := by decide +kernel
theorem dX12_init_105 : decode cX12_init 105 = .ok (.aload_n 0, 1) := by decide +kernel
theorem dX12_init_106 : decode cX12_init 106 = .ok (.iconst 2, 1) := by decide +kernel
theorem dX12_init_107 : decode cX12_init 107 = .ok (.newarray .int, 2) := by decide +kernel
theorem dX12_init_109 : decode cX12_init 109 = .ok (.putfield 47, 3) := by decide +kernel
theorem dX12_init_112 : decode cX12_init 112 = .ok (.aload_n 0, 1) := by decide +kernel
theorem dX12_init_113 : decode cX12_init 113 = .ok (.sipush 1024, 3) := by decide +kernel
theorem dX12_init_116 : decode cX12_init 116 = .ok (.newarray .int, 2) := by decide +kernel
theorem dX12_init_118 : decode cX12_init 118 = .ok (.putfield 50, 3) := by decide +kernel
theorem dX12_init_121 : decode cX12_init 121 = .ok (.aload_n 0, 1) := by decide +kernel
theorem dX12_init_122 : decode cX12_init 122 = .ok (.sipush 1024, 3) := by decide +kernel
theorem dX12_init_125 : decode cX12_init 125 = .ok (.newarray .int, 2) := by decide +kernel
theorem dX12_init_127 : decode cX12_init 127 = .ok (.putfield 53, 3) := by decide +kernel
theorem dX12_init_130 : decode cX12_init 130 = .ok (.aload_n 0, 1) := by decide +kernel
theorem dX12_init_131 : decode cX12_init 131 = .ok (.sipush 1024, 3) := by decide +kernel
theorem dX12_init_134 : decode cX12_init 134 = .ok (.newarray .int, 2) := by decide +kernel
theorem dX12_init_136 : decode cX12_init 136 = .ok (.putfield 56, 3) := by decide +kernel
theorem dX12_init_139 : decode cX12_init 139 = .ok (.aload_n 0, 1) := by decide +kernel
theorem dX12_init_140 : decode cX12_init 140 = .ok (.sipush 1024, 3) := by decide +kernel
theorem dX12_init_143 : decode cX12_init 143 = .ok (.newarray .int, 2) := by decide +kernel
theorem dX12_init_145 : decode cX12_init 145 = .ok (.putfield 59, 3) := by decide +kernel
theorem dX12_init_148 : decode cX12_init 148 = .ok (.aload_n 0, 1) := by decide +kernel
theorem dX12_init_149 : decode cX12_init 149 = .ok (.sipush 1024, 3) := by decide +kernel
theorem dX12_init_152 : decode cX12_init 152 = .ok (.newarray .int, 2) := by decide +kernel
theorem dX12_init_154 : decode cX12_init 154 = .ok (.putfield 62, 3) := by decide +kernel
theorem dX12_init_157 : decode cX12_init 157 = .ok (.aload_n 0, 1) := by decide +kernel
theorem dX12_init_158 : decode cX12_init 158 = .ok (.bipush 16, 2) := by decide +kernel
theorem dX12_init_160 : decode cX12_init 160 = .ok (.newarray .int, 2) := by decide +kernel
theorem dX12_init_162 : decode cX12_init 162 = .ok (.putfield 65, 3) := by decide +kernel
theorem dX12_init_165 : decode cX12_init 165 = .ok (.aload_n 0, 1) := by decide +kernel
theorem dX12_init_166 : decode cX12_init 166 = .ok (.sipush 128, 3) := by decide +kernel
theorem dX12_init_169 : decode cX12_init 169 = .ok (.newarray .int, 2) := by decide +kernel
theorem dX12_init_171 : decode cX12_init 171 = .ok (.putfield 68, 3) := by decide +kernel
theorem dX12_init_174 : decode cX12_init 174 = .ok (.aload_n 0, 1) := by decide +kernel
theorem dX12_init_175 : decode cX12_init 175 = .ok (.sipush 128, 3) := by decide +kernel
theorem dX12_init_178 : decode cX12_init 178 = .ok (.newarray .int, 2) := by decide +kernel
theorem dX12_init_180 : decode cX12_init 180 = .ok (.putfield 71, 3) := by decide +kernel
theorem dX12_init_183 : decode cX12_init 183 = .ok (.aload_n 0, 1) := by decide +kernel
theorem dX12_init_184 : decode cX12_init 184 = .ok (.bipush 16, 2) := by decide +kernel
theorem dX12_init_186 : decode cX12_init 186 = .ok (.newarray .int, 2) := by decide +kernel
theorem dX12_init_188 : decode cX12_init 188 = .ok (.putfield 74, 3) := by decide +kernel
theorem dX12_init_191 : decode cX12_init 191 = .ok (.aload_n 0, 1) := by decide +kernel
theorem dX12_init_192 : decode cX12_init 192 = .ok (.sipush 192, 3) := by decide +kernel
theorem dX12_init_195 : decode cX12_init 195 = .ok (.newarray .int, 2) := by decide +kernel
theorem dX12_init_197 : decode cX12_init 197 = .ok (.putfield 77, 3) := by decide +kernel
theorem dX12_init_200 : decode cX12_init 200 = .ok (.aload_n 0, 1) := by decide +kernel
theorem dX12_init_201 : decode cX12_init 201 = .ok (.sipush 192, 3) := by decide +kernel
theorem dX12_init_204 : decode cX12_init 204 = .ok (.newarray .int, 2) := by decide +kernel
theorem dX12_init_206 : decode cX12_init 206 = .ok (.putfield 80, 3) := by decide +kernel
theorem dX12_init_209 : decode cX12_init 209 = .ok (.aload_n 0, 1) := by decide +kernel
theorem dX12_init_210 : decode cX12_init 210 = .ok (.sipush 192, 3) := by decide +kernel
theorem dX12_init_213 : decode cX12_init 213 = .ok (.newarray .boolean, 2) := by decide +kernel
theorem dX12_init_215 : decode cX12_init 215 = .ok (.putfield 83, 3) := by decide +kernel
theorem dX12_init_218 : decode cX12_init 218 = .ok (.aload_n 0, 1) := by decide +kernel
theorem dX12_init_219 : decode cX12_init 219 = .ok (.sipush 192, 3) := by decide +kernel
theorem dX12_init_222 : decode cX12_init 222 = .ok (.newarray .int, 2) := by decide +kernel
theorem dX12_init_224 : decode cX12_init 224 = .ok (.putfield 86, 3) := by decide +kernel
theorem dX12_init_227 : decode cX12_init 227 = .ok (.aload_n 0, 1) := by decide +kernel
theorem dX12_init_228 : decode cX12_init 228 = .ok (.sipush 192, 3) := by decide +kernel
theorem dX12_init_231 : decode cX12_init 231 = .ok (.newarray .int, 2) := by decide +kernel
theorem dX12_init_233 : decode cX12_init 233 = .ok (.putfield 89, 3) := by decide +kernel
theorem dX12_init_236 : decode cX12_init 236 = .ok (.aload_n 0, 1) := by decide +kernel
theorem dX12_init_237 : decode cX12_init 237 = .ok (.sipush 3072, 3) := by decide +kernel
theorem dX12_init_240 : decode cX12_init 240 = .ok (.newarray .int, 2) := by decide +kernel
theorem dX12_init_242 : decode cX12_init 242 = .ok (.putfield 92, 3) := by decide +kernel
theorem dX12_init_245 : decode cX12_init 245 = .ok (.aload_n 0, 1) := by decide +kernel
theorem dX12_init_246 : decode cX12_init 246 = .ok (.sipush 3072, 3) := by decide +kernel
theorem dX12_init_249 : decode cX12_init 249 = .ok (.newarray .int, 2) := by decide +kernel
theorem dX12_init_251 : decode cX12_init 251 = .ok (.putfield 95, 3) := by decide +kernel
theorem dX12_init_254 : decode cX12_init 254 = .ok (.aload_n 0, 1) := by decide +kernel
theorem dX12_init_255 : decode cX12_init 255 = .ok (.sipush 3072, 3) := by decide +kernel
theorem dX12_init_258 : decode cX12_init 258 = .ok (.newarray .int, 2) := by decide +kernel
theorem dX12_init_260 : decode cX12_init 260 = .ok (.putfield 98, 3) := by decide +kernel
theorem dX12_init_263 : decode cX12_init 263 = .ok (.aload_n 0, 1) := by decide +kernel
theorem dX12_init_264 : decode cX12_init 264 = .ok (.bipush 16, 2) := by decide +kernel
theorem dX12_init_266 : decode cX12_init 266 = .ok (.newarray .int, 2) := by decide +kernel
theorem dX12_init_268 : decode cX12_init 268 = .ok (.putfield 101, 3) := by decide +kernel
theorem dX12_init_271 : decode cX12_init 271 = .ok (.aload_n 0, 1) := by decide +kernel
theorem dX12_init_272 : decode cX12_init 272 = .ok (.iconst (-1), 1) := by decide +kernel
theorem dX12_init_273 : decode cX12_init 273 = .ok (.putfield 104, 3) := by decide +kernel
theorem dX12_init_276 : decode cX12_init 276 = .ok (.return_, 1) := by decide +kernel
theorem dX12_thrown_0 : decode cX12_thrown 0 = .ok (.aload_n 0, 1) := by decide +kernel
theorem dX12_thrown_1 : decode cX12_thrown 1 = .ok (.getfield 108, 3) := by decide +kernel
theorem dX12_thrown_4 : decode cX12_thrown 4 = .ok (.ireturn, 1) := by decide +kernel
theorem dX12_isCharacter_0 : decode cX12_isCharacter 0 = .ok (.iload_n 0, 1) := by decide +kernel
theorem dX12_isCharacter_1 : decode cX12_isCharacter 1 = .ok (.bipush 32, 2) := by decide +kernel
theorem dX12_isCharacter_3 : decode cX12_isCharacter 3 = .ok (.if_icmp .lt 9, 3) := by decide +kernel
theorem dX12_isCharacter_6 : decode cX12_isCharacter 6 = .ok (.iload_n 0, 1) := by decide +kernel
theorem dX12_isCharacter_7 : decode cX12_isCharacter 7 = .ok (.bipush 126, 2) := by decide +kernel
theorem dX12_isCharacter_9 : decode cX12_isCharacter 9 = .ok (.if_icmp .le 9, 3) := by decide +kernel
theorem dX12_isCharacter_12 : decode cX12_isCharacter 12 = .ok (.iload_n 0, 1) := by decide +kernel
theorem dX12_isCharacter_13 : decode cX12_isCharacter 13 = .ok (.bipush 10, 2) := by decide +kernel
theorem dX12_isCharacter_15 : decode cX12_isCharacter 15 = .ok (.if_icmp .ne 7, 3) := by decide +kernel
theorem dX12_isCharacter_18 : decode cX12_isCharacter 18 = .ok (.iconst 1, 1) := by decide +kernel
theorem dX12_isCharacter_19 : decode cX12_isCharacter 19 = .ok (.goto 4, 3) := by decide +kernel
theorem dX12_isCharacter_22 : decode cX12_isCharacter 22 = .ok (.iconst 0, 1) := by decide +kernel
theorem dX12_isCharacter_23 : decode cX12_isCharacter 23 = .ok (.ireturn, 1) := by decide +kernel
theorem dX12_unit_0 : decode cX12_unit 0 = .ok (.aload_n 0, 1) := by decide +kernel
theorem dX12_unit_1 : decode cX12_unit 1 = .ok (.iconst 0, 1) := by decide +kernel
theorem dX12_unit_2 : decode cX12_unit 2 = .ok (.putfield 108, 3) := by decide +kernel
theorem dX12_unit_5 : decode cX12_unit 5 = .ok (.iload_n 1, 1) := by decide +kernel
theorem dX12_unit_6 : decode cX12_unit 6 = .ok (.invokestatic 111, 3) := by decide +kernel
theorem dX12_unit_9 : decode cX12_unit 9 = .ok (.ifCond .eq 13, 3) := by decide +kernel
theorem dX12_unit_12 : decode cX12_unit 12 = .ok (.aload_n 0, 1) := by decide +kernel
theorem dX12_unit_13 : decode cX12_unit 13 = .ok (.getfield 115, 3) := by decide +kernel
theorem dX12_unit_16 : decode cX12_unit 16 = .ok (.sipush 1000, 3) := by decide +kernel
theorem dX12_unit_19 : decode cX12_unit 19 = .ok (.if_icmp .ne 5, 3) := by decide +kernel
theorem dX12_unit_22 : decode cX12_unit 22 = .ok (.iconst 0, 1) := by decide +kernel
theorem dX12_unit_23 : decode cX12_unit 23 = .ok (.ireturn, 1) := by decide +kernel
theorem dX12_unit_24 : decode cX12_unit 24 = .ok (.aload_n 0, 1) := by decide +kernel
theorem dX12_unit_25 : decode cX12_unit 25 = .ok (.getfield 7, 3) := by decide +kernel
theorem dX12_unit_28 : decode cX12_unit 28 = .ok (.aload_n 0, 1) := by decide +kernel
theorem dX12_unit_29 : decode cX12_unit 29 = .ok (.getfield 115, 3) := by decide +kernel
theorem dX12_unit_32 : decode cX12_unit 32 = .ok (.iload_n 1, 1) := by decide +kernel
theorem dX12_unit_33 : decode cX12_unit 33 = .ok (.iastore, 1) := by decide +kernel
theorem dX12_unit_34 : decode cX12_unit 34 = .ok (.aload_n 0, 1) := by decide +kernel
theorem dX12_unit_35 : decode cX12_unit 35 = .ok (.dup, 1) := by decide +kernel
theorem dX12_unit_36 : decode cX12_unit 36 = .ok (.getfield 115, 3) := by decide +kernel
theorem dX12_unit_39 : decode cX12_unit 39 = .ok (.iconst 1, 1) := by decide +kernel
theorem dX12_unit_40 : decode cX12_unit 40 = .ok (.iadd, 1) := by decide +kernel
theorem dX12_unit_41 : decode cX12_unit 41 = .ok (.putfield 115, 3) := by decide +kernel
theorem dX12_unit_44 : decode cX12_unit 44 = .ok (.iconst 1, 1) := by decide +kernel
theorem dX12_unit_45 : decode cX12_unit 45 = .ok (.ireturn, 1) := by decide +kernel
theorem dX12_units_0 : decode cX12_units 0 = .ok (.aload_n 0, 1) := by decide +kernel
theorem dX12_units_1 : decode cX12_units 1 = .ok (.iconst 0, 1) := by decide +kernel
theorem dX12_units_2 : decode cX12_units 2 = .ok (.putfield 108, 3) := by decide +kernel
theorem dX12_units_5 : decode cX12_units 5 = .ok (.iconst 0, 1) := by decide +kernel
theorem dX12_units_6 : decode cX12_units 6 = .ok (.istore_n 2, 1) := by decide +kernel
theorem dX12_units_7 : decode cX12_units 7 = .ok (.iconst 1, 1) := by decide +kernel
theorem dX12_units_8 : decode cX12_units 8 = .ok (.istore_n 3, 1) := by decide +kernel
theorem dX12_units_9 : decode cX12_units 9 = .ok (.bipush 24, 2) := by decide +kernel
theorem dX12_units_11 : decode cX12_units 11 = .ok (.istore 4, 2) := by decide +kernel
theorem dX12_units_13 : decode cX12_units 13 = .ok (.iload 4, 2) := by decide +kernel
theorem dX12_units_15 : decode cX12_units 15 = .ok (.ifCond .lt 55, 3) := by decide +kernel
theorem dX12_units_18 : decode cX12_units 18 = .ok (.iload_n 1, 1) := by decide +kernel
theorem dX12_units_19 : decode cX12_units 19 = .ok (.iload 4, 2) := by decide +kernel
theorem dX12_units_21 : decode cX12_units 21 = .ok (.iushr, 1) := by decide +kernel
theorem dX12_units_22 : decode cX12_units 22 = .ok (.sipush 255, 3) := by decide +kernel
theorem dX12_units_25 : decode cX12_units 25 = .ok (.iand, 1) := by decide +kernel
theorem dX12_units_26 : decode cX12_units 26 = .ok (.istore 5, 2) := by decide +kernel
theorem dX12_units_28 : decode cX12_units 28 = .ok (.iload 5, 2) := by decide +kernel
theorem dX12_units_30 : decode cX12_units 30 = .ok (.ifCond .le 9, 3) := by decide +kernel
theorem dX12_units_33 : decode cX12_units 33 = .ok (.iload_n 2, 1) := by decide +kernel
theorem dX12_units_34 : decode cX12_units 34 = .ok (.iconst 1, 1) := by decide +kernel
theorem dX12_units_35 : decode cX12_units 35 = .ok (.iadd, 1) := by decide +kernel
theorem dX12_units_36 : decode cX12_units 36 = .ok (.goto 4, 3) := by decide +kernel
theorem dX12_units_39 : decode cX12_units 39 = .ok (.iload_n 2, 1) := by decide +kernel
theorem dX12_units_40 : decode cX12_units 40 = .ok (.istore_n 2, 1) := by decide +kernel
theorem dX12_units_41 : decode cX12_units 41 = .ok (.iload_n 3, 1) := by decide +kernel
theorem dX12_units_42 : decode cX12_units 42 = .ok (.ifCond .eq 20, 3) := by decide +kernel
theorem dX12_units_45 : decode cX12_units 45 = .ok (.iload 5, 2) := by decide +kernel
theorem dX12_units_47 : decode cX12_units 47 = .ok (.ifCond .eq 11, 3) := by decide +kernel
theorem dX12_units_50 : decode cX12_units 50 = .ok (.iload 5, 2) := by decide +kernel
theorem dX12_units_52 : decode cX12_units 52 = .ok (.invokestatic 111, 3) := by decide +kernel
theorem dX12_units_55 : decode cX12_units 55 = .ok (.ifCond .eq 7, 3) := by decide +kernel
theorem dX12_units_58 : decode cX12_units 58 = .ok (.iconst 1, 1) := by decide +kernel
theorem dX12_units_59 : decode cX12_units 59 = .ok (.goto 4, 3) := by decide +kernel
theorem dX12_units_62 : decode cX12_units 62 = .ok (.iconst 0, 1) := by decide +kernel
theorem dX12_units_63 : decode cX12_units 63 = .ok (.istore_n 3, 1) := by decide +kernel
theorem dX12_units_64 : decode cX12_units 64 = .ok (.iinc 4 (-8), 3) := by decide +kernel
theorem dX12_units_67 : decode cX12_units 67 = .ok (.goto (-54), 3) := by decide +kernel
theorem dX12_units_70 : decode cX12_units 70 = .ok (.iload_n 3, 1) := by decide +kernel
theorem dX12_units_71 : decode cX12_units 71 = .ok (.ifCond .eq 15, 3) := by decide +kernel
theorem dX12_units_74 : decode cX12_units 74 = .ok (.aload_n 0, 1) := by decide +kernel
theorem dX12_units_75 : decode cX12_units 75 = .ok (.getfield 115, 3) := by decide +kernel
theorem dX12_units_78 : decode cX12_units 78 = .ok (.iload_n 2, 1) := by decide +kernel
theorem dX12_units_79 : decode cX12_units 79 = .ok (.iadd, 1) := by decide +kernel
theorem dX12_units_80 : decode cX12_units 80 = .ok (.sipush 1000, 3) := by decide +kernel
theorem dX12_units_83 : decode cX12_units 83 = .ok (.if_icmp .le 5, 3) := by decide +kernel
theorem dX12_units_86 : decode cX12_units 86 = .ok (.iconst 0, 1) := by decide +kernel
theorem dX12_units_87 : decode cX12_units 87 = .ok (.ireturn, 1) := by decide +kernel
theorem dX12_units_88 : decode cX12_units 88 = .ok (.bipush 24, 2) := by decide +kernel
theorem dX12_units_90 : decode cX12_units 90 = .ok (.istore 4, 2) := by decide +kernel
theorem dX12_units_92 : decode cX12_units 92 = .ok (.iload 4, 2) := by decide +kernel
theorem dX12_units_94 : decode cX12_units 94 = .ok (.ifCond .lt 45, 3) := by decide +kernel
theorem dX12_units_97 : decode cX12_units 97 = .ok (.iload_n 1, 1) := by decide +kernel
theorem dX12_units_98 : decode cX12_units 98 = .ok (.iload 4, 2) := by decide +kernel
theorem dX12_units_100 : decode cX12_units 100 = .ok (.iushr, 1) := by decide +kernel
theorem dX12_units_101 : decode cX12_units 101 = .ok (.sipush 255, 3) := by decide +kernel
theorem dX12_units_104 : decode cX12_units 104 = .ok (.iand, 1) := by decide +kernel
theorem dX12_units_105 : decode cX12_units 105 = .ok (.istore 5, 2) := by decide +kernel
theorem dX12_units_107 : decode cX12_units 107 = .ok (.iload 5, 2) := by decide +kernel
theorem dX12_units_109 : decode cX12_units 109 = .ok (.ifCond .le 24, 3) := by decide +kernel
theorem dX12_units_112 : decode cX12_units 112 = .ok (.aload_n 0, 1) := by decide +kernel
theorem dX12_units_113 : decode cX12_units 113 = .ok (.getfield 7, 3) := by decide +kernel
theorem dX12_units_116 : decode cX12_units 116 = .ok (.aload_n 0, 1) := by decide +kernel
theorem dX12_units_117 : decode cX12_units 117 = .ok (.getfield 115, 3) := by decide +kernel
theorem dX12_units_120 : decode cX12_units 120 = .ok (.iload 5, 2) := by decide +kernel
theorem dX12_units_122 : decode cX12_units 122 = .ok (.iastore, 1) := by decide +kernel
theorem dX12_units_123 : decode cX12_units 123 = .ok (.aload_n 0, 1) := by decide +kernel
theorem dX12_units_124 : decode cX12_units 124 = .ok (.dup, 1) := by decide +kernel
theorem dX12_units_125 : decode cX12_units 125 = .ok (.getfield 115, 3) := by decide +kernel
theorem dX12_units_128 : decode cX12_units 128 = .ok (.iconst 1, 1) := by decide +kernel
theorem dX12_units_129 : decode cX12_units 129 = .ok (.iadd, 1) := by decide +kernel
theorem dX12_units_130 : decode cX12_units 130 = .ok (.putfield 115, 3) := by decide +kernel
theorem dX12_units_133 : decode cX12_units 133 = .ok (.iinc 4 (-8), 3) := by decide +kernel
theorem dX12_units_136 : decode cX12_units 136 = .ok (.goto (-44), 3) := by decide +kernel
theorem dX12_units_139 : decode cX12_units 139 = .ok (.iconst 1, 1) := by decide +kernel
theorem dX12_units_140 : decode cX12_units 140 = .ok (.ireturn, 1) := by decide +kernel
theorem dX12_sign_0 : decode cX12_sign 0 = .ok (.iload_n 1, 1) := by decide +kernel
theorem dX12_sign_1 : decode cX12_sign 1 = .ok (.aload_n 0, 1) := by decide +kernel
theorem dX12_sign_2 : decode cX12_sign 2 = .ok (.getfield 16, 3) := by decide +kernel
theorem dX12_sign_5 : decode cX12_sign 5 = .ok (.aload_n 0, 1) := by decide +kernel
theorem dX12_sign_6 : decode cX12_sign 6 = .ok (.getfield 118, 3) := by decide +kernel
theorem dX12_sign_9 : decode cX12_sign 9 = .ok (.iaload, 1) := by decide +kernel
theorem dX12_sign_10 : decode cX12_sign 10 = .ok (.if_icmp .ge 21, 3) := by decide +kernel
theorem dX12_sign_13 : decode cX12_sign 13 = .ok (.aload_n 0, 1) := by decide +kernel
theorem dX12_sign_14 : decode cX12_sign 14 = .ok (.getfield 13, 3) := by decide +kernel
theorem dX12_sign_17 : decode cX12_sign 17 = .ok (.sipush 1000, 3) := by decide +kernel
theorem dX12_sign_20 : decode cX12_sign 20 = .ok (.aload_n 0, 1) := by decide +kernel
theorem dX12_sign_21 : decode cX12_sign 21 = .ok (.getfield 118, 3) := by decide +kernel
theorem dX12_sign_24 : decode cX12_sign 24 = .ok (.imul, 1) := by decide +kernel
theorem dX12_sign_25 : decode cX12_sign 25 = .ok (.iload_n 1, 1) := by decide +kernel
theorem dX12_sign_26 : decode cX12_sign 26 = .ok (.iadd, 1) := by decide +kernel
theorem dX12_sign_27 : decode cX12_sign 27 = .ok (.iaload, 1) := by decide +kernel
theorem dX12_sign_28 : decode cX12_sign 28 = .ok (.goto 4, 3) := by decide +kernel
theorem dX12_sign_31 : decode cX12_sign 31 = .ok (.iconst 0, 1) := by decide +kernel
theorem dX12_sign_32 : decode cX12_sign 32 = .ok (.ireturn, 1) := by decide +kernel
theorem dX12_isDigit_0 : decode cX12_isDigit 0 = .ok (.iload_n 0, 1) := by decide +kernel
theorem dX12_isDigit_1 : decode cX12_isDigit 1 = .ok (.bipush 48, 2) := by decide +kernel
theorem dX12_isDigit_3 : decode cX12_isDigit 3 = .ok (.if_icmp .lt 13, 3) := by decide +kernel
theorem dX12_isDigit_6 : decode cX12_isDigit 6 = .ok (.iload_n 0, 1) := by decide +kernel
theorem dX12_isDigit_7 : decode cX12_isDigit 7 = .ok (.bipush 57, 2) := by decide +kernel
theorem dX12_isDigit_9 : decode cX12_isDigit 9 = .ok (.if_icmp .gt 7, 3) := by decide +kernel
theorem dX12_isDigit_12 : decode cX12_isDigit 12 = .ok (.iconst 1, 1) := by decide +kernel
theorem dX12_isDigit_13 : decode cX12_isDigit 13 = .ok (.goto 4, 3) := by decide +kernel
theorem dX12_isDigit_16 : decode cX12_isDigit 16 = .ok (.iconst 0, 1) := by decide +kernel
theorem dX12_isDigit_17 : decode cX12_isDigit 17 = .ok (.ireturn, 1) := by decide +kernel
theorem dX12_isLetter_0 : decode cX12_isLetter 0 = .ok (.iload_n 0, 1) := by decide +kernel
theorem dX12_isLetter_1 : decode cX12_isLetter 1 = .ok (.bipush 97, 2) := by decide +kernel
theorem dX12_isLetter_3 : decode cX12_isLetter 3 = .ok (.if_icmp .lt 9, 3) := by decide +kernel
theorem dX12_isLetter_6 : decode cX12_isLetter 6 = .ok (.iload_n 0, 1) := by decide +kernel
theorem dX12_isLetter_7 : decode cX12_isLetter 7 = .ok (.bipush 122, 2) := by decide +kernel
theorem dX12_isLetter_9 : decode cX12_isLetter 9 = .ok (.if_icmp .le 21, 3) := by decide +kernel
theorem dX12_isLetter_12 : decode cX12_isLetter 12 = .ok (.iload_n 0, 1) := by decide +kernel
theorem dX12_isLetter_13 : decode cX12_isLetter 13 = .ok (.bipush 65, 2) := by decide +kernel
theorem dX12_isLetter_15 : decode cX12_isLetter 15 = .ok (.if_icmp .lt 9, 3) := by decide +kernel
theorem dX12_isLetter_18 : decode cX12_isLetter 18 = .ok (.iload_n 0, 1) := by decide +kernel
theorem dX12_isLetter_19 : decode cX12_isLetter 19 = .ok (.bipush 90, 2) := by decide +kernel
theorem dX12_isLetter_21 : decode cX12_isLetter 21 = .ok (.if_icmp .le 9, 3) := by decide +kernel
theorem dX12_isLetter_24 : decode cX12_isLetter 24 = .ok (.iload_n 0, 1) := by decide +kernel
theorem dX12_isLetter_25 : decode cX12_isLetter 25 = .ok (.bipush 95, 2) := by decide +kernel
theorem dX12_isLetter_27 : decode cX12_isLetter 27 = .ok (.if_icmp .ne 7, 3) := by decide +kernel
theorem dX12_isLetter_30 : decode cX12_isLetter 30 = .ok (.iconst 1, 1) := by decide +kernel
theorem dX12_isLetter_31 : decode cX12_isLetter 31 = .ok (.goto 4, 3) := by decide +kernel
theorem dX12_isLetter_34 : decode cX12_isLetter 34 = .ok (.iconst 0, 1) := by decide +kernel
theorem dX12_isLetter_35 : decode cX12_isLetter 35 = .ok (.ireturn, 1) := by decide +kernel
theorem dX12_ok_0 : decode cX12_ok 0 = .ok (.aload_n 0, 1) := by decide +kernel
theorem dX12_ok_1 : decode cX12_ok 1 = .ok (.getfield 104, 3) := by decide +kernel
theorem dX12_ok_4 : decode cX12_ok 4 = .ok (.iconst (-1), 1) := by decide +kernel
theorem dX12_ok_5 : decode cX12_ok 5 = .ok (.if_icmp .ne 7, 3) := by decide +kernel
theorem dX12_ok_8 : decode cX12_ok 8 = .ok (.iconst 1, 1) := by decide +kernel
theorem dX12_ok_9 : decode cX12_ok 9 = .ok (.goto 4, 3) := by decide +kernel
theorem dX12_ok_12 : decode cX12_ok 12 = .ok (.iconst 0, 1) := by decide +kernel
theorem dX12_ok_13 : decode cX12_ok 13 = .ok (.ireturn, 1) := by decide +kernel
theorem dX12_fail_0 : decode cX12_fail 0 = .ok (.aload_n 0, 1) := by decide +kernel
theorem dX12_fail_1 : decode cX12_fail 1 = .ok (.aload_n 0, 1) := by decide +kernel
theorem dX12_fail_2 : decode cX12_fail 2 = .ok (.getfield 104, 3) := by decide +kernel
theorem dX12_fail_5 : decode cX12_fail 5 = .ok (.iconst (-1), 1) := by decide +kernel
theorem dX12_fail_6 : decode cX12_fail 6 = .ok (.if_icmp .ne 7, 3) := by decide +kernel
theorem dX12_fail_9 : decode cX12_fail 9 = .ok (.iload_n 1, 1) := by decide +kernel
theorem dX12_fail_10 : decode cX12_fail 10 = .ok (.goto 7, 3) := by decide +kernel
theorem dX12_fail_13 : decode cX12_fail 13 = .ok (.aload_n 0, 1) := by decide +kernel
theorem dX12_fail_14 : decode cX12_fail 14 = .ok (.getfield 104, 3) := by decide +kernel
theorem dX12_fail_17 : decode cX12_fail 17 = .ok (.putfield 104, 3) := by decide +kernel
theorem dX12_fail_20 : decode cX12_fail 20 = .ok (.return_, 1) := by decide +kernel
theorem dX12_next_0 : decode cX12_next 0 = .ok (.aload_n 0, 1) := by decide +kernel
theorem dX12_next_1 : decode cX12_next 1 = .ok (.invokevirtual 121, 3) := by decide +kernel
theorem dX12_next_4 : decode cX12_next 4 = .ok (.ifCond .ne 4, 3) := by decide +kernel
theorem dX12_next_7 : decode cX12_next 7 = .ok (.return_, 1) := by decide +kernel
theorem dX12_next_8 : decode cX12_next 8 = .ok (.iconst 1, 1) := by decide +kernel
theorem dX12_next_9 : decode cX12_next 9 = .ok (.istore_n 1, 1) := by decide +kernel
theorem dX12_next_10 : decode cX12_next 10 = .ok (.iload_n 1, 1) := by decide +kernel
theorem dX12_next_11 : decode cX12_next 11 = .ok (.ifCond .eq 133, 3) := by decide +kernel
theorem dX12_next_14 : decode cX12_next 14 = .ok (.aload_n 0, 1) := by decide +kernel
theorem dX12_next_15 : decode cX12_next 15 = .ok (.getfield 125, 3) := by decide +kernel
theorem dX12_next_18 : decode cX12_next 18 = .ok (.aload_n 0, 1) := by decide +kernel
theorem dX12_next_19 : decode cX12_next 19 = .ok (.getfield 16, 3) := by decide +kernel
theorem dX12_next_22 : decode cX12_next 22 = .ok (.aload_n 0, 1) := by decide +kernel
theorem dX12_next_23 : decode cX12_next 23 = .ok (.getfield 118, 3) := by decide +kernel
theorem dX12_next_26 : decode cX12_next 26 = .ok (.iaload, 1) := by decide +kernel
theorem dX12_next_27 : decode cX12_next 27 = .ok (.if_icmp .ge 117, 3) := by decide +kernel
theorem dX12_next_30 : decode cX12_next 30 = .ok (.aload_n 0, 1) := by decide +kernel
theorem dX12_next_31 : decode cX12_next 31 = .ok (.aload_n 0, 1) := by decide +kernel
theorem dX12_next_32 : decode cX12_next 32 = .ok (.getfield 125, 3) := by decide +kernel
theorem dX12_next_35 : decode cX12_next 35 = .ok (.invokevirtual 128, 3) := by decide +kernel
theorem dX12_next_38 : decode cX12_next 38 = .ok (.bipush 47, 2) := by decide +kernel
theorem dX12_next_40 : decode cX12_next 40 = .ok (.if_icmp .ne 60, 3) := by decide +kernel
theorem dX12_next_43 : decode cX12_next 43 = .ok (.aload_n 0, 1) := by decide +kernel
theorem dX12_next_44 : decode cX12_next 44 = .ok (.aload_n 0, 1) := by decide +kernel
theorem dX12_next_45 : decode cX12_next 45 = .ok (.getfield 125, 3) := by decide +kernel
theorem dX12_next_48 : decode cX12_next 48 = .ok (.iconst 1, 1) := by decide +kernel
theorem dX12_next_49 : decode cX12_next 49 = .ok (.iadd, 1) := by decide +kernel
theorem dX12_next_50 : decode cX12_next 50 = .ok (.invokevirtual 128, 3) := by decide +kernel
theorem dX12_next_53 : decode cX12_next 53 = .ok (.bipush 47, 2) := by decide +kernel
theorem dX12_next_55 : decode cX12_next 55 = .ok (.if_icmp .ne 45, 3) := by decide +kernel
theorem dX12_next_58 : decode cX12_next 58 = .ok (.aload_n 0, 1) := by decide +kernel
theorem dX12_next_59 : decode cX12_next 59 = .ok (.getfield 125, 3) := by decide +kernel
theorem dX12_next_62 : decode cX12_next 62 = .ok (.aload_n 0, 1) := by decide +kernel
theorem dX12_next_63 : decode cX12_next 63 = .ok (.getfield 16, 3) := by decide +kernel
theorem dX12_next_66 : decode cX12_next 66 = .ok (.aload_n 0, 1) := by decide +kernel
theorem dX12_next_67 : decode cX12_next 67 = .ok (.getfield 118, 3) := by decide +kernel
theorem dX12_next_70 : decode cX12_next 70 = .ok (.iaload, 1) := by decide +kernel
theorem dX12_next_71 : decode cX12_next 71 = .ok (.if_icmp .ge (-61), 3) := by decide +kernel
theorem dX12_next_74 : decode cX12_next 74 = .ok (.aload_n 0, 1) := by decide +kernel
theorem dX12_next_75 : decode cX12_next 75 = .ok (.aload_n 0, 1) := by decide +kernel
theorem dX12_next_76 : decode cX12_next 76 = .ok (.getfield 125, 3) := by decide +kernel
theorem dX12_next_79 : decode cX12_next 79 = .ok (.invokevirtual 128, 3) := by decide +kernel
theorem dX12_next_82 : decode cX12_next 82 = .ok (.bipush 10, 2) := by decide +kernel
theorem dX12_next_84 : decode cX12_next 84 = .ok (.if_icmp .eq (-74), 3) := by decide +kernel
theorem dX12_next_87 : decode cX12_next 87 = .ok (.aload_n 0, 1) := by decide +kernel
theorem dX12_next_88 : decode cX12_next 88 = .ok (.dup, 1) := by decide +kernel
theorem dX12_next_89 : decode cX12_next 89 = .ok (.getfield 125, 3) := by decide +kernel
theorem dX12_next_92 : decode cX12_next 92 = .ok (.iconst 1, 1) := by decide +kernel
theorem dX12_next_93 : decode cX12_next 93 = .ok (.iadd, 1) := by decide +kernel
theorem dX12_next_94 : decode cX12_next 94 = .ok (.putfield 125, 3) := by decide +kernel
theorem dX12_next_97 : decode cX12_next 97 = .ok (.goto (-39), 3) := by decide +kernel
theorem dX12_next_100 : decode cX12_next 100 = .ok (.aload_n 0, 1) := by decide +kernel
theorem dX12_next_101 : decode cX12_next 101 = .ok (.aload_n 0, 1) := by decide +kernel
theorem dX12_next_102 : decode cX12_next 102 = .ok (.getfield 125, 3) := by decide +kernel
theorem dX12_next_105 : decode cX12_next 105 = .ok (.invokevirtual 128, 3) := by decide +kernel
theorem dX12_next_108 : decode cX12_next 108 = .ok (.bipush 32, 2) := by decide +kernel
theorem dX12_next_110 : decode cX12_next 110 = .ok (.if_icmp .eq 16, 3) := by decide +kernel
theorem dX12_next_113 : decode cX12_next 113 = .ok (.aload_n 0, 1) := by decide +kernel
theorem dX12_next_114 : decode cX12_next 114 = .ok (.aload_n 0, 1) := by decide +kernel
theorem dX12_next_115 : decode cX12_next 115 = .ok (.getfield 125, 3) := by decide +kernel
theorem dX12_next_118 : decode cX12_next 118 = .ok (.invokevirtual 128, 3) := by decide +kernel
theorem dX12_next_121 : decode cX12_next 121 = .ok (.bipush 10, 2) := by decide +kernel
theorem dX12_next_123 : decode cX12_next 123 = .ok (.if_icmp .ne 16, 3) := by decide +kernel
theorem dX12_next_126 : decode cX12_next 126 = .ok (.aload_n 0, 1) := by decide +kernel
theorem dX12_next_127 : decode cX12_next 127 = .ok (.dup, 1) := by decide +kernel
theorem dX12_next_128 : decode cX12_next 128 = .ok (.getfield 125, 3) := by decide +kernel
theorem dX12_next_131 : decode cX12_next 131 = .ok (.iconst 1, 1) := by decide +kernel
theorem dX12_next_132 : decode cX12_next 132 = .ok (.iadd, 1) := by decide +kernel
theorem dX12_next_133 : decode cX12_next 133 = .ok (.putfield 125, 3) := by decide +kernel
theorem dX12_next_136 : decode cX12_next 136 = .ok (.goto (-126), 3) := by decide +kernel
theorem dX12_next_139 : decode cX12_next 139 = .ok (.iconst 0, 1) := by decide +kernel
theorem dX12_next_140 : decode cX12_next 140 = .ok (.istore_n 1, 1) := by decide +kernel
theorem dX12_next_141 : decode cX12_next 141 = .ok (.goto (-131), 3) := by decide +kernel
theorem dX12_next_144 : decode cX12_next 144 = .ok (.aload_n 0, 1) := by decide +kernel
theorem dX12_next_145 : decode cX12_next 145 = .ok (.aload_n 0, 1) := by decide +kernel
theorem dX12_next_146 : decode cX12_next 146 = .ok (.getfield 125, 3) := by decide +kernel
theorem dX12_next_149 : decode cX12_next 149 = .ok (.putfield 132, 3) := by decide +kernel
theorem dX12_next_152 : decode cX12_next 152 = .ok (.aload_n 0, 1) := by decide +kernel
theorem dX12_next_153 : decode cX12_next 153 = .ok (.aload_n 0, 1) := by decide +kernel
theorem dX12_next_154 : decode cX12_next 154 = .ok (.getfield 125, 3) := by decide +kernel
theorem dX12_next_157 : decode cX12_next 157 = .ok (.invokevirtual 128, 3) := by decide +kernel
theorem dX12_next_160 : decode cX12_next 160 = .ok (.istore_n 2, 1) := by decide +kernel
theorem dX12_next_161 : decode cX12_next 161 = .ok (.aload_n 0, 1) := by decide +kernel
theorem dX12_next_162 : decode cX12_next 162 = .ok (.aload_n 0, 1) := by decide +kernel
theorem dX12_next_163 : decode cX12_next 163 = .ok (.getfield 125, 3) := by decide +kernel
theorem dX12_next_166 : decode cX12_next 166 = .ok (.aload_n 0, 1) := by decide +kernel
theorem dX12_next_167 : decode cX12_next 167 = .ok (.getfield 16, 3) := by decide +kernel
theorem dX12_next_170 : decode cX12_next 170 = .ok (.aload_n 0, 1) := by decide +kernel
theorem dX12_next_171 : decode cX12_next 171 = .ok (.getfield 118, 3) := by decide +kernel
theorem dX12_next_174 : decode cX12_next 174 = .ok (.iaload, 1) := by decide +kernel
theorem dX12_next_175 : decode cX12_next 175 = .ok (.if_icmp .lt 7, 3) := by decide +kernel
theorem dX12_next_178 : decode cX12_next 178 = .ok (.iconst 0, 1) := by decide +kernel
theorem dX12_next_179 : decode cX12_next 179 = .ok (.goto 26, 3) := by decide +kernel
theorem dX12_next_182 : decode cX12_next 182 = .ok (.iload_n 2, 1) := by decide +kernel
theorem dX12_next_183 : decode cX12_next 183 = .ok (.invokestatic 135, 3) := by decide +kernel
theorem dX12_next_186 : decode cX12_next 186 = .ok (.ifCond .eq 7, 3) := by decide +kernel
theorem dX12_next_189 : decode cX12_next 189 = .ok (.iconst 1, 1) := by decide +kernel
theorem dX12_next_190 : decode cX12_next 190 = .ok (.goto 15, 3) := by decide +kernel
theorem dX12_next_193 : decode cX12_next 193 = .ok (.iload_n 2, 1) := by decide +kernel
theorem dX12_next_194 : decode cX12_next 194 = .ok (.invokestatic 138, 3) := by decide +kernel
theorem dX12_next_197 : decode cX12_next 197 = .ok (.ifCond .eq 7, 3) := by decide +kernel
theorem dX12_next_200 : decode cX12_next 200 = .ok (.iconst 2, 1) := by decide +kernel
theorem dX12_next_201 : decode cX12_next 201 = .ok (.goto 4, 3) := by decide +kernel
theorem dX12_next_204 : decode cX12_next 204 = .ok (.iconst 3, 1) := by decide +kernel
theorem dX12_next_205 : decode cX12_next 205 = .ok (.putfield 141, 3) := by decide +kernel
theorem dX12_next_208 : decode cX12_next 208 = .ok (.aload_n 0, 1) := by decide +kernel
theorem dX12_next_209 : decode cX12_next 209 = .ok (.iload_n 2, 1) := by decide +kernel
theorem dX12_next_210 : decode cX12_next 210 = .ok (.putfield 144, 3) := by decide +kernel
theorem dX12_next_213 : decode cX12_next 213 = .ok (.aload_n 0, 1) := by decide +kernel
theorem dX12_next_214 : decode cX12_next 214 = .ok (.getfield 141, 3) := by decide +kernel
theorem dX12_next_217 : decode cX12_next 217 = .ok (.iconst 1, 1) := by decide +kernel
theorem dX12_next_218 : decode cX12_next 218 = .ok (.if_icmp .ne 44, 3) := by decide +kernel
theorem dX12_next_221 : decode cX12_next 221 = .ok (.aload_n 0, 1) := by decide +kernel
theorem dX12_next_222 : decode cX12_next 222 = .ok (.aload_n 0, 1) := by decide +kernel
theorem dX12_next_223 : decode cX12_next 223 = .ok (.getfield 125, 3) := by decide +kernel
theorem dX12_next_226 : decode cX12_next 226 = .ok (.invokevirtual 128, 3) := by decide +kernel
theorem dX12_next_229 : decode cX12_next 229 = .ok (.invokestatic 135, 3) := by decide +kernel
theorem dX12_next_232 : decode cX12_next 232 = .ok (.ifCond .ne 17, 3) := by decide +kernel
theorem dX12_next_235 : decode cX12_next 235 = .ok (.aload_n 0, 1) := by decide +kernel
theorem dX12_next_236 : decode cX12_next 236 = .ok (.aload_n 0, 1) := by decide +kernel
theorem dX12_next_237 : decode cX12_next 237 = .ok (.getfield 125, 3) := by decide +kernel
theorem dX12_next_240 : decode cX12_next 240 = .ok (.invokevirtual 128, 3) := by decide +kernel
theorem dX12_next_243 : decode cX12_next 243 = .ok (.invokestatic 138, 3) := by decide +kernel
theorem dX12_next_246 : decode cX12_next 246 = .ok (.ifCond .eq 114, 3) := by decide +kernel
theorem dX12_next_249 : decode cX12_next 249 = .ok (.aload_n 0, 1) := by decide +kernel
theorem dX12_next_250 : decode cX12_next 250 = .ok (.dup, 1) := by decide +kernel
theorem dX12_next_251 : decode cX12_next 251 = .ok (.getfield 125, 3) := by decide +kernel
theorem dX12_next_254 : decode cX12_next 254 = .ok (.iconst 1, 1) := by decide +kernel
theorem dX12_next_255 : decode cX12_next 255 = .ok (.iadd, 1) := by decide +kernel
theorem dX12_next_256 : decode cX12_next 256 = .ok (.putfield 125, 3) := by decide +kernel
theorem dX12_next_259 : decode cX12_next 259 = .ok (.goto (-38), 3) := by decide +kernel
theorem dX12_next_262 : decode cX12_next 262 = .ok (.aload_n 0, 1) := by decide +kernel
theorem dX12_next_263 : decode cX12_next 263 = .ok (.getfield 141, 3) := by decide +kernel
theorem dX12_next_266 : decode cX12_next 266 = .ok (.iconst 2, 1) := by decide +kernel
theorem dX12_next_267 : decode cX12_next 267 = .ok (.if_icmp .ne 75, 3) := by decide +kernel
theorem dX12_next_270 : decode cX12_next 270 = .ok (.aload_n 0, 1) := by decide +kernel
theorem dX12_next_271 : decode cX12_next 271 = .ok (.iconst 0, 1) := by decide +kernel
theorem dX12_next_272 : decode cX12_next 272 = .ok (.putfield 144, 3) := by decide +kernel
theorem dX12_next_275 : decode cX12_next 275 = .ok (.aload_n 0, 1) := by decide +kernel
theorem dX12_next_276 : decode cX12_next 276 = .ok (.aload_n 0, 1) := by decide +kernel
theorem dX12_next_277 : decode cX12_next 277 = .ok (.getfield 125, 3) := by decide +kernel
theorem dX12_next_280 : decode cX12_next 280 = .ok (.invokevirtual 128, 3) := by decide +kernel
theorem dX12_next_283 : decode cX12_next 283 = .ok (.invokestatic 138, 3) := by decide +kernel
theorem dX12_next_286 : decode cX12_next 286 = .ok (.ifCond .eq 74, 3) := by decide +kernel
theorem dX12_next_289 : decode cX12_next 289 = .ok (.aload_n 0, 1) := by decide +kernel
theorem dX12_next_290 : decode cX12_next 290 = .ok (.aload_n 0, 1) := by decide +kernel
theorem dX12_next_291 : decode cX12_next 291 = .ok (.getfield 144, 3) := by decide +kernel
theorem dX12_next_294 : decode cX12_next 294 = .ok (.sipush 1000, 3) := by decide +kernel
theorem dX12_next_297 : decode cX12_next 297 = .ok (.if_icmp .ge 25, 3) := by decide +kernel
theorem dX12_next_300 : decode cX12_next 300 = .ok (.bipush 10, 2) := by decide +kernel
theorem dX12_next_302 : decode cX12_next 302 = .ok (.aload_n 0, 1) := by decide +kernel
theorem dX12_next_303 : decode cX12_next 303 = .ok (.getfield 144, 3) := by decide +kernel
theorem dX12_next_306 : decode cX12_next 306 = .ok (.imul, 1) := by decide +kernel
theorem dX12_next_307 : decode cX12_next 307 = .ok (.aload_n 0, 1) := by decide +kernel
theorem dX12_next_308 : decode cX12_next 308 = .ok (.aload_n 0, 1) := by decide +kernel
theorem dX12_next_309 : decode cX12_next 309 = .ok (.getfield 125, 3) := by decide +kernel
theorem dX12_next_312 : decode cX12_next 312 = .ok (.invokevirtual 128, 3) := by decide +kernel
theorem dX12_next_315 : decode cX12_next 315 = .ok (.iadd, 1) := by decide +kernel
theorem dX12_next_316 : decode cX12_next 316 = .ok (.bipush 48, 2) := by decide +kernel
theorem dX12_next_318 : decode cX12_next 318 = .ok (.isub, 1) := by decide +kernel
theorem dX12_next_319 : decode cX12_next 319 = .ok (.goto 7, 3) := by decide +kernel
theorem dX12_next_322 : decode cX12_next 322 = .ok (.aload_n 0, 1) := by decide +kernel
theorem dX12_next_323 : decode cX12_next 323 = .ok (.getfield 144, 3) := by decide +kernel
theorem dX12_next_326 : decode cX12_next 326 = .ok (.putfield 144, 3) := by decide +kernel
theorem dX12_next_329 : decode cX12_next 329 = .ok (.aload_n 0, 1) := by decide +kernel
theorem dX12_next_330 : decode cX12_next 330 = .ok (.dup, 1) := by decide +kernel
theorem dX12_next_331 : decode cX12_next 331 = .ok (.getfield 125, 3) := by decide +kernel
theorem dX12_next_334 : decode cX12_next 334 = .ok (.iconst 1, 1) := by decide +kernel
theorem dX12_next_335 : decode cX12_next 335 = .ok (.iadd, 1) := by decide +kernel
theorem dX12_next_336 : decode cX12_next 336 = .ok (.putfield 125, 3) := by decide +kernel
theorem dX12_next_339 : decode cX12_next 339 = .ok (.goto (-64), 3) := by decide +kernel
theorem dX12_next_342 : decode cX12_next 342 = .ok (.aload_n 0, 1) := by decide +kernel
theorem dX12_next_343 : decode cX12_next 343 = .ok (.getfield 141, 3) := by decide +kernel
theorem dX12_next_346 : decode cX12_next 346 = .ok (.iconst 3, 1) := by decide +kernel
theorem dX12_next_347 : decode cX12_next 347 = .ok (.if_icmp .ne 13, 3) := by decide +kernel
theorem dX12_next_350 : decode cX12_next 350 = .ok (.aload_n 0, 1) := by decide +kernel
theorem dX12_next_351 : decode cX12_next 351 = .ok (.dup, 1) := by decide +kernel
theorem dX12_next_352 : decode cX12_next 352 = .ok (.getfield 125, 3) := by decide +kernel
theorem dX12_next_355 : decode cX12_next 355 = .ok (.iconst 1, 1) := by decide +kernel
theorem dX12_next_356 : decode cX12_next 356 = .ok (.iadd, 1) := by decide +kernel
theorem dX12_next_357 : decode cX12_next 357 = .ok (.putfield 125, 3) := by decide +kernel
theorem dX12_next_360 : decode cX12_next 360 = .ok (.aload_n 0, 1) := by decide +kernel
theorem dX12_next_361 : decode cX12_next 361 = .ok (.aload_n 0, 1) := by decide +kernel
theorem dX12_next_362 : decode cX12_next 362 = .ok (.getfield 125, 3) := by decide +kernel
theorem dX12_next_365 : decode cX12_next 365 = .ok (.putfield 147, 3) := by decide +kernel
theorem dX12_next_368 : decode cX12_next 368 = .ok (.aload_n 0, 1) := by decide +kernel
theorem dX12_next_369 : decode cX12_next 369 = .ok (.getfield 141, 3) := by decide +kernel
theorem dX12_next_372 : decode cX12_next 372 = .ok (.iconst 1, 1) := by decide +kernel
theorem dX12_next_373 : decode cX12_next 373 = .ok (.if_icmp .ne 17, 3) := by decide +kernel
theorem dX12_next_376 : decode cX12_next 376 = .ok (.aload_n 0, 1) := by decide +kernel
theorem dX12_next_377 : decode cX12_next 377 = .ok (.getfield 147, 3) := by decide +kernel
theorem dX12_next_380 : decode cX12_next 380 = .ok (.aload_n 0, 1) := by decide +kernel
theorem dX12_next_381 : decode cX12_next 381 = .ok (.getfield 132, 3) := by decide +kernel
theorem dX12_next_384 : decode cX12_next 384 = .ok (.isub, 1) := by decide +kernel
theorem dX12_next_385 : decode cX12_next 385 = .ok (.bipush 8, 2) := by decide +kernel
theorem dX12_next_387 : decode cX12_next 387 = .ok (.if_icmp .gt 24, 3) := by decide +kernel
theorem dX12_next_390 : decode cX12_next 390 = .ok (.aload_n 0, 1) := by decide +kernel
theorem dX12_next_391 : decode cX12_next 391 = .ok (.getfield 141, 3) := by decide +kernel
theorem dX12_next_394 : decode cX12_next 394 = .ok (.iconst 2, 1) := by decide +kernel
theorem dX12_next_395 : decode cX12_next 395 = .ok (.if_icmp .ne 24, 3) := by decide +kernel
theorem dX12_next_398 : decode cX12_next 398 = .ok (.aload_n 0, 1) := by decide +kernel
theorem dX12_next_399 : decode cX12_next 399 = .ok (.getfield 147, 3) := by decide +kernel
theorem dX12_next_402 : decode cX12_next 402 = .ok (.aload_n 0, 1) := by decide +kernel
theorem dX12_next_403 : decode cX12_next 403 = .ok (.getfield 132, 3) := by decide +kernel
theorem dX12_next_406 : decode cX12_next 406 = .ok (.isub, 1) := by decide +kernel
theorem dX12_next_407 : decode cX12_next 407 = .ok (.iconst 2, 1) := by decide +kernel
theorem dX12_next_408 : decode cX12_next 408 = .ok (.if_icmp .le 11, 3) := by decide +kernel
theorem dX12_next_411 : decode cX12_next 411 = .ok (.aload_n 0, 1) := by decide +kernel
theorem dX12_next_412 : decode cX12_next 412 = .ok (.aload_n 0, 1) := by decide +kernel
theorem dX12_next_413 : decode cX12_next 413 = .ok (.getfield 132, 3) := by decide +kernel
theorem dX12_next_416 : decode cX12_next 416 = .ok (.invokevirtual 150, 3) := by decide +kernel
theorem dX12_next_419 : decode cX12_next 419 = .ok (.return_, 1) := by decide +kernel
theorem dX12_length_0 : decode cX12_length 0 = .ok (.iconst 0, 1) := by decide +kernel
theorem dX12_length_1 : decode cX12_length 1 = .ok (.istore_n 3, 1) := by decide +kernel
theorem dX12_length_2 : decode cX12_length 2 = .ok (.iload_n 2, 1) := by decide +kernel
theorem dX12_length_3 : decode cX12_length 3 = .ok (.iload_n 3, 1) := by decide +kernel
theorem dX12_length_4 : decode cX12_length 4 = .ok (.iadd, 1) := by decide +kernel
theorem dX12_length_5 : decode cX12_length 5 = .ok (.aload_n 0, 1) := by decide +kernel
theorem dX12_length_6 : decode cX12_length 6 = .ok (.getfield 16, 3) := by decide +kernel
theorem dX12_length_9 : decode cX12_length 9 = .ok (.iload_n 1, 1) := by decide +kernel
theorem dX12_length_10 : decode cX12_length 10 = .ok (.iaload, 1) := by decide +kernel
theorem dX12_length_11 : decode cX12_length 11 = .ok (.if_icmp .ge 49, 3) := by decide +kernel
theorem dX12_length_14 : decode cX12_length 14 = .ok (.aload_n 0, 1) := by decide +kernel
theorem dX12_length_15 : decode cX12_length 15 = .ok (.getfield 13, 3) := by decide +kernel
theorem dX12_length_18 : decode cX12_length 18 = .ok (.sipush 1000, 3) := by decide +kernel
theorem dX12_length_21 : decode cX12_length 21 = .ok (.iload_n 1, 1) := by decide +kernel
theorem dX12_length_22 : decode cX12_length 22 = .ok (.imul, 1) := by decide +kernel
theorem dX12_length_23 : decode cX12_length 23 = .ok (.iload_n 2, 1) := by decide +kernel
theorem dX12_length_24 : decode cX12_length 24 = .ok (.iadd, 1) := by decide +kernel
theorem dX12_length_25 : decode cX12_length 25 = .ok (.iload_n 3, 1) := by decide +kernel
theorem dX12_length_26 : decode cX12_length 26 = .ok (.iadd, 1) := by decide +kernel
theorem dX12_length_27 : decode cX12_length 27 = .ok (.iaload, 1) := by decide +kernel
theorem dX12_length_28 : decode cX12_length 28 = .ok (.invokestatic 135, 3) := by decide +kernel
theorem dX12_length_31 : decode cX12_length 31 = .ok (.ifCond .ne 23, 3) := by decide +kernel
theorem dX12_length_34 : decode cX12_length 34 = .ok (.aload_n 0, 1) := by decide +kernel
theorem dX12_length_35 : decode cX12_length 35 = .ok (.getfield 13, 3) := by decide +kernel
theorem dX12_length_38 : decode cX12_length 38 = .ok (.sipush 1000, 3) := by decide +kernel
theorem dX12_length_41 : decode cX12_length 41 = .ok (.iload_n 1, 1) := by decide +kernel
theorem dX12_length_42 : decode cX12_length 42 = .ok (.imul, 1) := by decide +kernel
theorem dX12_length_43 : decode cX12_length 43 = .ok (.iload_n 2, 1) := by decide +kernel
theorem dX12_length_44 : decode cX12_length 44 = .ok (.iadd, 1) := by decide +kernel
theorem dX12_length_45 : decode cX12_length 45 = .ok (.iload_n 3, 1) := by decide +kernel
theorem dX12_length_46 : decode cX12_length 46 = .ok (.iadd, 1) := by decide +kernel
theorem dX12_length_47 : decode cX12_length 47 = .ok (.iaload, 1) := by decide +kernel
theorem dX12_length_48 : decode cX12_length 48 = .ok (.invokestatic 138, 3) := by decide +kernel
theorem dX12_length_51 : decode cX12_length 51 = .ok (.ifCond .eq 9, 3) := by decide +kernel
theorem dX12_length_54 : decode cX12_length 54 = .ok (.iinc 3 1, 3) := by decide +kernel
theorem dX12_length_57 : decode cX12_length 57 = .ok (.goto (-55), 3) := by decide +kernel
theorem dX12_length_60 : decode cX12_length 60 = .ok (.iload_n 3, 1) := by decide +kernel
theorem dX12_length_61 : decode cX12_length 61 = .ok (.ireturn, 1) := by decide +kernel
theorem dX12_areSame_0 : decode cX12_areSame 0 = .ok (.aload_n 0, 1) := by decide +kernel
theorem dX12_areSame_1 : decode cX12_areSame 1 = .ok (.aload_n 0, 1) := by decide +kernel
theorem dX12_areSame_2 : decode cX12_areSame 2 = .ok (.getfield 118, 3) := by decide +kernel
theorem dX12_areSame_5 : decode cX12_areSame 5 = .ok (.iload_n 1, 1) := by decide +kernel
theorem dX12_areSame_6 : decode cX12_areSame 6 = .ok (.invokevirtual 154, 3) := by decide +kernel
theorem dX12_areSame_9 : decode cX12_areSame 9 = .ok (.istore_n 3, 1) := by decide +kernel
theorem dX12_areSame_10 : decode cX12_areSame 10 = .ok (.iload_n 3, 1) := by decide +kernel
theorem dX12_areSame_11 : decode cX12_areSame 11 = .ok (.aload_n 0, 1) := by decide +kernel
theorem dX12_areSame_12 : decode cX12_areSame 12 = .ok (.aload_n 0, 1) := by decide +kernel
theorem dX12_areSame_13 : decode cX12_areSame 13 = .ok (.getfield 118, 3) := by decide +kernel
theorem dX12_areSame_16 : decode cX12_areSame 16 = .ok (.iload_n 2, 1) := by decide +kernel
theorem dX12_areSame_17 : decode cX12_areSame 17 = .ok (.invokevirtual 154, 3) := by decide +kernel
theorem dX12_areSame_20 : decode cX12_areSame 20 = .ok (.if_icmp .ne 7, 3) := by decide +kernel
theorem dX12_areSame_23 : decode cX12_areSame 23 = .ok (.iconst 1, 1) := by decide +kernel
theorem dX12_areSame_24 : decode cX12_areSame 24 = .ok (.goto 4, 3) := by decide +kernel
theorem dX12_areSame_27 : decode cX12_areSame 27 = .ok (.iconst 0, 1) := by decide +kernel
theorem dX12_areSame_28 : decode cX12_areSame 28 = .ok (.istore 4, 2) := by decide +kernel
theorem dX12_areSame_30 : decode cX12_areSame 30 = .ok (.iconst 0, 1) := by decide +kernel
theorem dX12_areSame_31 : decode cX12_areSame 31 = .ok (.istore 5, 2) := by decide +kernel
theorem dX12_areSame_33 : decode cX12_areSame 33 = .ok (.iload 5, 2) := by decide +kernel
theorem dX12_areSame_35 : decode cX12_areSame 35 = .ok (.iload_n 3, 1) := by decide +kernel
theorem dX12_areSame_36 : decode cX12_areSame 36 = .ok (.if_icmp .ge 40, 3) := by decide +kernel
theorem dX12_areSame_39 : decode cX12_areSame 39 = .ok (.iload 4, 2) := by decide +kernel
theorem dX12_areSame_41 : decode cX12_areSame 41 = .ok (.ifCond .eq 35, 3) := by decide +kernel
theorem dX12_areSame_44 : decode cX12_areSame 44 = .ok (.aload_n 0, 1) := by decide +kernel
theorem dX12_areSame_45 : decode cX12_areSame 45 = .ok (.iload_n 1, 1) := by decide +kernel
theorem dX12_areSame_46 : decode cX12_areSame 46 = .ok (.iload 5, 2) := by decide +kernel
theorem dX12_areSame_48 : decode cX12_areSame 48 = .ok (.iadd, 1) := by decide +kernel
theorem dX12_areSame_49 : decode cX12_areSame 49 = .ok (.invokevirtual 128, 3) := by decide +kernel
theorem dX12_areSame_52 : decode cX12_areSame 52 = .ok (.aload_n 0, 1) := by decide +kernel
theorem dX12_areSame_53 : decode cX12_areSame 53 = .ok (.iload_n 2, 1) := by decide +kernel
theorem dX12_areSame_54 : decode cX12_areSame 54 = .ok (.iload 5, 2) := by decide +kernel
theorem dX12_areSame_56 : decode cX12_areSame 56 = .ok (.iadd, 1) := by decide +kernel
theorem dX12_areSame_57 : decode cX12_areSame 57 = .ok (.invokevirtual 128, 3) := by decide +kernel
theorem dX12_areSame_60 : decode cX12_areSame 60 = .ok (.if_icmp .ne 7, 3) := by decide +kernel
theorem dX12_areSame_63 : decode cX12_areSame 63 = .ok (.iconst 1, 1) := by decide +kernel
theorem dX12_areSame_64 : decode cX12_areSame 64 = .ok (.goto 4, 3) := by decide +kernel
theorem dX12_areSame_67 : decode cX12_areSame 67 = .ok (.iconst 0, 1) := by decide +kernel
theorem dX12_areSame_68 : decode cX12_areSame 68 = .ok (.istore 4, 2) := by decide +kernel
theorem dX12_areSame_70 : decode cX12_areSame 70 = .ok (.iinc 5 1, 3) := by decide +kernel
theorem dX12_areSame_73 : decode cX12_areSame 73 = .ok (.goto (-40), 3) := by decide +kernel
theorem dX12_areSame_76 : decode cX12_areSame 76 = .ok (.iload 4, 2) := by decide +kernel
theorem dX12_areSame_78 : decode cX12_areSame 78 = .ok (.ireturn, 1) := by decide +kernel
theorem dX12_keyword_0 : decode cX12_keyword 0 = .ok (.aload_n 0, 1) := by decide +kernel
theorem dX12_keyword_1 : decode cX12_keyword 1 = .ok (.getfield 147, 3) := by decide +kernel
theorem dX12_keyword_4 : decode cX12_keyword 4 = .ok (.aload_n 0, 1) := by decide +kernel
theorem dX12_keyword_5 : decode cX12_keyword 5 = .ok (.getfield 132, 3) := by decide +kernel
theorem dX12_keyword_8 : decode cX12_keyword 8 = .ok (.isub, 1) := by decide +kernel
theorem dX12_keyword_9 : decode cX12_keyword 9 = .ok (.istore_n 1, 1) := by decide +kernel
theorem dX12_keyword_10 : decode cX12_keyword 10 = .ok (.aload_n 0, 1) := by decide +kernel
theorem dX12_keyword_11 : decode cX12_keyword 11 = .ok (.getfield 141, 3) := by decide +kernel
theorem dX12_keyword_14 : decode cX12_keyword 14 = .ok (.iconst 1, 1) := by decide +kernel
theorem dX12_keyword_15 : decode cX12_keyword 15 = .ok (.if_icmp .eq 5, 3) := by decide +kernel
theorem dX12_keyword_18 : decode cX12_keyword 18 = .ok (.iconst (-1), 1) := by decide +kernel
theorem dX12_keyword_19 : decode cX12_keyword 19 = .ok (.ireturn, 1) := by decide +kernel
theorem dX12_keyword_20 : decode cX12_keyword 20 = .ok (.iload_n 1, 1) := by decide +kernel
theorem dX12_keyword_21 : decode cX12_keyword 21 = .ok (.bipush 6, 2) := by decide +kernel
theorem dX12_keyword_23 : decode cX12_keyword 23 = .ok (.if_icmp .ne 33, 3) := by decide +kernel
theorem dX12_keyword_26 : decode cX12_keyword 26 = .ok (.aload_n 0, 1) := by decide +kernel
theorem dX12_keyword_27 : decode cX12_keyword 27 = .ok (.iconst 0, 1) := by decide +kernel
theorem dX12_keyword_28 : decode cX12_keyword 28 = .ok (.bipush 109, 2) := by decide +kernel
theorem dX12_keyword_30 : decode cX12_keyword 30 = .ok (.bipush 111, 2) := by decide +kernel
theorem dX12_keyword_32 : decode cX12_keyword 32 = .ok (.bipush 100, 2) := by decide +kernel
theorem dX12_keyword_34 : decode cX12_keyword 34 = .ok (.invokevirtual 158, 3) := by decide +kernel
theorem dX12_keyword_37 : decode cX12_keyword 37 = .ok (.ifCond .eq 19, 3) := by decide +kernel
theorem dX12_keyword_40 : decode cX12_keyword 40 = .ok (.aload_n 0, 1) := by decide +kernel
theorem dX12_keyword_41 : decode cX12_keyword 41 = .ok (.iconst 3, 1) := by decide +kernel
theorem dX12_keyword_42 : decode cX12_keyword 42 = .ok (.bipush 117, 2) := by decide +kernel
theorem dX12_keyword_44 : decode cX12_keyword 44 = .ok (.bipush 108, 2) := by decide +kernel
theorem dX12_keyword_46 : decode cX12_keyword 46 = .ok (.bipush 101, 2) := by decide +kernel
theorem dX12_keyword_48 : decode cX12_keyword 48 = .ok (.invokevirtual 158, 3) := by decide +kernel
theorem dX12_keyword_51 : decode cX12_keyword 51 = .ok (.ifCond .eq 5, 3) := by decide +kernel
theorem dX12_keyword_54 : decode cX12_keyword 54 = .ok (.iconst 0, 1) := by decide +kernel
theorem dX12_keyword_55 : decode cX12_keyword 55 = .ok (.ireturn, 1) := by decide +kernel
theorem dX12_keyword_56 : decode cX12_keyword 56 = .ok (.iload_n 1, 1) := by decide +kernel
theorem dX12_keyword_57 : decode cX12_keyword 57 = .ok (.iconst 5, 1) := by decide +kernel
theorem dX12_keyword_58 : decode cX12_keyword 58 = .ok (.if_icmp .ne 49, 3) := by decide +kernel
theorem dX12_keyword_61 : decode cX12_keyword 61 = .ok (.aload_n 0, 1) := by decide +kernel
theorem dX12_keyword_62 : decode cX12_keyword 62 = .ok (.iconst 0, 1) := by decide +kernel
theorem dX12_keyword_63 : decode cX12_keyword 63 = .ok (.bipush 105, 2) := by decide +kernel
theorem dX12_keyword_65 : decode cX12_keyword 65 = .ok (.bipush 110, 2) := by decide +kernel
theorem dX12_keyword_67 : decode cX12_keyword 67 = .ok (.bipush 112, 2) := by decide +kernel
theorem dX12_keyword_69 : decode cX12_keyword 69 = .ok (.invokevirtual 158, 3) := by decide +kernel
theorem dX12_keyword_72 : decode cX12_keyword 72 = .ok (.ifCond .eq 35, 3) := by decide +kernel
theorem dX12_keyword_75 : decode cX12_keyword 75 = .ok (.aload_n 0, 1) := by decide +kernel
theorem dX12_keyword_76 : decode cX12_keyword 76 = .ok (.aload_n 0, 1) := by decide +kernel
theorem dX12_keyword_77 : decode cX12_keyword 77 = .ok (.getfield 132, 3) := by decide +kernel
theorem dX12_keyword_80 : decode cX12_keyword 80 = .ok (.iconst 3, 1) := by decide +kernel
theorem dX12_keyword_81 : decode cX12_keyword 81 = .ok (.iadd, 1) := by decide +kernel
theorem dX12_keyword_82 : decode cX12_keyword 82 = .ok (.invokevirtual 128, 3) := by decide +kernel
theorem dX12_keyword_85 : decode cX12_keyword 85 = .ok (.bipush 117, 2) := by decide +kernel
theorem dX12_keyword_87 : decode cX12_keyword 87 = .ok (.if_icmp .ne 20, 3) := by decide +kernel
theorem dX12_keyword_90 : decode cX12_keyword 90 = .ok (.aload_n 0, 1) := by decide +kernel
theorem dX12_keyword_91 : decode cX12_keyword 91 = .ok (.aload_n 0, 1) := by decide +kernel
theorem dX12_keyword_92 : decode cX12_keyword 92 = .ok (.getfield 132, 3) := by decide +kernel
theorem dX12_keyword_95 : decode cX12_keyword 95 = .ok (.iconst 4, 1) := by decide +kernel
theorem dX12_keyword_96 : decode cX12_keyword 96 = .ok (.iadd, 1) := by decide +kernel
theorem dX12_keyword_97 : decode cX12_keyword 97 = .ok (.invokevirtual 128, 3) := by decide +kernel
theorem dX12_keyword_100 : decode cX12_keyword 100 = .ok (.bipush 116, 2) := by decide +kernel
theorem dX12_keyword_102 : decode cX12_keyword 102 = .ok (.if_icmp .ne 5, 3) := by decide +kernel
theorem dX12_keyword_105 : decode cX12_keyword 105 = .ok (.iconst 1, 1) := by decide +kernel
theorem dX12_keyword_106 : decode cX12_keyword 106 = .ok (.ireturn, 1) := by decide +kernel
theorem dX12_keyword_107 : decode cX12_keyword 107 = .ok (.iload_n 1, 1) := by decide +kernel
theorem dX12_keyword_108 : decode cX12_keyword 108 = .ok (.bipush 6, 2) := by decide +kernel
theorem dX12_keyword_110 : decode cX12_keyword 110 = .ok (.if_icmp .ne 33, 3) := by decide +kernel
theorem dX12_keyword_113 : decode cX12_keyword 113 = .ok (.aload_n 0, 1) := by decide +kernel
theorem dX12_keyword_114 : decode cX12_keyword 114 = .ok (.iconst 0, 1) := by decide +kernel
theorem dX12_keyword_115 : decode cX12_keyword 115 = .ok (.bipush 111, 2) := by decide +kernel
theorem dX12_keyword_117 : decode cX12_keyword 117 = .ok (.bipush 117, 2) := by decide +kernel
theorem dX12_keyword_119 : decode cX12_keyword 119 = .ok (.bipush 116, 2) := by decide +kernel
theorem dX12_keyword_121 : decode cX12_keyword 121 = .ok (.invokevirtual 158, 3) := by decide +kernel
theorem dX12_keyword_124 : decode cX12_keyword 124 = .ok (.ifCond .eq 19, 3) := by decide +kernel
theorem dX12_keyword_127 : decode cX12_keyword 127 = .ok (.aload_n 0, 1) := by decide +kernel
theorem dX12_keyword_128 : decode cX12_keyword 128 = .ok (.iconst 3, 1) := by decide +kernel
theorem dX12_keyword_129 : decode cX12_keyword 129 = .ok (.bipush 112, 2) := by decide +kernel
theorem dX12_keyword_131 : decode cX12_keyword 131 = .ok (.bipush 117, 2) := by decide +kernel
theorem dX12_keyword_133 : decode cX12_keyword 133 = .ok (.bipush 116, 2) := by decide +kernel
theorem dX12_keyword_135 : decode cX12_keyword 135 = .ok (.invokevirtual 158, 3) := by decide +kernel
theorem dX12_keyword_138 : decode cX12_keyword 138 = .ok (.ifCond .eq 5, 3) := by decide +kernel
theorem dX12_keyword_141 : decode cX12_keyword 141 = .ok (.iconst 2, 1) := by decide +kernel
theorem dX12_keyword_142 : decode cX12_keyword 142 = .ok (.ireturn, 1) := by decide +kernel
theorem dX12_keyword_143 : decode cX12_keyword 143 = .ok (.iload_n 1, 1) := by decide +kernel
theorem dX12_keyword_144 : decode cX12_keyword 144 = .ok (.iconst 4, 1) := by decide +kernel
theorem dX12_keyword_145 : decode cX12_keyword 145 = .ok (.if_icmp .ne 34, 3) := by decide +kernel
theorem dX12_keyword_148 : decode cX12_keyword 148 = .ok (.aload_n 0, 1) := by decide +kernel
theorem dX12_keyword_149 : decode cX12_keyword 149 = .ok (.iconst 0, 1) := by decide +kernel
theorem dX12_keyword_150 : decode cX12_keyword 150 = .ok (.bipush 119, 2) := by decide +kernel
theorem dX12_keyword_152 : decode cX12_keyword 152 = .ok (.bipush 105, 2) := by decide +kernel
theorem dX12_keyword_154 : decode cX12_keyword 154 = .ok (.bipush 114, 2) := by decide +kernel
theorem dX12_keyword_156 : decode cX12_keyword 156 = .ok (.invokevirtual 158, 3) := by decide +kernel
theorem dX12_keyword_159 : decode cX12_keyword 159 = .ok (.ifCond .eq 20, 3) := by decide +kernel
theorem dX12_keyword_162 : decode cX12_keyword 162 = .ok (.aload_n 0, 1) := by decide +kernel
theorem dX12_keyword_163 : decode cX12_keyword 163 = .ok (.aload_n 0, 1) := by decide +kernel
theorem dX12_keyword_164 : decode cX12_keyword 164 = .ok (.getfield 132, 3) := by decide +kernel
theorem dX12_keyword_167 : decode cX12_keyword 167 = .ok (.iconst 3, 1) := by decide +kernel
theorem dX12_keyword_168 : decode cX12_keyword 168 = .ok (.iadd, 1) := by decide +kernel
theorem dX12_keyword_169 : decode cX12_keyword 169 = .ok (.invokevirtual 128, 3) := by decide +kernel
theorem dX12_keyword_172 : decode cX12_keyword 172 = .ok (.bipush 101, 2) := by decide +kernel
theorem dX12_keyword_174 : decode cX12_keyword 174 = .ok (.if_icmp .ne 5, 3) := by decide +kernel
theorem dX12_keyword_177 : decode cX12_keyword 177 = .ok (.iconst 3, 1) := by decide +kernel
theorem dX12_keyword_178 : decode cX12_keyword 178 = .ok (.ireturn, 1) := by decide +kernel
theorem dX12_keyword_179 : decode cX12_keyword 179 = .ok (.iload_n 1, 1) := by decide +kernel
theorem dX12_keyword_180 : decode cX12_keyword 180 = .ok (.bipush 6, 2) := by decide +kernel
theorem dX12_keyword_182 : decode cX12_keyword 182 = .ok (.if_icmp .ne 33, 3) := by decide +kernel
theorem dX12_keyword_185 : decode cX12_keyword 185 = .ok (.aload_n 0, 1) := by decide +kernel
theorem dX12_keyword_186 : decode cX12_keyword 186 = .ok (.iconst 0, 1) := by decide +kernel
theorem dX12_keyword_187 : decode cX12_keyword 187 = .ok (.bipush 97, 2) := by decide +kernel
theorem dX12_keyword_189 : decode cX12_keyword 189 = .ok (.bipush 115, 2) := by decide +kernel
theorem dX12_keyword_191 : decode cX12_keyword 191 = .ok (.bipush 115, 2) := by decide +kernel
theorem dX12_keyword_193 : decode cX12_keyword 193 = .ok (.invokevirtual 158, 3) := by decide +kernel
theorem dX12_keyword_196 : decode cX12_keyword 196 = .ok (.ifCond .eq 19, 3) := by decide +kernel
theorem dX12_keyword_199 : decode cX12_keyword 199 = .ok (.aload_n 0, 1) := by decide +kernel
theorem dX12_keyword_200 : decode cX12_keyword 200 = .ok (.iconst 3, 1) := by decide +kernel
theorem dX12_keyword_201 : decode cX12_keyword 201 = .ok (.bipush 105, 2) := by decide +kernel
theorem dX12_keyword_203 : decode cX12_keyword 203 = .ok (.bipush 103, 2) := by decide +kernel
theorem dX12_keyword_205 : decode cX12_keyword 205 = .ok (.bipush 110, 2) := by decide +kernel
theorem dX12_keyword_207 : decode cX12_keyword 207 = .ok (.invokevirtual 158, 3) := by decide +kernel
theorem dX12_keyword_210 : decode cX12_keyword 210 = .ok (.ifCond .eq 5, 3) := by decide +kernel
theorem dX12_keyword_213 : decode cX12_keyword 213 = .ok (.iconst 4, 1) := by decide +kernel
theorem dX12_keyword_214 : decode cX12_keyword 214 = .ok (.ireturn, 1) := by decide +kernel
theorem dX12_keyword_215 : decode cX12_keyword 215 = .ok (.iload_n 1, 1) := by decide +kernel
theorem dX12_keyword_216 : decode cX12_keyword 216 = .ok (.iconst 3, 1) := by decide +kernel
theorem dX12_keyword_217 : decode cX12_keyword 217 = .ok (.if_icmp .ne 21, 3) := by decide +kernel
theorem dX12_keyword_220 : decode cX12_keyword 220 = .ok (.aload_n 0, 1) := by decide +kernel
theorem dX12_keyword_221 : decode cX12_keyword 221 = .ok (.iconst 0, 1) := by decide +kernel
theorem dX12_keyword_222 : decode cX12_keyword 222 = .ok (.bipush 101, 2) := by decide +kernel
theorem dX12_keyword_224 : decode cX12_keyword 224 = .ok (.bipush 110, 2) := by decide +kernel
theorem dX12_keyword_226 : decode cX12_keyword 226 = .ok (.bipush 100, 2) := by decide +kernel
theorem dX12_keyword_228 : decode cX12_keyword 228 = .ok (.invokevirtual 158, 3) := by decide +kernel
theorem dX12_keyword_231 : decode cX12_keyword 231 = .ok (.ifCond .eq 7, 3) := by decide +kernel
theorem dX12_keyword_234 : decode cX12_keyword 234 = .ok (.iconst 5, 1) := by decide +kernel
theorem dX12_keyword_235 : decode cX12_keyword 235 = .ok (.goto 4, 3) := by decide +kernel
theorem dX12_keyword_238 : decode cX12_keyword 238 = .ok (.iconst (-1), 1) := by decide +kernel
theorem dX12_keyword_239 : decode cX12_keyword 239 = .ok (.ireturn, 1) := by decide +kernel
theorem dX12_is_0 : decode cX12_is 0 = .ok (.aload_n 0, 1) := by decide +kernel
theorem dX12_is_1 : decode cX12_is 1 = .ok (.aload_n 0, 1) := by decide +kernel
theorem dX12_is_2 : decode cX12_is 2 = .ok (.getfield 132, 3) := by decide +kernel
theorem dX12_is_5 : decode cX12_is 5 = .ok (.iload_n 1, 1) := by decide +kernel
theorem dX12_is_6 : decode cX12_is 6 = .ok (.iadd, 1) := by decide +kernel
theorem dX12_is_7 : decode cX12_is 7 = .ok (.invokevirtual 128, 3) := by decide +kernel
theorem dX12_is_10 : decode cX12_is 10 = .ok (.iload_n 2, 1) := by decide +kernel
theorem dX12_is_11 : decode cX12_is 11 = .ok (.if_icmp .ne 40, 3) := by decide +kernel
theorem dX12_is_14 : decode cX12_is 14 = .ok (.aload_n 0, 1) := by decide +kernel
theorem dX12_is_15 : decode cX12_is 15 = .ok (.aload_n 0, 1) := by decide +kernel
theorem dX12_is_16 : decode cX12_is 16 = .ok (.getfield 132, 3) := by decide +kernel
theorem dX12_is_19 : decode cX12_is 19 = .ok (.iload_n 1, 1) := by decide +kernel
theorem dX12_is_20 : decode cX12_is 20 = .ok (.iadd, 1) := by decide +kernel
theorem dX12_is_21 : decode cX12_is 21 = .ok (.iconst 1, 1) := by decide +kernel
theorem dX12_is_22 : decode cX12_is 22 = .ok (.iadd, 1) := by decide +kernel
theorem dX12_is_23 : decode cX12_is 23 = .ok (.invokevirtual 128, 3) := by decide +kernel
theorem dX12_is_26 : decode cX12_is 26 = .ok (.iload_n 3, 1) := by decide +kernel
theorem dX12_is_27 : decode cX12_is 27 = .ok (.if_icmp .ne 24, 3) := by decide +kernel
theorem dX12_is_30 : decode cX12_is 30 = .ok (.aload_n 0, 1) := by decide +kernel
theorem dX12_is_31 : decode cX12_is 31 = .ok (.aload_n 0, 1) := by decide +kernel
theorem dX12_is_32 : decode cX12_is 32 = .ok (.getfield 132, 3) := by decide +kernel
theorem dX12_is_35 : decode cX12_is 35 = .ok (.iload_n 1, 1) := by decide +kernel
theorem dX12_is_36 : decode cX12_is 36 = .ok (.iadd, 1) := by decide +kernel
theorem dX12_is_37 : decode cX12_is 37 = .ok (.iconst 2, 1) := by decide +kernel
theorem dX12_is_38 : decode cX12_is 38 = .ok (.iadd, 1) := by decide +kernel
theorem dX12_is_39 : decode cX12_is 39 = .ok (.invokevirtual 128, 3) := by decide +kernel
theorem dX12_is_42 : decode cX12_is 42 = .ok (.iload 4, 2) := by decide +kernel
theorem dX12_is_44 : decode cX12_is 44 = .ok (.if_icmp .ne 7, 3) := by decide +kernel
theorem dX12_is_47 : decode cX12_is 47 = .ok (.iconst 1, 1) := by decide +kernel
theorem dX12_is_48 : decode cX12_is 48 = .ok (.goto 4, 3) := by decide +kernel
theorem dX12_is_51 : decode cX12_is 51 = .ok (.iconst 0, 1) := by decide +kernel
theorem dX12_is_52 : decode cX12_is 52 = .ok (.ireturn, 1) := by decide +kernel
theorem dX12_isKey_0 : decode cX12_isKey 0 = .ok (.aload_n 0, 1) := by decide +kernel
theorem dX12_isKey_1 : decode cX12_isKey 1 = .ok (.invokevirtual 121, 3) := by decide +kernel
theorem dX12_isKey_4 : decode cX12_isKey 4 = .ok (.ifCond .eq 15, 3) := by decide +kernel
theorem dX12_isKey_7 : decode cX12_isKey 7 = .ok (.aload_n 0, 1) := by decide +kernel
theorem dX12_isKey_8 : decode cX12_isKey 8 = .ok (.invokevirtual 162, 3) := by decide +kernel
theorem dX12_isKey_11 : decode cX12_isKey 11 = .ok (.iload_n 1, 1) := by decide +kernel
theorem dX12_isKey_12 : decode cX12_isKey 12 = .ok (.if_icmp .ne 7, 3) := by decide +kernel
theorem dX12_isKey_15 : decode cX12_isKey 15 = .ok (.iconst 1, 1) := by decide +kernel
theorem dX12_isKey_16 : decode cX12_isKey 16 = .ok (.goto 4, 3) := by decide +kernel
theorem dX12_isKey_19 : decode cX12_isKey 19 = .ok (.iconst 0, 1) := by decide +kernel
theorem dX12_isKey_20 : decode cX12_isKey 20 = .ok (.ireturn, 1) := by decide +kernel
theorem dX12_isSign_0 : decode cX12_isSign 0 = .ok (.aload_n 0, 1) := by decide +kernel
theorem dX12_isSign_1 : decode cX12_isSign 1 = .ok (.invokevirtual 121, 3) := by decide +kernel
theorem dX12_isSign_4 : decode cX12_isSign 4 = .ok (.ifCond .eq 23, 3) := by decide +kernel
theorem dX12_isSign_7 : decode cX12_isSign 7 = .ok (.aload_n 0, 1) := by decide +kernel
theorem dX12_isSign_8 : decode cX12_isSign 8 = .ok (.getfield 141, 3) := by decide +kernel
theorem dX12_isSign_11 : decode cX12_isSign 11 = .ok (.iconst 3, 1) := by decide +kernel
theorem dX12_isSign_12 : decode cX12_isSign 12 = .ok (.if_icmp .ne 15, 3) := by decide +kernel
theorem dX12_isSign_15 : decode cX12_isSign 15 = .ok (.aload_n 0, 1) := by decide +kernel
theorem dX12_isSign_16 : decode cX12_isSign 16 = .ok (.getfield 144, 3) := by decide +kernel
theorem dX12_isSign_19 : decode cX12_isSign 19 = .ok (.iload_n 1, 1) := by decide +kernel
theorem dX12_isSign_20 : decode cX12_isSign 20 = .ok (.if_icmp .ne 7, 3) := by decide +kernel
theorem dX12_isSign_23 : decode cX12_isSign 23 = .ok (.iconst 1, 1) := by decide +kernel
theorem dX12_isSign_24 : decode cX12_isSign 24 = .ok (.goto 4, 3) := by decide +kernel
theorem dX12_isSign_27 : decode cX12_isSign 27 = .ok (.iconst 0, 1) := by decide +kernel
theorem dX12_isSign_28 : decode cX12_isSign 28 = .ok (.ireturn, 1) := by decide +kernel
theorem dX12_isLetterWord_0 : decode cX12_isLetterWord 0 = .ok (.aload_n 0, 1) := by decide +kernel
theorem dX12_isLetterWord_1 : decode cX12_isLetterWord 1 = .ok (.invokevirtual 121, 3) := by decide +kernel
theorem dX12_isLetterWord_4 : decode cX12_isLetterWord 4 = .ok (.ifCond .eq 40, 3) := by decide +kernel
theorem dX12_isLetterWord_7 : decode cX12_isLetterWord 7 = .ok (.aload_n 0, 1) := by decide +kernel
theorem dX12_isLetterWord_8 : decode cX12_isLetterWord 8 = .ok (.getfield 141, 3) := by decide +kernel
theorem dX12_isLetterWord_11 : decode cX12_isLetterWord 11 = .ok (.iconst 1, 1) := by decide +kernel
theorem dX12_isLetterWord_12 : decode cX12_isLetterWord 12 = .ok (.if_icmp .ne 32, 3) := by decide +kernel
theorem dX12_isLetterWord_15 : decode cX12_isLetterWord 15 = .ok (.aload_n 0, 1) := by decide +kernel
theorem dX12_isLetterWord_16 : decode cX12_isLetterWord 16 = .ok (.getfield 147, 3) := by decide +kernel
theorem dX12_isLetterWord_19 : decode cX12_isLetterWord 19 = .ok (.aload_n 0, 1) := by decide +kernel
theorem dX12_isLetterWord_20 : decode cX12_isLetterWord 20 = .ok (.getfield 132, 3) := by decide +kernel
theorem dX12_isLetterWord_23 : decode cX12_isLetterWord 23 = .ok (.isub, 1) := by decide +kernel
theorem dX12_isLetterWord_24 : decode cX12_isLetterWord 24 = .ok (.iconst 1, 1) := by decide +kernel
theorem dX12_isLetterWord_25 : decode cX12_isLetterWord 25 = .ok (.if_icmp .ne 19, 3) := by decide +kernel
theorem dX12_isLetterWord_28 : decode cX12_isLetterWord 28 = .ok (.aload_n 0, 1) := by decide +kernel
theorem dX12_isLetterWord_29 : decode cX12_isLetterWord 29 = .ok (.aload_n 0, 1) := by decide +kernel
theorem dX12_isLetterWord_30 : decode cX12_isLetterWord 30 = .ok (.getfield 132, 3) := by decide +kernel
theorem dX12_isLetterWord_33 : decode cX12_isLetterWord 33 = .ok (.invokevirtual 128, 3) := by decide +kernel
theorem dX12_isLetterWord_36 : decode cX12_isLetterWord 36 = .ok (.iload_n 1, 1) := by decide +kernel
theorem dX12_isLetterWord_37 : decode cX12_isLetterWord 37 = .ok (.if_icmp .ne 7, 3) := by decide +kernel
theorem dX12_isLetterWord_40 : decode cX12_isLetterWord 40 = .ok (.iconst 1, 1) := by decide +kernel
theorem dX12_isLetterWord_41 : decode cX12_isLetterWord 41 = .ok (.goto 4, 3) := by decide +kernel
theorem dX12_isLetterWord_44 : decode cX12_isLetterWord 44 = .ok (.iconst 0, 1) := by decide +kernel
theorem dX12_isLetterWord_45 : decode cX12_isLetterWord 45 = .ok (.ireturn, 1) := by decide +kernel
theorem dX12_needSign_0 : decode cX12_needSign 0 = .ok (.aload_n 0, 1) := by decide +kernel
theorem dX12_needSign_1 : decode cX12_needSign 1 = .ok (.invokevirtual 121, 3) := by decide +kernel
theorem dX12_needSign_4 : decode cX12_needSign 4 = .ok (.ifCond .eq 19, 3) := by decide +kernel
theorem dX12_needSign_7 : decode cX12_needSign 7 = .ok (.aload_n 0, 1) := by decide +kernel
theorem dX12_needSign_8 : decode cX12_needSign 8 = .ok (.iload_n 1, 1) := by decide +kernel
theorem dX12_needSign_9 : decode cX12_needSign 9 = .ok (.invokevirtual 166, 3) := by decide +kernel
theorem dX12_needSign_12 : decode cX12_needSign 12 = .ok (.ifCond .ne 11, 3) := by decide +kernel
theorem dX12_needSign_15 : decode cX12_needSign 15 = .ok (.aload_n 0, 1) := by decide +kernel
theorem dX12_needSign_16 : decode cX12_needSign 16 = .ok (.aload_n 0, 1) := by decide +kernel
theorem dX12_needSign_17 : decode cX12_needSign 17 = .ok (.getfield 132, 3) := by decide +kernel
theorem dX12_needSign_20 : decode cX12_needSign 20 = .ok (.invokevirtual 150, 3) := by decide +kernel
theorem dX12_needSign_23 : decode cX12_needSign 23 = .ok (.aload_n 0, 1) := by decide +kernel
theorem dX12_needSign_24 : decode cX12_needSign 24 = .ok (.invokevirtual 169, 3) := by decide +kernel
theorem dX12_needSign_27 : decode cX12_needSign 27 = .ok (.return_, 1) := by decide +kernel
theorem dX12_needName_0 : decode cX12_needName 0 = .ok (.aload_n 0, 1) := by decide +kernel
theorem dX12_needName_1 : decode cX12_needName 1 = .ok (.invokevirtual 121, 3) := by decide +kernel
theorem dX12_needName_4 : decode cX12_needName 4 = .ok (.ifCond .eq 27, 3) := by decide +kernel
theorem dX12_needName_7 : decode cX12_needName 7 = .ok (.aload_n 0, 1) := by decide +kernel
theorem dX12_needName_8 : decode cX12_needName 8 = .ok (.getfield 141, 3) := by decide +kernel
theorem dX12_needName_11 : decode cX12_needName 11 = .ok (.iconst 1, 1) := by decide +kernel
theorem dX12_needName_12 : decode cX12_needName 12 = .ok (.if_icmp .ne 11, 3) := by decide +kernel
theorem dX12_needName_15 : decode cX12_needName 15 = .ok (.aload_n 0, 1) := by decide +kernel
theorem dX12_needName_16 : decode cX12_needName 16 = .ok (.invokevirtual 162, 3) := by decide +kernel
theorem dX12_needName_19 : decode cX12_needName 19 = .ok (.iconst (-1), 1) := by decide +kernel
theorem dX12_needName_20 : decode cX12_needName 20 = .ok (.if_icmp .eq 11, 3) := by decide +kernel
theorem dX12_needName_23 : decode cX12_needName 23 = .ok (.aload_n 0, 1) := by decide +kernel
theorem dX12_needName_24 : decode cX12_needName 24 = .ok (.aload_n 0, 1) := by decide +kernel
theorem dX12_needName_25 : decode cX12_needName 25 = .ok (.getfield 132, 3) := by decide +kernel
theorem dX12_needName_28 : decode cX12_needName 28 = .ok (.invokevirtual 150, 3) := by decide +kernel
theorem dX12_needName_31 : decode cX12_needName 31 = .ok (.return_, 1) := by decide +kernel
theorem dX12_needNumber_0 : decode cX12_needNumber 0 = .ok (.aload_n 0, 1) := by decide +kernel
theorem dX12_needNumber_1 : decode cX12_needNumber 1 = .ok (.invokevirtual 121, 3) := by decide +kernel
theorem dX12_needNumber_4 : decode cX12_needNumber 4 = .ok (.ifCond .eq 35, 3) := by decide +kernel
theorem dX12_needNumber_7 : decode cX12_needNumber 7 = .ok (.aload_n 0, 1) := by decide +kernel
theorem dX12_needNumber_8 : decode cX12_needNumber 8 = .ok (.getfield 141, 3) := by decide +kernel
theorem dX12_needNumber_11 : decode cX12_needNumber 11 = .ok (.iconst 2, 1) := by decide +kernel
theorem dX12_needNumber_12 : decode cX12_needNumber 12 = .ok (.if_icmp .ne 19, 3) := by decide +kernel
theorem dX12_needNumber_15 : decode cX12_needNumber 15 = .ok (.aload_n 0, 1) := by decide +kernel
theorem dX12_needNumber_16 : decode cX12_needNumber 16 = .ok (.getfield 144, 3) := by decide +kernel
theorem dX12_needNumber_19 : decode cX12_needNumber 19 = .ok (.iload_n 1, 1) := by decide +kernel
theorem dX12_needNumber_20 : decode cX12_needNumber 20 = .ok (.if_icmp .lt 11, 3) := by decide +kernel
theorem dX12_needNumber_23 : decode cX12_needNumber 23 = .ok (.aload_n 0, 1) := by decide +kernel
theorem dX12_needNumber_24 : decode cX12_needNumber 24 = .ok (.getfield 144, 3) := by decide +kernel
theorem dX12_needNumber_27 : decode cX12_needNumber 27 = .ok (.iload_n 2, 1) := by decide +kernel
theorem dX12_needNumber_28 : decode cX12_needNumber 28 = .ok (.if_icmp .le 11, 3) := by decide +kernel
theorem dX12_needNumber_31 : decode cX12_needNumber 31 = .ok (.aload_n 0, 1) := by decide +kernel
theorem dX12_needNumber_32 : decode cX12_needNumber 32 = .ok (.aload_n 0, 1) := by decide +kernel
theorem dX12_needNumber_33 : decode cX12_needNumber 33 = .ok (.getfield 132, 3) := by decide +kernel
theorem dX12_needNumber_36 : decode cX12_needNumber 36 = .ok (.invokevirtual 150, 3) := by decide +kernel
theorem dX12_needNumber_39 : decode cX12_needNumber 39 = .ok (.return_, 1) := by decide +kernel
theorem dX12_mod_0 : decode cX12_mod 0 = .ok (.bipush 8, 2) := by decide +kernel
theorem dX12_mod_2 : decode cX12_mod 2 = .ok (.aload_n 0, 1) := by decide +kernel
theorem dX12_mod_3 : decode cX12_mod 3 = .ok (.getfield 118, 3) := by decide +kernel
theorem dX12_mod_6 : decode cX12_mod 6 = .ok (.imul, 1) := by decide +kernel
theorem dX12_mod_7 : decode cX12_mod 7 = .ok (.aload_n 0, 1) := by decide +kernel
theorem dX12_mod_8 : decode cX12_mod 8 = .ok (.getfield 172, 3) := by decide +kernel
theorem dX12_mod_11 : decode cX12_mod 11 = .ok (.iadd, 1) := by decide +kernel
theorem dX12_mod_12 : decode cX12_mod 12 = .ok (.ireturn, 1) := by decide +kernel
theorem dX12_netCell_0 : decode cX12_netCell 0 = .ok (.bipush 16, 2) := by decide +kernel
theorem dX12_netCell_2 : decode cX12_netCell 2 = .ok (.aload_n 0, 1) := by decide +kernel
theorem dX12_netCell_3 : decode cX12_netCell 3 = .ok (.invokevirtual 175, 3) := by decide +kernel
theorem dX12_netCell_6 : decode cX12_netCell 6 = .ok (.imul, 1) := by decide +kernel
theorem dX12_netCell_7 : decode cX12_netCell 7 = .ok (.iload_n 1, 1) := by decide +kernel
theorem dX12_netCell_8 : decode cX12_netCell 8 = .ok (.iadd, 1) := by decide +kernel
theorem dX12_netCell_9 : decode cX12_netCell 9 = .ok (.ireturn, 1) := by decide +kernel
theorem dX12_netNamed_0 : decode cX12_netNamed 0 = .ok (.iconst (-1), 1) := by decide +kernel
theorem dX12_netNamed_1 : decode cX12_netNamed 1 = .ok (.istore_n 2, 1) := by decide +kernel
theorem dX12_netNamed_2 : decode cX12_netNamed 2 = .ok (.iconst 0, 1) := by decide +kernel
theorem dX12_netNamed_3 : decode cX12_netNamed 3 = .ok (.istore_n 3, 1) := by decide +kernel
theorem dX12_netNamed_4 : decode cX12_netNamed 4 = .ok (.iload_n 3, 1) := by decide +kernel
theorem dX12_netNamed_5 : decode cX12_netNamed 5 = .ok (.aload_n 0, 1) := by decide +kernel
theorem dX12_netNamed_6 : decode cX12_netNamed 6 = .ok (.getfield 28, 3) := by decide +kernel
theorem dX12_netNamed_9 : decode cX12_netNamed 9 = .ok (.aload_n 0, 1) := by decide +kernel
theorem dX12_netNamed_10 : decode cX12_netNamed 10 = .ok (.invokevirtual 175, 3) := by decide +kernel
theorem dX12_netNamed_13 : decode cX12_netNamed 13 = .ok (.iaload, 1) := by decide +kernel
theorem dX12_netNamed_14 : decode cX12_netNamed 14 = .ok (.if_icmp .ge 33, 3) := by decide +kernel
theorem dX12_netNamed_17 : decode cX12_netNamed 17 = .ok (.aload_n 0, 1) := by decide +kernel
theorem dX12_netNamed_18 : decode cX12_netNamed 18 = .ok (.aload_n 0, 1) := by decide +kernel
theorem dX12_netNamed_19 : decode cX12_netNamed 19 = .ok (.getfield 31, 3) := by decide +kernel
theorem dX12_netNamed_22 : decode cX12_netNamed 22 = .ok (.aload_n 0, 1) := by decide +kernel
theorem dX12_netNamed_23 : decode cX12_netNamed 23 = .ok (.iload_n 3, 1) := by decide +kernel
theorem dX12_netNamed_24 : decode cX12_netNamed 24 = .ok (.invokevirtual 178, 3) := by decide +kernel
theorem dX12_netNamed_27 : decode cX12_netNamed 27 = .ok (.iaload, 1) := by decide +kernel
theorem dX12_netNamed_28 : decode cX12_netNamed 28 = .ok (.iload_n 1, 1) := by decide +kernel
theorem dX12_netNamed_29 : decode cX12_netNamed 29 = .ok (.invokevirtual 181, 3) := by decide +kernel
theorem dX12_netNamed_32 : decode cX12_netNamed 32 = .ok (.ifCond .eq 7, 3) := by decide +kernel
theorem dX12_netNamed_35 : decode cX12_netNamed 35 = .ok (.iload_n 3, 1) := by decide +kernel
theorem dX12_netNamed_36 : decode cX12_netNamed 36 = .ok (.goto 4, 3) := by decide +kernel
theorem dX12_netNamed_39 : decode cX12_netNamed 39 = .ok (.iload_n 2, 1) := by decide +kernel
theorem dX12_netNamed_40 : decode cX12_netNamed 40 = .ok (.istore_n 2, 1) := by decide +kernel
theorem dX12_netNamed_41 : decode cX12_netNamed 41 = .ok (.iinc 3 1, 3) := by decide +kernel
theorem dX12_netNamed_44 : decode cX12_netNamed 44 = .ok (.goto (-40), 3) := by decide +kernel
theorem dX12_netNamed_47 : decode cX12_netNamed 47 = .ok (.iload_n 2, 1) := by decide +kernel
theorem dX12_netNamed_48 : decode cX12_netNamed 48 = .ok (.ireturn, 1) := by decide +kernel
theorem dX12_addNet_0 : decode cX12_addNet 0 = .ok (.aload_n 0, 1) := by decide +kernel
theorem dX12_addNet_1 : decode cX12_addNet 1 = .ok (.getfield 28, 3) := by decide +kernel
theorem dX12_addNet_4 : decode cX12_addNet 4 = .ok (.aload_n 0, 1) := by decide +kernel
theorem dX12_addNet_5 : decode cX12_addNet 5 = .ok (.invokevirtual 175, 3) := by decide +kernel
theorem dX12_addNet_8 : decode cX12_addNet 8 = .ok (.iaload, 1) := by decide +kernel
theorem dX12_addNet_9 : decode cX12_addNet 9 = .ok (.istore 4, 2) := by decide +kernel
theorem dX12_addNet_11 : decode cX12_addNet 11 = .ok (.aload_n 0, 1) := by decide +kernel
theorem dX12_addNet_12 : decode cX12_addNet 12 = .ok (.getfield 31, 3) := by decide +kernel
theorem dX12_addNet_15 : decode cX12_addNet 15 = .ok (.aload_n 0, 1) := by decide +kernel
theorem dX12_addNet_16 : decode cX12_addNet 16 = .ok (.iload 4, 2) := by decide +kernel
theorem dX12_addNet_18 : decode cX12_addNet 18 = .ok (.invokevirtual 178, 3) := by decide +kernel
theorem dX12_addNet_21 : decode cX12_addNet 21 = .ok (.aload_n 0, 1) := by decide +kernel
theorem dX12_addNet_22 : decode cX12_addNet 22 = .ok (.getfield 132, 3) := by decide +kernel
theorem dX12_addNet_25 : decode cX12_addNet 25 = .ok (.iastore, 1) := by decide +kernel
theorem dX12_addNet_26 : decode cX12_addNet 26 = .ok (.aload_n 0, 1) := by decide +kernel
theorem dX12_addNet_27 : decode cX12_addNet 27 = .ok (.getfield 34, 3) := by decide +kernel
theorem dX12_addNet_30 : decode cX12_addNet 30 = .ok (.aload_n 0, 1) := by decide +kernel
theorem dX12_addNet_31 : decode cX12_addNet 31 = .ok (.iload 4, 2) := by decide +kernel
theorem dX12_addNet_33 : decode cX12_addNet 33 = .ok (.invokevirtual 178, 3) := by decide +kernel
theorem dX12_addNet_36 : decode cX12_addNet 36 = .ok (.iload_n 1, 1) := by decide +kernel
theorem dX12_addNet_37 : decode cX12_addNet 37 = .ok (.iastore, 1) := by decide +kernel
theorem dX12_addNet_38 : decode cX12_addNet 38 = .ok (.aload_n 0, 1) := by decide +kernel
theorem dX12_addNet_39 : decode cX12_addNet 39 = .ok (.getfield 37, 3) := by decide +kernel
theorem dX12_addNet_42 : decode cX12_addNet 42 = .ok (.aload_n 0, 1) := by decide +kernel
theorem dX12_addNet_43 : decode cX12_addNet 43 = .ok (.iload 4, 2) := by decide +kernel
theorem dX12_addNet_45 : decode cX12_addNet 45 = .ok (.invokevirtual 178, 3) := by decide +kernel
theorem dX12_addNet_48 : decode cX12_addNet 48 = .ok (.iload_n 2, 1) := by decide +kernel
theorem dX12_addNet_49 : decode cX12_addNet 49 = .ok (.iastore, 1) := by decide +kernel
theorem dX12_addNet_50 : decode cX12_addNet 50 = .ok (.aload_n 0, 1) := by decide +kernel
theorem dX12_addNet_51 : decode cX12_addNet 51 = .ok (.getfield 43, 3) := by decide +kernel
theorem dX12_addNet_54 : decode cX12_addNet 54 = .ok (.aload_n 0, 1) := by decide +kernel
theorem dX12_addNet_55 : decode cX12_addNet 55 = .ok (.iload 4, 2) := by decide +kernel
theorem dX12_addNet_57 : decode cX12_addNet 57 = .ok (.invokevirtual 178, 3) := by decide +kernel
theorem dX12_addNet_60 : decode cX12_addNet 60 = .ok (.iload_n 3, 1) := by decide +kernel
theorem dX12_addNet_61 : decode cX12_addNet 61 = .ok (.bastore, 1) := by decide +kernel
theorem dX12_addNet_62 : decode cX12_addNet 62 = .ok (.aload_n 0, 1) := by decide +kernel
theorem dX12_addNet_63 : decode cX12_addNet 63 = .ok (.getfield 28, 3) := by decide +kernel
theorem dX12_addNet_66 : decode cX12_addNet 66 = .ok (.aload_n 0, 1) := by decide +kernel
theorem dX12_addNet_67 : decode cX12_addNet 67 = .ok (.invokevirtual 175, 3) := by decide +kernel
theorem dX12_addNet_70 : decode cX12_addNet 70 = .ok (.dup2, 1) := by decide +kernel
theorem dX12_addNet_71 : decode cX12_addNet 71 = .ok (.iaload, 1) := by decide +kernel
theorem dX12_addNet_72 : decode cX12_addNet 72 = .ok (.iconst 1, 1) := by decide +kernel
theorem dX12_addNet_73 : decode cX12_addNet 73 = .ok (.iadd, 1) := by decide +kernel
theorem dX12_addNet_74 : decode cX12_addNet 74 = .ok (.iastore, 1) := by decide +kernel
theorem dX12_addNet_75 : decode cX12_addNet 75 = .ok (.return_, 1) := by decide +kernel
theorem dX12_takePort_0 : decode cX12_takePort 0 = .ok (.aload_n 0, 1) := by decide +kernel
theorem dX12_takePort_1 : decode cX12_takePort 1 = .ok (.invokevirtual 185, 3) := by decide +kernel
theorem dX12_takePort_4 : decode cX12_takePort 4 = .ok (.aload_n 0, 1) := by decide +kernel
theorem dX12_takePort_5 : decode cX12_takePort 5 = .ok (.invokevirtual 121, 3) := by decide +kernel
theorem dX12_takePort_8 : decode cX12_takePort 8 = .ok (.ifCond .eq 37, 3) := by decide +kernel
theorem dX12_takePort_11 : decode cX12_takePort 11 = .ok (.aload_n 0, 1) := by decide +kernel
theorem dX12_takePort_12 : decode cX12_takePort 12 = .ok (.getfield 28, 3) := by decide +kernel
theorem dX12_takePort_15 : decode cX12_takePort 15 = .ok (.aload_n 0, 1) := by decide +kernel
theorem dX12_takePort_16 : decode cX12_takePort 16 = .ok (.invokevirtual 175, 3) := by decide +kernel
theorem dX12_takePort_19 : decode cX12_takePort 19 = .ok (.iaload, 1) := by decide +kernel
theorem dX12_takePort_20 : decode cX12_takePort 20 = .ok (.bipush 16, 2) := by decide +kernel
theorem dX12_takePort_22 : decode cX12_takePort 22 = .ok (.if_icmp .eq 15, 3) := by decide +kernel
theorem dX12_takePort_25 : decode cX12_takePort 25 = .ok (.aload_n 0, 1) := by decide +kernel
theorem dX12_takePort_26 : decode cX12_takePort 26 = .ok (.aload_n 0, 1) := by decide +kernel
theorem dX12_takePort_27 : decode cX12_takePort 27 = .ok (.getfield 132, 3) := by decide +kernel
theorem dX12_takePort_30 : decode cX12_takePort 30 = .ok (.invokevirtual 188, 3) := by decide +kernel
theorem dX12_takePort_33 : decode cX12_takePort 33 = .ok (.iconst (-1), 1) := by decide +kernel
theorem dX12_takePort_34 : decode cX12_takePort 34 = .ok (.if_icmp .eq 11, 3) := by decide +kernel
theorem dX12_takePort_37 : decode cX12_takePort 37 = .ok (.aload_n 0, 1) := by decide +kernel
theorem dX12_takePort_38 : decode cX12_takePort 38 = .ok (.aload_n 0, 1) := by decide +kernel
theorem dX12_takePort_39 : decode cX12_takePort 39 = .ok (.getfield 132, 3) := by decide +kernel
theorem dX12_takePort_42 : decode cX12_takePort 42 = .ok (.invokevirtual 150, 3) := by decide +kernel
theorem dX12_takePort_45 : decode cX12_takePort 45 = .ok (.aload_n 0, 1) := by decide +kernel
theorem dX12_takePort_46 : decode cX12_takePort 46 = .ok (.invokevirtual 121, 3) := by decide +kernel
theorem dX12_takePort_49 : decode cX12_takePort 49 = .ok (.ifCond .eq 23, 3) := by decide +kernel
theorem dX12_takePort_52 : decode cX12_takePort 52 = .ok (.aload_n 0, 1) := by decide +kernel
theorem dX12_takePort_53 : decode cX12_takePort 53 = .ok (.iconst 0, 1) := by decide +kernel
theorem dX12_takePort_54 : decode cX12_takePort 54 = .ok (.iconst 0, 1) := by decide +kernel
theorem dX12_takePort_55 : decode cX12_takePort 55 = .ok (.iconst 0, 1) := by decide +kernel
theorem dX12_takePort_56 : decode cX12_takePort 56 = .ok (.invokevirtual 191, 3) := by decide +kernel
theorem dX12_takePort_59 : decode cX12_takePort 59 = .ok (.aload_n 0, 1) := by decide +kernel
theorem dX12_takePort_60 : decode cX12_takePort 60 = .ok (.getfield 25, 3) := by decide +kernel
theorem dX12_takePort_63 : decode cX12_takePort 63 = .ok (.aload_n 0, 1) := by decide +kernel
theorem dX12_takePort_64 : decode cX12_takePort 64 = .ok (.invokevirtual 175, 3) := by decide +kernel
theorem dX12_takePort_67 : decode cX12_takePort 67 = .ok (.dup2, 1) := by decide +kernel
theorem dX12_takePort_68 : decode cX12_takePort 68 = .ok (.iaload, 1) := by decide +kernel
theorem dX12_takePort_69 : decode cX12_takePort 69 = .ok (.iconst 1, 1) := by decide +kernel
theorem dX12_takePort_70 : decode cX12_takePort 70 = .ok (.iadd, 1) := by decide +kernel
theorem dX12_takePort_71 : decode cX12_takePort 71 = .ok (.iastore, 1) := by decide +kernel
theorem dX12_takePort_72 : decode cX12_takePort 72 = .ok (.aload_n 0, 1) := by decide +kernel
theorem dX12_takePort_73 : decode cX12_takePort 73 = .ok (.invokevirtual 169, 3) := by decide +kernel
theorem dX12_takePort_76 : decode cX12_takePort 76 = .ok (.return_, 1) := by decide +kernel
theorem dX12_takeLongNet_0 : decode cX12_takeLongNet 0 = .ok (.aload_n 0, 1) := by decide +kernel
theorem dX12_takeLongNet_1 : decode cX12_takeLongNet 1 = .ok (.invokevirtual 185, 3) := by decide +kernel
theorem dX12_takeLongNet_4 : decode cX12_takeLongNet 4 = .ok (.aload_n 0, 1) := by decide +kernel
theorem dX12_takeLongNet_5 : decode cX12_takeLongNet 5 = .ok (.invokevirtual 121, 3) := by decide +kernel
theorem dX12_takeLongNet_8 : decode cX12_takeLongNet 8 = .ok (.ifCond .eq 14, 3) := by decide +kernel
theorem dX12_takeLongNet_11 : decode cX12_takeLongNet 11 = .ok (.aload_n 0, 1) := by decide +kernel
theorem dX12_takeLongNet_12 : decode cX12_takeLongNet 12 = .ok (.aload_n 0, 1) := by decide +kernel
theorem dX12_takeLongNet_13 : decode cX12_takeLongNet 13 = .ok (.getfield 132, 3) := by decide +kernel
theorem dX12_takeLongNet_16 : decode cX12_takeLongNet 16 = .ok (.invokevirtual 188, 3) := by decide +kernel
theorem dX12_takeLongNet_19 : decode cX12_takeLongNet 19 = .ok (.goto 4, 3) := by decide +kernel
theorem dX12_takeLongNet_22 : decode cX12_takeLongNet 22 = .ok (.iconst (-1), 1) := by decide +kernel
theorem dX12_takeLongNet_23 : decode cX12_takeLongNet 23 = .ok (.istore_n 3, 1) := by decide +kernel
theorem dX12_takeLongNet_24 : decode cX12_takeLongNet 24 = .ok (.aload_n 0, 1) := by decide +kernel
theorem dX12_takeLongNet_25 : decode cX12_takeLongNet 25 = .ok (.invokevirtual 121, 3) := by decide +kernel
theorem dX12_takeLongNet_28 : decode cX12_takeLongNet 28 = .ok (.ifCond .eq 86, 3) := by decide +kernel
theorem dX12_takeLongNet_31 : decode cX12_takeLongNet 31 = .ok (.iload_n 1, 1) := by decide +kernel
theorem dX12_takeLongNet_32 : decode cX12_takeLongNet 32 = .ok (.iconst 2, 1) := by decide +kernel
theorem dX12_takeLongNet_33 : decode cX12_takeLongNet 33 = .ok (.if_icmp .ge 81, 3) := by decide +kernel
theorem dX12_takeLongNet_36 : decode cX12_takeLongNet 36 = .ok (.iload_n 3, 1) := by decide +kernel
theorem dX12_takeLongNet_37 : decode cX12_takeLongNet 37 = .ok (.iconst (-1), 1) := by decide +kernel
theorem dX12_takeLongNet_38 : decode cX12_takeLongNet 38 = .ok (.if_icmp .eq 29, 3) := by decide +kernel
theorem dX12_takeLongNet_41 : decode cX12_takeLongNet 41 = .ok (.iload_n 3, 1) := by decide +kernel
theorem dX12_takeLongNet_42 : decode cX12_takeLongNet 42 = .ok (.aload_n 0, 1) := by decide +kernel
theorem dX12_takeLongNet_43 : decode cX12_takeLongNet 43 = .ok (.getfield 25, 3) := by decide +kernel
theorem dX12_takeLongNet_46 : decode cX12_takeLongNet 46 = .ok (.aload_n 0, 1) := by decide +kernel
theorem dX12_takeLongNet_47 : decode cX12_takeLongNet 47 = .ok (.invokevirtual 175, 3) := by decide +kernel
theorem dX12_takeLongNet_50 : decode cX12_takeLongNet 50 = .ok (.iaload, 1) := by decide +kernel
theorem dX12_takeLongNet_51 : decode cX12_takeLongNet 51 = .ok (.if_icmp .ge 16, 3) := by decide +kernel
theorem dX12_takeLongNet_54 : decode cX12_takeLongNet 54 = .ok (.aload_n 0, 1) := by decide +kernel
theorem dX12_takeLongNet_55 : decode cX12_takeLongNet 55 = .ok (.getfield 43, 3) := by decide +kernel
theorem dX12_takeLongNet_58 : decode cX12_takeLongNet 58 = .ok (.aload_n 0, 1) := by decide +kernel
theorem dX12_takeLongNet_59 : decode cX12_takeLongNet 59 = .ok (.iload_n 3, 1) := by decide +kernel
theorem dX12_takeLongNet_60 : decode cX12_takeLongNet 60 = .ok (.invokevirtual 178, 3) := by decide +kernel
theorem dX12_takeLongNet_63 : decode cX12_takeLongNet 63 = .ok (.baload, 1) := by decide +kernel
theorem dX12_takeLongNet_64 : decode cX12_takeLongNet 64 = .ok (.ifCond .eq 14, 3) := by decide +kernel
theorem dX12_takeLongNet_67 : decode cX12_takeLongNet 67 = .ok (.aload_n 0, 1) := by decide +kernel
theorem dX12_takeLongNet_68 : decode cX12_takeLongNet 68 = .ok (.aload_n 0, 1) := by decide +kernel
theorem dX12_takeLongNet_69 : decode cX12_takeLongNet 69 = .ok (.getfield 132, 3) := by decide +kernel
theorem dX12_takeLongNet_72 : decode cX12_takeLongNet 72 = .ok (.invokevirtual 150, 3) := by decide +kernel
theorem dX12_takeLongNet_75 : decode cX12_takeLongNet 75 = .ok (.goto 83, 3) := by decide +kernel
theorem dX12_takeLongNet_78 : decode cX12_takeLongNet 78 = .ok (.aload_n 0, 1) := by decide +kernel
theorem dX12_takeLongNet_79 : decode cX12_takeLongNet 79 = .ok (.getfield 34, 3) := by decide +kernel
theorem dX12_takeLongNet_82 : decode cX12_takeLongNet 82 = .ok (.aload_n 0, 1) := by decide +kernel
theorem dX12_takeLongNet_83 : decode cX12_takeLongNet 83 = .ok (.iload_n 3, 1) := by decide +kernel
theorem dX12_takeLongNet_84 : decode cX12_takeLongNet 84 = .ok (.invokevirtual 178, 3) := by decide +kernel
theorem dX12_takeLongNet_87 : decode cX12_takeLongNet 87 = .ok (.iload_n 1, 1) := by decide +kernel
theorem dX12_takeLongNet_88 : decode cX12_takeLongNet 88 = .ok (.iastore, 1) := by decide +kernel
theorem dX12_takeLongNet_89 : decode cX12_takeLongNet 89 = .ok (.aload_n 0, 1) := by decide +kernel
theorem dX12_takeLongNet_90 : decode cX12_takeLongNet 90 = .ok (.getfield 37, 3) := by decide +kernel
theorem dX12_takeLongNet_93 : decode cX12_takeLongNet 93 = .ok (.aload_n 0, 1) := by decide +kernel
theorem dX12_takeLongNet_94 : decode cX12_takeLongNet 94 = .ok (.iload_n 3, 1) := by decide +kernel
theorem dX12_takeLongNet_95 : decode cX12_takeLongNet 95 = .ok (.invokevirtual 178, 3) := by decide +kernel
theorem dX12_takeLongNet_98 : decode cX12_takeLongNet 98 = .ok (.iload_n 2, 1) := by decide +kernel
theorem dX12_takeLongNet_99 : decode cX12_takeLongNet 99 = .ok (.iastore, 1) := by decide +kernel
theorem dX12_takeLongNet_100 : decode cX12_takeLongNet 100 = .ok (.aload_n 0, 1) := by decide +kernel
theorem dX12_takeLongNet_101 : decode cX12_takeLongNet 101 = .ok (.getfield 43, 3) := by decide +kernel
theorem dX12_takeLongNet_104 : decode cX12_takeLongNet 104 = .ok (.aload_n 0, 1) := by decide +kernel
theorem dX12_takeLongNet_105 : decode cX12_takeLongNet 105 = .ok (.iload_n 3, 1) := by decide +kernel
theorem dX12_takeLongNet_106 : decode cX12_takeLongNet 106 = .ok (.invokevirtual 178, 3) := by decide +kernel
theorem dX12_takeLongNet_109 : decode cX12_takeLongNet 109 = .ok (.iconst 1, 1) := by decide +kernel
theorem dX12_takeLongNet_110 : decode cX12_takeLongNet 110 = .ok (.bastore, 1) := by decide +kernel
theorem dX12_takeLongNet_111 : decode cX12_takeLongNet 111 = .ok (.goto 47, 3) := by decide +kernel
theorem dX12_takeLongNet_114 : decode cX12_takeLongNet 114 = .ok (.aload_n 0, 1) := by decide +kernel
theorem dX12_takeLongNet_115 : decode cX12_takeLongNet 115 = .ok (.invokevirtual 121, 3) := by decide +kernel
theorem dX12_takeLongNet_118 : decode cX12_takeLongNet 118 = .ok (.ifCond .eq 40, 3) := by decide +kernel
theorem dX12_takeLongNet_121 : decode cX12_takeLongNet 121 = .ok (.iload_n 3, 1) := by decide +kernel
theorem dX12_takeLongNet_122 : decode cX12_takeLongNet 122 = .ok (.iconst (-1), 1) := by decide +kernel
theorem dX12_takeLongNet_123 : decode cX12_takeLongNet 123 = .ok (.if_icmp .ne 17, 3) := by decide +kernel
theorem dX12_takeLongNet_126 : decode cX12_takeLongNet 126 = .ok (.aload_n 0, 1) := by decide +kernel
theorem dX12_takeLongNet_127 : decode cX12_takeLongNet 127 = .ok (.getfield 28, 3) := by decide +kernel
theorem dX12_takeLongNet_130 : decode cX12_takeLongNet 130 = .ok (.aload_n 0, 1) := by decide +kernel
theorem dX12_takeLongNet_131 : decode cX12_takeLongNet 131 = .ok (.invokevirtual 175, 3) := by decide +kernel
theorem dX12_takeLongNet_134 : decode cX12_takeLongNet 134 = .ok (.iaload, 1) := by decide +kernel
theorem dX12_takeLongNet_135 : decode cX12_takeLongNet 135 = .ok (.bipush 16, 2) := by decide +kernel
theorem dX12_takeLongNet_137 : decode cX12_takeLongNet 137 = .ok (.if_icmp .ne 14, 3) := by decide +kernel
theorem dX12_takeLongNet_140 : decode cX12_takeLongNet 140 = .ok (.aload_n 0, 1) := by decide +kernel
theorem dX12_takeLongNet_141 : decode cX12_takeLongNet 141 = .ok (.aload_n 0, 1) := by decide +kernel
theorem dX12_takeLongNet_142 : decode cX12_takeLongNet 142 = .ok (.getfield 132, 3) := by decide +kernel
theorem dX12_takeLongNet_145 : decode cX12_takeLongNet 145 = .ok (.invokevirtual 150, 3) := by decide +kernel
theorem dX12_takeLongNet_148 : decode cX12_takeLongNet 148 = .ok (.goto 10, 3) := by decide +kernel
theorem dX12_takeLongNet_151 : decode cX12_takeLongNet 151 = .ok (.aload_n 0, 1) := by decide +kernel
theorem dX12_takeLongNet_152 : decode cX12_takeLongNet 152 = .ok (.iload_n 1, 1) := by decide +kernel
theorem dX12_takeLongNet_153 : decode cX12_takeLongNet 153 = .ok (.iload_n 2, 1) := by decide +kernel
theorem dX12_takeLongNet_154 : decode cX12_takeLongNet 154 = .ok (.iconst 1, 1) := by decide +kernel
theorem dX12_takeLongNet_155 : decode cX12_takeLongNet 155 = .ok (.invokevirtual 191, 3) := by decide +kernel
theorem dX12_takeLongNet_158 : decode cX12_takeLongNet 158 = .ok (.aload_n 0, 1) := by decide +kernel
theorem dX12_takeLongNet_159 : decode cX12_takeLongNet 159 = .ok (.invokevirtual 169, 3) := by decide +kernel
theorem dX12_takeLongNet_162 : decode cX12_takeLongNet 162 = .ok (.return_, 1) := by decide +kernel
theorem dX12_longNets_0 : decode cX12_longNets 0 = .ok (.aload_n 0, 1) := by decide +kernel
theorem dX12_longNets_1 : decode cX12_longNets 1 = .ok (.invokevirtual 169, 3) := by decide +kernel
theorem dX12_longNets_4 : decode cX12_longNets 4 = .ok (.iconst 1, 1) := by decide +kernel
theorem dX12_longNets_5 : decode cX12_longNets 5 = .ok (.istore_n 2, 1) := by decide +kernel
theorem dX12_longNets_6 : decode cX12_longNets 6 = .ok (.aload_n 0, 1) := by decide +kernel
theorem dX12_longNets_7 : decode cX12_longNets 7 = .ok (.bipush 91, 2) := by decide +kernel
theorem dX12_longNets_9 : decode cX12_longNets 9 = .ok (.invokevirtual 166, 3) := by decide +kernel
theorem dX12_longNets_12 : decode cX12_longNets 12 = .ok (.ifCond .eq 47, 3) := by decide +kernel
theorem dX12_longNets_15 : decode cX12_longNets 15 = .ok (.aload_n 0, 1) := by decide +kernel
theorem dX12_longNets_16 : decode cX12_longNets 16 = .ok (.invokevirtual 169, 3) := by decide +kernel
theorem dX12_longNets_19 : decode cX12_longNets 19 = .ok (.aload_n 0, 1) := by decide +kernel
theorem dX12_longNets_20 : decode cX12_longNets 20 = .ok (.iconst 0, 1) := by decide +kernel
theorem dX12_longNets_21 : decode cX12_longNets 21 = .ok (.bipush 7, 2) := by decide +kernel
theorem dX12_longNets_23 : decode cX12_longNets 23 = .ok (.invokevirtual 195, 3) := by decide +kernel
theorem dX12_longNets_26 : decode cX12_longNets 26 = .ok (.aload_n 0, 1) := by decide +kernel
theorem dX12_longNets_27 : decode cX12_longNets 27 = .ok (.getfield 144, 3) := by decide +kernel
theorem dX12_longNets_30 : decode cX12_longNets 30 = .ok (.iconst 1, 1) := by decide +kernel
theorem dX12_longNets_31 : decode cX12_longNets 31 = .ok (.iadd, 1) := by decide +kernel
theorem dX12_longNets_32 : decode cX12_longNets 32 = .ok (.istore_n 2, 1) := by decide +kernel
theorem dX12_longNets_33 : decode cX12_longNets 33 = .ok (.aload_n 0, 1) := by decide +kernel
theorem dX12_longNets_34 : decode cX12_longNets 34 = .ok (.invokevirtual 169, 3) := by decide +kernel
theorem dX12_longNets_37 : decode cX12_longNets 37 = .ok (.aload_n 0, 1) := by decide +kernel
theorem dX12_longNets_38 : decode cX12_longNets 38 = .ok (.bipush 58, 2) := by decide +kernel
theorem dX12_longNets_40 : decode cX12_longNets 40 = .ok (.invokevirtual 199, 3) := by decide +kernel
theorem dX12_longNets_43 : decode cX12_longNets 43 = .ok (.aload_n 0, 1) := by decide +kernel
theorem dX12_longNets_44 : decode cX12_longNets 44 = .ok (.iconst 0, 1) := by decide +kernel
theorem dX12_longNets_45 : decode cX12_longNets 45 = .ok (.iconst 0, 1) := by decide +kernel
theorem dX12_longNets_46 : decode cX12_longNets 46 = .ok (.invokevirtual 195, 3) := by decide +kernel
theorem dX12_longNets_49 : decode cX12_longNets 49 = .ok (.aload_n 0, 1) := by decide +kernel
theorem dX12_longNets_50 : decode cX12_longNets 50 = .ok (.invokevirtual 169, 3) := by decide +kernel
theorem dX12_longNets_53 : decode cX12_longNets 53 = .ok (.aload_n 0, 1) := by decide +kernel
theorem dX12_longNets_54 : decode cX12_longNets 54 = .ok (.bipush 93, 2) := by decide +kernel
theorem dX12_longNets_56 : decode cX12_longNets 56 = .ok (.invokevirtual 199, 3) := by decide +kernel
theorem dX12_longNets_59 : decode cX12_longNets 59 = .ok (.iconst 1, 1) := by decide +kernel
theorem dX12_longNets_60 : decode cX12_longNets 60 = .ok (.istore_n 3, 1) := by decide +kernel
theorem dX12_longNets_61 : decode cX12_longNets 61 = .ok (.iload_n 3, 1) := by decide +kernel
theorem dX12_longNets_62 : decode cX12_longNets 62 = .ok (.ifCond .eq 34, 3) := by decide +kernel
theorem dX12_longNets_65 : decode cX12_longNets 65 = .ok (.aload_n 0, 1) := by decide +kernel
theorem dX12_longNets_66 : decode cX12_longNets 66 = .ok (.invokevirtual 121, 3) := by decide +kernel
theorem dX12_longNets_69 : decode cX12_longNets 69 = .ok (.ifCond .eq 27, 3) := by decide +kernel
theorem dX12_longNets_72 : decode cX12_longNets 72 = .ok (.aload_n 0, 1) := by decide +kernel
theorem dX12_longNets_73 : decode cX12_longNets 73 = .ok (.iload_n 1, 1) := by decide +kernel
theorem dX12_longNets_74 : decode cX12_longNets 74 = .ok (.iload_n 2, 1) := by decide +kernel
theorem dX12_longNets_75 : decode cX12_longNets 75 = .ok (.invokevirtual 202, 3) := by decide +kernel
theorem dX12_longNets_78 : decode cX12_longNets 78 = .ok (.aload_n 0, 1) := by decide +kernel
theorem dX12_longNets_79 : decode cX12_longNets 79 = .ok (.bipush 44, 2) := by decide +kernel
theorem dX12_longNets_81 : decode cX12_longNets 81 = .ok (.invokevirtual 166, 3) := by decide +kernel
theorem dX12_longNets_84 : decode cX12_longNets 84 = .ok (.istore_n 3, 1) := by decide +kernel
theorem dX12_longNets_85 : decode cX12_longNets 85 = .ok (.iload_n 3, 1) := by decide +kernel
theorem dX12_longNets_86 : decode cX12_longNets 86 = .ok (.ifCond .eq (-25), 3) := by decide +kernel
theorem dX12_longNets_89 : decode cX12_longNets 89 = .ok (.aload_n 0, 1) := by decide +kernel
theorem dX12_longNets_90 : decode cX12_longNets 90 = .ok (.invokevirtual 169, 3) := by decide +kernel
theorem dX12_longNets_93 : decode cX12_longNets 93 = .ok (.goto (-32), 3) := by decide +kernel
theorem dX12_longNets_96 : decode cX12_longNets 96 = .ok (.aload_n 0, 1) := by decide +kernel
theorem dX12_longNets_97 : decode cX12_longNets 97 = .ok (.bipush 59, 2) := by decide +kernel
theorem dX12_longNets_99 : decode cX12_longNets 99 = .ok (.invokevirtual 199, 3) := by decide +kernel
theorem dX12_longNets_102 : decode cX12_longNets 102 = .ok (.return_, 1) := by decide +kernel
theorem dX12_addRef_0 : decode cX12_addRef 0 = .ok (.sipush 512, 3) := by decide +kernel
theorem dX12_addRef_3 : decode cX12_addRef 3 = .ok (.aload_n 0, 1) := by decide +kernel
theorem dX12_addRef_4 : decode cX12_addRef 4 = .ok (.getfield 118, 3) := by decide +kernel
theorem dX12_addRef_7 : decode cX12_addRef 7 = .ok (.imul, 1) := by decide +kernel
theorem dX12_addRef_8 : decode cX12_addRef 8 = .ok (.aload_n 0, 1) := by decide +kernel
theorem dX12_addRef_9 : decode cX12_addRef 9 = .ok (.getfield 47, 3) := by decide +kernel
theorem dX12_addRef_12 : decode cX12_addRef 12 = .ok (.aload_n 0, 1) := by decide +kernel
theorem dX12_addRef_13 : decode cX12_addRef 13 = .ok (.getfield 118, 3) := by decide +kernel
theorem dX12_addRef_16 : decode cX12_addRef 16 = .ok (.iaload, 1) := by decide +kernel
theorem dX12_addRef_17 : decode cX12_addRef 17 = .ok (.iadd, 1) := by decide +kernel
theorem dX12_addRef_18 : decode cX12_addRef 18 = .ok (.istore 6, 2) := by decide +kernel
theorem dX12_addRef_20 : decode cX12_addRef 20 = .ok (.aload_n 0, 1) := by decide +kernel
theorem dX12_addRef_21 : decode cX12_addRef 21 = .ok (.getfield 53, 3) := by decide +kernel
theorem dX12_addRef_24 : decode cX12_addRef 24 = .ok (.iload 6, 2) := by decide +kernel
theorem dX12_addRef_26 : decode cX12_addRef 26 = .ok (.iload_n 1, 1) := by decide +kernel
theorem dX12_addRef_27 : decode cX12_addRef 27 = .ok (.iastore, 1) := by decide +kernel
theorem dX12_addRef_28 : decode cX12_addRef 28 = .ok (.aload_n 0, 1) := by decide +kernel
theorem dX12_addRef_29 : decode cX12_addRef 29 = .ok (.getfield 50, 3) := by decide +kernel
theorem dX12_addRef_32 : decode cX12_addRef 32 = .ok (.iload 6, 2) := by decide +kernel
theorem dX12_addRef_34 : decode cX12_addRef 34 = .ok (.iload_n 2, 1) := by decide +kernel
theorem dX12_addRef_35 : decode cX12_addRef 35 = .ok (.iastore, 1) := by decide +kernel
theorem dX12_addRef_36 : decode cX12_addRef 36 = .ok (.aload_n 0, 1) := by decide +kernel
theorem dX12_addRef_37 : decode cX12_addRef 37 = .ok (.getfield 56, 3) := by decide +kernel
theorem dX12_addRef_40 : decode cX12_addRef 40 = .ok (.iload 6, 2) := by decide +kernel
theorem dX12_addRef_42 : decode cX12_addRef 42 = .ok (.iload_n 3, 1) := by decide +kernel
theorem dX12_addRef_43 : decode cX12_addRef 43 = .ok (.iastore, 1) := by decide +kernel
theorem dX12_addRef_44 : decode cX12_addRef 44 = .ok (.aload_n 0, 1) := by decide +kernel
theorem dX12_addRef_45 : decode cX12_addRef 45 = .ok (.getfield 59, 3) := by decide +kernel
theorem dX12_addRef_48 : decode cX12_addRef 48 = .ok (.iload 6, 2) := by decide +kernel
theorem dX12_addRef_50 : decode cX12_addRef 50 = .ok (.iload 4, 2) := by decide +kernel
theorem dX12_addRef_52 : decode cX12_addRef 52 = .ok (.iastore, 1) := by decide +kernel
theorem dX12_addRef_53 : decode cX12_addRef 53 = .ok (.aload_n 0, 1) := by decide +kernel
theorem dX12_addRef_54 : decode cX12_addRef 54 = .ok (.getfield 62, 3) := by decide +kernel
theorem dX12_addRef_57 : decode cX12_addRef 57 = .ok (.iload 6, 2) := by decide +kernel
theorem dX12_addRef_59 : decode cX12_addRef 59 = .ok (.iload 5, 2) := by decide +kernel
theorem dX12_addRef_61 : decode cX12_addRef 61 = .ok (.iastore, 1) := by decide +kernel
theorem dX12_addRef_62 : decode cX12_addRef 62 = .ok (.aload_n 0, 1) := by decide +kernel
theorem dX12_addRef_63 : decode cX12_addRef 63 = .ok (.getfield 47, 3) := by decide +kernel
theorem dX12_addRef_66 : decode cX12_addRef 66 = .ok (.aload_n 0, 1) := by decide +kernel
theorem dX12_addRef_67 : decode cX12_addRef 67 = .ok (.getfield 118, 3) := by decide +kernel
theorem dX12_addRef_70 : decode cX12_addRef 70 = .ok (.dup2, 1) := by decide +kernel
theorem dX12_addRef_71 : decode cX12_addRef 71 = .ok (.iaload, 1) := by decide +kernel
theorem dX12_addRef_72 : decode cX12_addRef 72 = .ok (.iconst 1, 1) := by decide +kernel
theorem dX12_addRef_73 : decode cX12_addRef 73 = .ok (.iadd, 1) := by decide +kernel
theorem dX12_addRef_74 : decode cX12_addRef 74 = .ok (.iastore, 1) := by decide +kernel
theorem dX12_addRef_75 : decode cX12_addRef 75 = .ok (.iload 6, 2) := by decide +kernel
theorem dX12_addRef_77 : decode cX12_addRef 77 = .ok (.ireturn, 1) := by decide +kernel
theorem dX12_takeDigits_0 : decode cX12_takeDigits 0 = .ok (.aload_n 0, 1) := by decide +kernel
theorem dX12_takeDigits_1 : decode cX12_takeDigits 1 = .ok (.getfield 147, 3) := by decide +kernel
theorem dX12_takeDigits_4 : decode cX12_takeDigits 4 = .ok (.aload_n 0, 1) := by decide +kernel
theorem dX12_takeDigits_5 : decode cX12_takeDigits 5 = .ok (.getfield 132, 3) := by decide +kernel
theorem dX12_takeDigits_8 : decode cX12_takeDigits 8 = .ok (.isub, 1) := by decide +kernel
theorem dX12_takeDigits_9 : decode cX12_takeDigits 9 = .ok (.iconst 1, 1) := by decide +kernel
theorem dX12_takeDigits_10 : decode cX12_takeDigits 10 = .ok (.isub, 1) := by decide +kernel
theorem dX12_takeDigits_11 : decode cX12_takeDigits 11 = .ok (.istore_n 2, 1) := by decide +kernel
theorem dX12_takeDigits_12 : decode cX12_takeDigits 12 = .ok (.aload_n 0, 1) := by decide +kernel
theorem dX12_takeDigits_13 : decode cX12_takeDigits 13 = .ok (.getfield 141, 3) := by decide +kernel
theorem dX12_takeDigits_16 : decode cX12_takeDigits 16 = .ok (.iconst 1, 1) := by decide +kernel
theorem dX12_takeDigits_17 : decode cX12_takeDigits 17 = .ok (.if_icmp .ne 34, 3) := by decide +kernel
theorem dX12_takeDigits_20 : decode cX12_takeDigits 20 = .ok (.aload_n 0, 1) := by decide +kernel
theorem dX12_takeDigits_21 : decode cX12_takeDigits 21 = .ok (.aload_n 0, 1) := by decide +kernel
theorem dX12_takeDigits_22 : decode cX12_takeDigits 22 = .ok (.getfield 132, 3) := by decide +kernel
theorem dX12_takeDigits_25 : decode cX12_takeDigits 25 = .ok (.invokevirtual 128, 3) := by decide +kernel
theorem dX12_takeDigits_28 : decode cX12_takeDigits 28 = .ok (.bipush 98, 2) := by decide +kernel
theorem dX12_takeDigits_30 : decode cX12_takeDigits 30 = .ok (.if_icmp .ne 21, 3) := by decide +kernel
theorem dX12_takeDigits_33 : decode cX12_takeDigits 33 = .ok (.iload_n 2, 1) := by decide +kernel
theorem dX12_takeDigits_34 : decode cX12_takeDigits 34 = .ok (.iconst 1, 1) := by decide +kernel
theorem dX12_takeDigits_35 : decode cX12_takeDigits 35 = .ok (.if_icmp .lt 16, 3) := by decide +kernel
theorem dX12_takeDigits_38 : decode cX12_takeDigits 38 = .ok (.iload_n 1, 1) := by decide +kernel
theorem dX12_takeDigits_39 : decode cX12_takeDigits 39 = .ok (.ifCond .eq 8, 3) := by decide +kernel
theorem dX12_takeDigits_42 : decode cX12_takeDigits 42 = .ok (.iload_n 2, 1) := by decide +kernel
theorem dX12_takeDigits_43 : decode cX12_takeDigits 43 = .ok (.iload_n 1, 1) := by decide +kernel
theorem dX12_takeDigits_44 : decode cX12_takeDigits 44 = .ok (.if_icmp .ne 7, 3) := by decide +kernel
theorem dX12_takeDigits_47 : decode cX12_takeDigits 47 = .ok (.iconst 1, 1) := by decide +kernel
theorem dX12_takeDigits_48 : decode cX12_takeDigits 48 = .ok (.goto 4, 3) := by decide +kernel
theorem dX12_takeDigits_51 : decode cX12_takeDigits 51 = .ok (.iconst 0, 1) := by decide +kernel
theorem dX12_takeDigits_52 : decode cX12_takeDigits 52 = .ok (.istore_n 3, 1) := by decide +kernel
theorem dX12_takeDigits_53 : decode cX12_takeDigits 53 = .ok (.iconst 1, 1) := by decide +kernel
theorem dX12_takeDigits_54 : decode cX12_takeDigits 54 = .ok (.istore 4, 2) := by decide +kernel
theorem dX12_takeDigits_56 : decode cX12_takeDigits 56 = .ok (.iload 4, 2) := by decide +kernel
theorem dX12_takeDigits_58 : decode cX12_takeDigits 58 = .ok (.iload_n 2, 1) := by decide +kernel
theorem dX12_takeDigits_59 : decode cX12_takeDigits 59 = .ok (.if_icmp .gt 51, 3) := by decide +kernel
theorem dX12_takeDigits_62 : decode cX12_takeDigits 62 = .ok (.iload_n 3, 1) := by decide +kernel
theorem dX12_takeDigits_63 : decode cX12_takeDigits 63 = .ok (.ifCond .eq 47, 3) := by decide +kernel
theorem dX12_takeDigits_66 : decode cX12_takeDigits 66 = .ok (.aload_n 0, 1) := by decide +kernel
theorem dX12_takeDigits_67 : decode cX12_takeDigits 67 = .ok (.aload_n 0, 1) := by decide +kernel
theorem dX12_takeDigits_68 : decode cX12_takeDigits 68 = .ok (.getfield 132, 3) := by decide +kernel
theorem dX12_takeDigits_71 : decode cX12_takeDigits 71 = .ok (.iload 4, 2) := by decide +kernel
theorem dX12_takeDigits_73 : decode cX12_takeDigits 73 = .ok (.iadd, 1) := by decide +kernel
theorem dX12_takeDigits_74 : decode cX12_takeDigits 74 = .ok (.invokevirtual 128, 3) := by decide +kernel
theorem dX12_takeDigits_77 : decode cX12_takeDigits 77 = .ok (.bipush 48, 2) := by decide +kernel
theorem dX12_takeDigits_79 : decode cX12_takeDigits 79 = .ok (.if_icmp .eq 19, 3) := by decide +kernel
theorem dX12_takeDigits_82 : decode cX12_takeDigits 82 = .ok (.aload_n 0, 1) := by decide +kernel
theorem dX12_takeDigits_83 : decode cX12_takeDigits 83 = .ok (.aload_n 0, 1) := by decide +kernel
theorem dX12_takeDigits_84 : decode cX12_takeDigits 84 = .ok (.getfield 132, 3) := by decide +kernel
theorem dX12_takeDigits_87 : decode cX12_takeDigits 87 = .ok (.iload 4, 2) := by decide +kernel
theorem dX12_takeDigits_89 : decode cX12_takeDigits 89 = .ok (.iadd, 1) := by decide +kernel
theorem dX12_takeDigits_90 : decode cX12_takeDigits 90 = .ok (.invokevirtual 128, 3) := by decide +kernel
theorem dX12_takeDigits_93 : decode cX12_takeDigits 93 = .ok (.bipush 49, 2) := by decide +kernel
theorem dX12_takeDigits_95 : decode cX12_takeDigits 95 = .ok (.if_icmp .ne 7, 3) := by decide +kernel
theorem dX12_takeDigits_98 : decode cX12_takeDigits 98 = .ok (.iconst 1, 1) := by decide +kernel
theorem dX12_takeDigits_99 : decode cX12_takeDigits 99 = .ok (.goto 4, 3) := by decide +kernel
theorem dX12_takeDigits_102 : decode cX12_takeDigits 102 = .ok (.iconst 0, 1) := by decide +kernel
theorem dX12_takeDigits_103 : decode cX12_takeDigits 103 = .ok (.istore_n 3, 1) := by decide +kernel
theorem dX12_takeDigits_104 : decode cX12_takeDigits 104 = .ok (.iinc 4 1, 3) := by decide +kernel
theorem dX12_takeDigits_107 : decode cX12_takeDigits 107 = .ok (.goto (-51), 3) := by decide +kernel
theorem dX12_takeDigits_110 : decode cX12_takeDigits 110 = .ok (.aload_n 0, 1) := by decide +kernel
theorem dX12_takeDigits_111 : decode cX12_takeDigits 111 = .ok (.invokevirtual 121, 3) := by decide +kernel
theorem dX12_takeDigits_114 : decode cX12_takeDigits 114 = .ok (.ifCond .eq 15, 3) := by decide +kernel
theorem dX12_takeDigits_117 : decode cX12_takeDigits 117 = .ok (.iload_n 3, 1) := by decide +kernel
theorem dX12_takeDigits_118 : decode cX12_takeDigits 118 = .ok (.ifCond .ne 11, 3) := by decide +kernel
theorem dX12_takeDigits_121 : decode cX12_takeDigits 121 = .ok (.aload_n 0, 1) := by decide +kernel
theorem dX12_takeDigits_122 : decode cX12_takeDigits 122 = .ok (.aload_n 0, 1) := by decide +kernel
theorem dX12_takeDigits_123 : decode cX12_takeDigits 123 = .ok (.getfield 132, 3) := by decide +kernel
theorem dX12_takeDigits_126 : decode cX12_takeDigits 126 = .ok (.invokevirtual 150, 3) := by decide +kernel
theorem dX12_takeDigits_129 : decode cX12_takeDigits 129 = .ok (.iload_n 2, 1) := by decide +kernel
theorem dX12_takeDigits_130 : decode cX12_takeDigits 130 = .ok (.ireturn, 1) := by decide +kernel
theorem dX12_takeNet_0 : decode cX12_takeNet 0 = .ok (.aload_n 0, 1) := by decide +kernel
theorem dX12_takeNet_1 : decode cX12_takeNet 1 = .ok (.invokevirtual 185, 3) := by decide +kernel
theorem dX12_takeNet_4 : decode cX12_takeNet 4 = .ok (.aload_n 0, 1) := by decide +kernel
theorem dX12_takeNet_5 : decode cX12_takeNet 5 = .ok (.invokevirtual 121, 3) := by decide +kernel
theorem dX12_takeNet_8 : decode cX12_takeNet 8 = .ok (.ifCond .eq 14, 3) := by decide +kernel
theorem dX12_takeNet_11 : decode cX12_takeNet 11 = .ok (.aload_n 0, 1) := by decide +kernel
theorem dX12_takeNet_12 : decode cX12_takeNet 12 = .ok (.aload_n 0, 1) := by decide +kernel
theorem dX12_takeNet_13 : decode cX12_takeNet 13 = .ok (.getfield 132, 3) := by decide +kernel
theorem dX12_takeNet_16 : decode cX12_takeNet 16 = .ok (.invokevirtual 188, 3) := by decide +kernel
theorem dX12_takeNet_19 : decode cX12_takeNet 19 = .ok (.goto 4, 3) := by decide +kernel
theorem dX12_takeNet_22 : decode cX12_takeNet 22 = .ok (.iconst (-1), 1) := by decide +kernel
theorem dX12_takeNet_23 : decode cX12_takeNet 23 = .ok (.istore_n 1, 1) := by decide +kernel
theorem dX12_takeNet_24 : decode cX12_takeNet 24 = .ok (.aload_n 0, 1) := by decide +kernel
theorem dX12_takeNet_25 : decode cX12_takeNet 25 = .ok (.invokevirtual 121, 3) := by decide +kernel
theorem dX12_takeNet_28 : decode cX12_takeNet 28 = .ok (.ifCond .eq 29, 3) := by decide +kernel
theorem dX12_takeNet_31 : decode cX12_takeNet 31 = .ok (.iload_n 1, 1) := by decide +kernel
theorem dX12_takeNet_32 : decode cX12_takeNet 32 = .ok (.iconst (-1), 1) := by decide +kernel
theorem dX12_takeNet_33 : decode cX12_takeNet 33 = .ok (.if_icmp .eq 16, 3) := by decide +kernel
theorem dX12_takeNet_36 : decode cX12_takeNet 36 = .ok (.aload_n 0, 1) := by decide +kernel
theorem dX12_takeNet_37 : decode cX12_takeNet 37 = .ok (.getfield 43, 3) := by decide +kernel
theorem dX12_takeNet_40 : decode cX12_takeNet 40 = .ok (.aload_n 0, 1) := by decide +kernel
theorem dX12_takeNet_41 : decode cX12_takeNet 41 = .ok (.iload_n 1, 1) := by decide +kernel
theorem dX12_takeNet_42 : decode cX12_takeNet 42 = .ok (.invokevirtual 178, 3) := by decide +kernel
theorem dX12_takeNet_45 : decode cX12_takeNet 45 = .ok (.baload, 1) := by decide +kernel
theorem dX12_takeNet_46 : decode cX12_takeNet 46 = .ok (.ifCond .ne 11, 3) := by decide +kernel
theorem dX12_takeNet_49 : decode cX12_takeNet 49 = .ok (.aload_n 0, 1) := by decide +kernel
theorem dX12_takeNet_50 : decode cX12_takeNet 50 = .ok (.aload_n 0, 1) := by decide +kernel
theorem dX12_takeNet_51 : decode cX12_takeNet 51 = .ok (.getfield 132, 3) := by decide +kernel
theorem dX12_takeNet_54 : decode cX12_takeNet 54 = .ok (.invokevirtual 150, 3) := by decide +kernel
theorem dX12_takeNet_57 : decode cX12_takeNet 57 = .ok (.iload_n 1, 1) := by decide +kernel
theorem dX12_takeNet_58 : decode cX12_takeNet 58 = .ok (.ireturn, 1) := by decide +kernel
theorem dX12_longRef_0 : decode cX12_longRef 0 = .ok (.aload_n 0, 1) := by decide +kernel
theorem dX12_longRef_1 : decode cX12_longRef 1 = .ok (.getfield 132, 3) := by decide +kernel
theorem dX12_longRef_4 : decode cX12_longRef 4 = .ok (.istore_n 1, 1) := by decide +kernel
theorem dX12_longRef_5 : decode cX12_longRef 5 = .ok (.aload_n 0, 1) := by decide +kernel
theorem dX12_longRef_6 : decode cX12_longRef 6 = .ok (.invokevirtual 121, 3) := by decide +kernel
theorem dX12_longRef_9 : decode cX12_longRef 9 = .ok (.ifCond .eq 69, 3) := by decide +kernel
theorem dX12_longRef_12 : decode cX12_longRef 12 = .ok (.aload_n 0, 1) := by decide +kernel
theorem dX12_longRef_13 : decode cX12_longRef 13 = .ok (.getfield 141, 3) := by decide +kernel
theorem dX12_longRef_16 : decode cX12_longRef 16 = .ok (.iconst 2, 1) := by decide +kernel
theorem dX12_longRef_17 : decode cX12_longRef 17 = .ok (.if_icmp .ne 61, 3) := by decide +kernel
theorem dX12_longRef_20 : decode cX12_longRef 20 = .ok (.aload_n 0, 1) := by decide +kernel
theorem dX12_longRef_21 : decode cX12_longRef 21 = .ok (.getfield 144, 3) := by decide +kernel
theorem dX12_longRef_24 : decode cX12_longRef 24 = .ok (.istore_n 2, 1) := by decide +kernel
theorem dX12_longRef_25 : decode cX12_longRef 25 = .ok (.aload_n 0, 1) := by decide +kernel
theorem dX12_longRef_26 : decode cX12_longRef 26 = .ok (.iconst 1, 1) := by decide +kernel
theorem dX12_longRef_27 : decode cX12_longRef 27 = .ok (.bipush 7, 2) := by decide +kernel
theorem dX12_longRef_29 : decode cX12_longRef 29 = .ok (.invokevirtual 195, 3) := by decide +kernel
theorem dX12_longRef_32 : decode cX12_longRef 32 = .ok (.aload_n 0, 1) := by decide +kernel
theorem dX12_longRef_33 : decode cX12_longRef 33 = .ok (.invokevirtual 169, 3) := by decide +kernel
theorem dX12_longRef_36 : decode cX12_longRef 36 = .ok (.aload_n 0, 1) := by decide +kernel
theorem dX12_longRef_37 : decode cX12_longRef 37 = .ok (.bipush 39, 2) := by decide +kernel
theorem dX12_longRef_39 : decode cX12_longRef 39 = .ok (.invokevirtual 199, 3) := by decide +kernel
theorem dX12_longRef_42 : decode cX12_longRef 42 = .ok (.aload_n 0, 1) := by decide +kernel
theorem dX12_longRef_43 : decode cX12_longRef 43 = .ok (.getfield 132, 3) := by decide +kernel
theorem dX12_longRef_46 : decode cX12_longRef 46 = .ok (.istore_n 3, 1) := by decide +kernel
theorem dX12_longRef_47 : decode cX12_longRef 47 = .ok (.aload_n 0, 1) := by decide +kernel
theorem dX12_longRef_48 : decode cX12_longRef 48 = .ok (.iload_n 2, 1) := by decide +kernel
theorem dX12_longRef_49 : decode cX12_longRef 49 = .ok (.invokevirtual 205, 3) := by decide +kernel
theorem dX12_longRef_52 : decode cX12_longRef 52 = .ok (.pop, 1) := by decide +kernel
theorem dX12_longRef_53 : decode cX12_longRef 53 = .ok (.aload_n 0, 1) := by decide +kernel
theorem dX12_longRef_54 : decode cX12_longRef 54 = .ok (.invokevirtual 169, 3) := by decide +kernel
theorem dX12_longRef_57 : decode cX12_longRef 57 = .ok (.aload_n 0, 1) := by decide +kernel
theorem dX12_longRef_58 : decode cX12_longRef 58 = .ok (.invokevirtual 121, 3) := by decide +kernel
theorem dX12_longRef_61 : decode cX12_longRef 61 = .ok (.ifCond .eq 15, 3) := by decide +kernel
theorem dX12_longRef_64 : decode cX12_longRef 64 = .ok (.aload_n 0, 1) := by decide +kernel
theorem dX12_longRef_65 : decode cX12_longRef 65 = .ok (.iconst 3, 1) := by decide +kernel
theorem dX12_longRef_66 : decode cX12_longRef 66 = .ok (.iload_n 1, 1) := by decide +kernel
theorem dX12_longRef_67 : decode cX12_longRef 67 = .ok (.iconst (-1), 1) := by decide +kernel
theorem dX12_longRef_68 : decode cX12_longRef 68 = .ok (.iload_n 3, 1) := by decide +kernel
theorem dX12_longRef_69 : decode cX12_longRef 69 = .ok (.iload_n 2, 1) := by decide +kernel
theorem dX12_longRef_70 : decode cX12_longRef 70 = .ok (.invokevirtual 208, 3) := by decide +kernel
theorem dX12_longRef_73 : decode cX12_longRef 73 = .ok (.goto 4, 3) := by decide +kernel
theorem dX12_longRef_76 : decode cX12_longRef 76 = .ok (.iconst (-1), 1) := by decide +kernel
theorem dX12_longRef_77 : decode cX12_longRef 77 = .ok (.ireturn, 1) := by decide +kernel
theorem dX12_longRef_78 : decode cX12_longRef 78 = .ok (.aload_n 0, 1) := by decide +kernel
theorem dX12_longRef_79 : decode cX12_longRef 79 = .ok (.invokevirtual 212, 3) := by decide +kernel
theorem dX12_longRef_82 : decode cX12_longRef 82 = .ok (.istore_n 2, 1) := by decide +kernel
theorem dX12_longRef_83 : decode cX12_longRef 83 = .ok (.aload_n 0, 1) := by decide +kernel
theorem dX12_longRef_84 : decode cX12_longRef 84 = .ok (.invokevirtual 169, 3) := by decide +kernel
theorem dX12_longRef_87 : decode cX12_longRef 87 = .ok (.aload_n 0, 1) := by decide +kernel
theorem dX12_longRef_88 : decode cX12_longRef 88 = .ok (.bipush 91, 2) := by decide +kernel
theorem dX12_longRef_90 : decode cX12_longRef 90 = .ok (.invokevirtual 166, 3) := by decide +kernel
theorem dX12_longRef_93 : decode cX12_longRef 93 = .ok (.ifCond .ne 24, 3) := by decide +kernel
theorem dX12_longRef_96 : decode cX12_longRef 96 = .ok (.aload_n 0, 1) := by decide +kernel
theorem dX12_longRef_97 : decode cX12_longRef 97 = .ok (.invokevirtual 121, 3) := by decide +kernel
theorem dX12_longRef_100 : decode cX12_longRef 100 = .ok (.ifCond .eq 15, 3) := by decide +kernel
theorem dX12_longRef_103 : decode cX12_longRef 103 = .ok (.aload_n 0, 1) := by decide +kernel
theorem dX12_longRef_104 : decode cX12_longRef 104 = .ok (.iconst 0, 1) := by decide +kernel
theorem dX12_longRef_105 : decode cX12_longRef 105 = .ok (.iload_n 1, 1) := by decide +kernel
theorem dX12_longRef_106 : decode cX12_longRef 106 = .ok (.iload_n 2, 1) := by decide +kernel
theorem dX12_longRef_107 : decode cX12_longRef 107 = .ok (.iconst 0, 1) := by decide +kernel
theorem dX12_longRef_108 : decode cX12_longRef 108 = .ok (.iconst 0, 1) := by decide +kernel
theorem dX12_longRef_109 : decode cX12_longRef 109 = .ok (.invokevirtual 208, 3) := by decide +kernel
theorem dX12_longRef_112 : decode cX12_longRef 112 = .ok (.goto 4, 3) := by decide +kernel
theorem dX12_longRef_115 : decode cX12_longRef 115 = .ok (.iconst (-1), 1) := by decide +kernel
theorem dX12_longRef_116 : decode cX12_longRef 116 = .ok (.ireturn, 1) := by decide +kernel
theorem dX12_longRef_117 : decode cX12_longRef 117 = .ok (.aload_n 0, 1) := by decide +kernel
theorem dX12_longRef_118 : decode cX12_longRef 118 = .ok (.invokevirtual 169, 3) := by decide +kernel
theorem dX12_longRef_121 : decode cX12_longRef 121 = .ok (.aload_n 0, 1) := by decide +kernel
theorem dX12_longRef_122 : decode cX12_longRef 122 = .ok (.iconst 0, 1) := by decide +kernel
theorem dX12_longRef_123 : decode cX12_longRef 123 = .ok (.aload_n 0, 1) := by decide +kernel
theorem dX12_longRef_124 : decode cX12_longRef 124 = .ok (.getfield 37, 3) := by decide +kernel
theorem dX12_longRef_127 : decode cX12_longRef 127 = .ok (.aload_n 0, 1) := by decide +kernel
theorem dX12_longRef_128 : decode cX12_longRef 128 = .ok (.iload_n 2, 1) := by decide +kernel
theorem dX12_longRef_129 : decode cX12_longRef 129 = .ok (.invokevirtual 178, 3) := by decide +kernel
theorem dX12_longRef_132 : decode cX12_longRef 132 = .ok (.iaload, 1) := by decide +kernel
theorem dX12_longRef_133 : decode cX12_longRef 133 = .ok (.iconst 1, 1) := by decide +kernel
theorem dX12_longRef_134 : decode cX12_longRef 134 = .ok (.isub, 1) := by decide +kernel
theorem dX12_longRef_135 : decode cX12_longRef 135 = .ok (.invokevirtual 195, 3) := by decide +kernel
theorem dX12_longRef_138 : decode cX12_longRef 138 = .ok (.aload_n 0, 1) := by decide +kernel
theorem dX12_longRef_139 : decode cX12_longRef 139 = .ok (.getfield 144, 3) := by decide +kernel
theorem dX12_longRef_142 : decode cX12_longRef 142 = .ok (.istore_n 3, 1) := by decide +kernel
theorem dX12_longRef_143 : decode cX12_longRef 143 = .ok (.aload_n 0, 1) := by decide +kernel
theorem dX12_longRef_144 : decode cX12_longRef 144 = .ok (.getfield 144, 3) := by decide +kernel
theorem dX12_longRef_147 : decode cX12_longRef 147 = .ok (.istore 4, 2) := by decide +kernel
theorem dX12_longRef_149 : decode cX12_longRef 149 = .ok (.iconst 1, 1) := by decide +kernel
theorem dX12_longRef_150 : decode cX12_longRef 150 = .ok (.istore 5, 2) := by decide +kernel
theorem dX12_longRef_152 : decode cX12_longRef 152 = .ok (.aload_n 0, 1) := by decide +kernel
theorem dX12_longRef_153 : decode cX12_longRef 153 = .ok (.invokevirtual 169, 3) := by decide +kernel
theorem dX12_longRef_156 : decode cX12_longRef 156 = .ok (.aload_n 0, 1) := by decide +kernel
theorem dX12_longRef_157 : decode cX12_longRef 157 = .ok (.bipush 58, 2) := by decide +kernel
theorem dX12_longRef_159 : decode cX12_longRef 159 = .ok (.invokevirtual 166, 3) := by decide +kernel
theorem dX12_longRef_162 : decode cX12_longRef 162 = .ok (.ifCond .eq 26, 3) := by decide +kernel
theorem dX12_longRef_165 : decode cX12_longRef 165 = .ok (.aload_n 0, 1) := by decide +kernel
theorem dX12_longRef_166 : decode cX12_longRef 166 = .ok (.invokevirtual 169, 3) := by decide +kernel
theorem dX12_longRef_169 : decode cX12_longRef 169 = .ok (.aload_n 0, 1) := by decide +kernel
theorem dX12_longRef_170 : decode cX12_longRef 170 = .ok (.iconst 0, 1) := by decide +kernel
theorem dX12_longRef_171 : decode cX12_longRef 171 = .ok (.iload_n 3, 1) := by decide +kernel
theorem dX12_longRef_172 : decode cX12_longRef 172 = .ok (.invokevirtual 195, 3) := by decide +kernel
theorem dX12_longRef_175 : decode cX12_longRef 175 = .ok (.aload_n 0, 1) := by decide +kernel
theorem dX12_longRef_176 : decode cX12_longRef 176 = .ok (.getfield 144, 3) := by decide +kernel
theorem dX12_longRef_179 : decode cX12_longRef 179 = .ok (.istore 4, 2) := by decide +kernel
theorem dX12_longRef_181 : decode cX12_longRef 181 = .ok (.iconst 2, 1) := by decide +kernel
theorem dX12_longRef_182 : decode cX12_longRef 182 = .ok (.istore 5, 2) := by decide +kernel
theorem dX12_longRef_184 : decode cX12_longRef 184 = .ok (.aload_n 0, 1) := by decide +kernel
theorem dX12_longRef_185 : decode cX12_longRef 185 = .ok (.invokevirtual 169, 3) := by decide +kernel
theorem dX12_longRef_188 : decode cX12_longRef 188 = .ok (.aload_n 0, 1) := by decide +kernel
theorem dX12_longRef_189 : decode cX12_longRef 189 = .ok (.bipush 93, 2) := by decide +kernel
theorem dX12_longRef_191 : decode cX12_longRef 191 = .ok (.invokevirtual 199, 3) := by decide +kernel
theorem dX12_longRef_194 : decode cX12_longRef 194 = .ok (.aload_n 0, 1) := by decide +kernel
theorem dX12_longRef_195 : decode cX12_longRef 195 = .ok (.invokevirtual 121, 3) := by decide +kernel
theorem dX12_longRef_198 : decode cX12_longRef 198 = .ok (.ifCond .eq 17, 3) := by decide +kernel
theorem dX12_longRef_201 : decode cX12_longRef 201 = .ok (.aload_n 0, 1) := by decide +kernel
theorem dX12_longRef_202 : decode cX12_longRef 202 = .ok (.iload 5, 2) := by decide +kernel
theorem dX12_longRef_204 : decode cX12_longRef 204 = .ok (.iload_n 1, 1) := by decide +kernel
theorem dX12_longRef_205 : decode cX12_longRef 205 = .ok (.iload_n 2, 1) := by decide +kernel
theorem dX12_longRef_206 : decode cX12_longRef 206 = .ok (.iload_n 3, 1) := by decide +kernel
theorem dX12_longRef_207 : decode cX12_longRef 207 = .ok (.iload 4, 2) := by decide +kernel
theorem dX12_longRef_209 : decode cX12_longRef 209 = .ok (.invokevirtual 208, 3) := by decide +kernel
theorem dX12_longRef_212 : decode cX12_longRef 212 = .ok (.goto 4, 3) := by decide +kernel
theorem dX12_longRef_215 : decode cX12_longRef 215 = .ok (.iconst (-1), 1) := by decide +kernel
theorem dX12_longRef_216 : decode cX12_longRef 216 = .ok (.ireturn, 1) := by decide +kernel
theorem dX12_shortRef_0 : decode cX12_shortRef 0 = .ok (.aload_n 0, 1) := by decide +kernel
theorem dX12_shortRef_1 : decode cX12_shortRef 1 = .ok (.getfield 132, 3) := by decide +kernel
theorem dX12_shortRef_4 : decode cX12_shortRef 4 = .ok (.istore_n 1, 1) := by decide +kernel
theorem dX12_shortRef_5 : decode cX12_shortRef 5 = .ok (.aload_n 0, 1) := by decide +kernel
theorem dX12_shortRef_6 : decode cX12_shortRef 6 = .ok (.bipush 39, 2) := by decide +kernel
theorem dX12_shortRef_8 : decode cX12_shortRef 8 = .ok (.invokevirtual 166, 3) := by decide +kernel
theorem dX12_shortRef_11 : decode cX12_shortRef 11 = .ok (.ifCond .eq 43, 3) := by decide +kernel
theorem dX12_shortRef_14 : decode cX12_shortRef 14 = .ok (.aload_n 0, 1) := by decide +kernel
theorem dX12_shortRef_15 : decode cX12_shortRef 15 = .ok (.invokevirtual 169, 3) := by decide +kernel
theorem dX12_shortRef_18 : decode cX12_shortRef 18 = .ok (.aload_n 0, 1) := by decide +kernel
theorem dX12_shortRef_19 : decode cX12_shortRef 19 = .ok (.getfield 132, 3) := by decide +kernel
theorem dX12_shortRef_22 : decode cX12_shortRef 22 = .ok (.istore_n 2, 1) := by decide +kernel
theorem dX12_shortRef_23 : decode cX12_shortRef 23 = .ok (.aload_n 0, 1) := by decide +kernel
theorem dX12_shortRef_24 : decode cX12_shortRef 24 = .ok (.iconst 0, 1) := by decide +kernel
theorem dX12_shortRef_25 : decode cX12_shortRef 25 = .ok (.invokevirtual 205, 3) := by decide +kernel
theorem dX12_shortRef_28 : decode cX12_shortRef 28 = .ok (.istore_n 3, 1) := by decide +kernel
theorem dX12_shortRef_29 : decode cX12_shortRef 29 = .ok (.aload_n 0, 1) := by decide +kernel
theorem dX12_shortRef_30 : decode cX12_shortRef 30 = .ok (.invokevirtual 169, 3) := by decide +kernel
theorem dX12_shortRef_33 : decode cX12_shortRef 33 = .ok (.aload_n 0, 1) := by decide +kernel
theorem dX12_shortRef_34 : decode cX12_shortRef 34 = .ok (.invokevirtual 121, 3) := by decide +kernel
theorem dX12_shortRef_37 : decode cX12_shortRef 37 = .ok (.ifCond .eq 15, 3) := by decide +kernel
theorem dX12_shortRef_40 : decode cX12_shortRef 40 = .ok (.aload_n 0, 1) := by decide +kernel
theorem dX12_shortRef_41 : decode cX12_shortRef 41 = .ok (.iconst 3, 1) := by decide +kernel
theorem dX12_shortRef_42 : decode cX12_shortRef 42 = .ok (.iload_n 1, 1) := by decide +kernel
theorem dX12_shortRef_43 : decode cX12_shortRef 43 = .ok (.iconst (-1), 1) := by decide +kernel
theorem dX12_shortRef_44 : decode cX12_shortRef 44 = .ok (.iload_n 2, 1) := by decide +kernel
theorem dX12_shortRef_45 : decode cX12_shortRef 45 = .ok (.iload_n 3, 1) := by decide +kernel
theorem dX12_shortRef_46 : decode cX12_shortRef 46 = .ok (.invokevirtual 208, 3) := by decide +kernel
theorem dX12_shortRef_49 : decode cX12_shortRef 49 = .ok (.goto 4, 3) := by decide +kernel
theorem dX12_shortRef_52 : decode cX12_shortRef 52 = .ok (.iconst (-1), 1) := by decide +kernel
theorem dX12_shortRef_53 : decode cX12_shortRef 53 = .ok (.ireturn, 1) := by decide +kernel
theorem dX12_shortRef_54 : decode cX12_shortRef 54 = .ok (.aload_n 0, 1) := by decide +kernel
theorem dX12_shortRef_55 : decode cX12_shortRef 55 = .ok (.invokevirtual 212, 3) := by decide +kernel
theorem dX12_shortRef_58 : decode cX12_shortRef 58 = .ok (.istore_n 2, 1) := by decide +kernel
theorem dX12_shortRef_59 : decode cX12_shortRef 59 = .ok (.aload_n 0, 1) := by decide +kernel
theorem dX12_shortRef_60 : decode cX12_shortRef 60 = .ok (.invokevirtual 169, 3) := by decide +kernel
theorem dX12_shortRef_63 : decode cX12_shortRef 63 = .ok (.aload_n 0, 1) := by decide +kernel
theorem dX12_shortRef_64 : decode cX12_shortRef 64 = .ok (.bipush 46, 2) := by decide +kernel
theorem dX12_shortRef_66 : decode cX12_shortRef 66 = .ok (.invokevirtual 166, 3) := by decide +kernel
theorem dX12_shortRef_69 : decode cX12_shortRef 69 = .ok (.ifCond .ne 24, 3) := by decide +kernel
theorem dX12_shortRef_72 : decode cX12_shortRef 72 = .ok (.aload_n 0, 1) := by decide +kernel
theorem dX12_shortRef_73 : decode cX12_shortRef 73 = .ok (.invokevirtual 121, 3) := by decide +kernel
theorem dX12_shortRef_76 : decode cX12_shortRef 76 = .ok (.ifCond .eq 15, 3) := by decide +kernel
theorem dX12_shortRef_79 : decode cX12_shortRef 79 = .ok (.aload_n 0, 1) := by decide +kernel
theorem dX12_shortRef_80 : decode cX12_shortRef 80 = .ok (.iconst 0, 1) := by decide +kernel
theorem dX12_shortRef_81 : decode cX12_shortRef 81 = .ok (.iload_n 1, 1) := by decide +kernel
theorem dX12_shortRef_82 : decode cX12_shortRef 82 = .ok (.iload_n 2, 1) := by decide +kernel
theorem dX12_shortRef_83 : decode cX12_shortRef 83 = .ok (.iconst 0, 1) := by decide +kernel
theorem dX12_shortRef_84 : decode cX12_shortRef 84 = .ok (.iconst 0, 1) := by decide +kernel
theorem dX12_shortRef_85 : decode cX12_shortRef 85 = .ok (.invokevirtual 208, 3) := by decide +kernel
theorem dX12_shortRef_88 : decode cX12_shortRef 88 = .ok (.goto 4, 3) := by decide +kernel
theorem dX12_shortRef_91 : decode cX12_shortRef 91 = .ok (.iconst (-1), 1) := by decide +kernel
theorem dX12_shortRef_92 : decode cX12_shortRef 92 = .ok (.ireturn, 1) := by decide +kernel
theorem dX12_shortRef_93 : decode cX12_shortRef 93 = .ok (.aload_n 0, 1) := by decide +kernel
theorem dX12_shortRef_94 : decode cX12_shortRef 94 = .ok (.invokevirtual 169, 3) := by decide +kernel
theorem dX12_shortRef_97 : decode cX12_shortRef 97 = .ok (.aload_n 0, 1) := by decide +kernel
theorem dX12_shortRef_98 : decode cX12_shortRef 98 = .ok (.iconst 0, 1) := by decide +kernel
theorem dX12_shortRef_99 : decode cX12_shortRef 99 = .ok (.aload_n 0, 1) := by decide +kernel
theorem dX12_shortRef_100 : decode cX12_shortRef 100 = .ok (.getfield 37, 3) := by decide +kernel
theorem dX12_shortRef_103 : decode cX12_shortRef 103 = .ok (.aload_n 0, 1) := by decide +kernel
theorem dX12_shortRef_104 : decode cX12_shortRef 104 = .ok (.iload_n 2, 1) := by decide +kernel
theorem dX12_shortRef_105 : decode cX12_shortRef 105 = .ok (.invokevirtual 178, 3) := by decide +kernel
theorem dX12_shortRef_108 : decode cX12_shortRef 108 = .ok (.iaload, 1) := by decide +kernel
theorem dX12_shortRef_109 : decode cX12_shortRef 109 = .ok (.iconst 1, 1) := by decide +kernel
theorem dX12_shortRef_110 : decode cX12_shortRef 110 = .ok (.isub, 1) := by decide +kernel
theorem dX12_shortRef_111 : decode cX12_shortRef 111 = .ok (.invokevirtual 195, 3) := by decide +kernel
theorem dX12_shortRef_114 : decode cX12_shortRef 114 = .ok (.aload_n 0, 1) := by decide +kernel
theorem dX12_shortRef_115 : decode cX12_shortRef 115 = .ok (.getfield 144, 3) := by decide +kernel
theorem dX12_shortRef_118 : decode cX12_shortRef 118 = .ok (.istore_n 3, 1) := by decide +kernel
theorem dX12_shortRef_119 : decode cX12_shortRef 119 = .ok (.aload_n 0, 1) := by decide +kernel
theorem dX12_shortRef_120 : decode cX12_shortRef 120 = .ok (.getfield 144, 3) := by decide +kernel
theorem dX12_shortRef_123 : decode cX12_shortRef 123 = .ok (.istore 4, 2) := by decide +kernel
theorem dX12_shortRef_125 : decode cX12_shortRef 125 = .ok (.iconst 1, 1) := by decide +kernel
theorem dX12_shortRef_126 : decode cX12_shortRef 126 = .ok (.istore 5, 2) := by decide +kernel
theorem dX12_shortRef_128 : decode cX12_shortRef 128 = .ok (.aload_n 0, 1) := by decide +kernel
theorem dX12_shortRef_129 : decode cX12_shortRef 129 = .ok (.invokevirtual 169, 3) := by decide +kernel
theorem dX12_shortRef_132 : decode cX12_shortRef 132 = .ok (.aload_n 0, 1) := by decide +kernel
theorem dX12_shortRef_133 : decode cX12_shortRef 133 = .ok (.bipush 46, 2) := by decide +kernel
theorem dX12_shortRef_135 : decode cX12_shortRef 135 = .ok (.invokevirtual 166, 3) := by decide +kernel
theorem dX12_shortRef_138 : decode cX12_shortRef 138 = .ok (.ifCond .eq 26, 3) := by decide +kernel
theorem dX12_shortRef_141 : decode cX12_shortRef 141 = .ok (.aload_n 0, 1) := by decide +kernel
theorem dX12_shortRef_142 : decode cX12_shortRef 142 = .ok (.invokevirtual 169, 3) := by decide +kernel
theorem dX12_shortRef_145 : decode cX12_shortRef 145 = .ok (.aload_n 0, 1) := by decide +kernel
theorem dX12_shortRef_146 : decode cX12_shortRef 146 = .ok (.iconst 0, 1) := by decide +kernel
theorem dX12_shortRef_147 : decode cX12_shortRef 147 = .ok (.iload_n 3, 1) := by decide +kernel
theorem dX12_shortRef_148 : decode cX12_shortRef 148 = .ok (.invokevirtual 195, 3) := by decide +kernel
theorem dX12_shortRef_151 : decode cX12_shortRef 151 = .ok (.aload_n 0, 1) := by decide +kernel
theorem dX12_shortRef_152 : decode cX12_shortRef 152 = .ok (.getfield 144, 3) := by decide +kernel
theorem dX12_shortRef_155 : decode cX12_shortRef 155 = .ok (.istore 4, 2) := by decide +kernel
theorem dX12_shortRef_157 : decode cX12_shortRef 157 = .ok (.iconst 2, 1) := by decide +kernel
theorem dX12_shortRef_158 : decode cX12_shortRef 158 = .ok (.istore 5, 2) := by decide +kernel
theorem dX12_shortRef_160 : decode cX12_shortRef 160 = .ok (.aload_n 0, 1) := by decide +kernel
theorem dX12_shortRef_161 : decode cX12_shortRef 161 = .ok (.invokevirtual 169, 3) := by decide +kernel
theorem dX12_shortRef_164 : decode cX12_shortRef 164 = .ok (.aload_n 0, 1) := by decide +kernel
theorem dX12_shortRef_165 : decode cX12_shortRef 165 = .ok (.invokevirtual 121, 3) := by decide +kernel
theorem dX12_shortRef_168 : decode cX12_shortRef 168 = .ok (.ifCond .eq 17, 3) := by decide +kernel
theorem dX12_shortRef_171 : decode cX12_shortRef 171 = .ok (.aload_n 0, 1) := by decide +kernel
theorem dX12_shortRef_172 : decode cX12_shortRef 172 = .ok (.iload 5, 2) := by decide +kernel
theorem dX12_shortRef_174 : decode cX12_shortRef 174 = .ok (.iload_n 1, 1) := by decide +kernel
theorem dX12_shortRef_175 : decode cX12_shortRef 175 = .ok (.iload_n 2, 1) := by decide +kernel
theorem dX12_shortRef_176 : decode cX12_shortRef 176 = .ok (.iload_n 3, 1) := by decide +kernel
theorem dX12_shortRef_177 : decode cX12_shortRef 177 = .ok (.iload 4, 2) := by decide +kernel
theorem dX12_shortRef_179 : decode cX12_shortRef 179 = .ok (.invokevirtual 208, 3) := by decide +kernel
theorem dX12_shortRef_182 : decode cX12_shortRef 182 = .ok (.goto 4, 3) := by decide +kernel
theorem dX12_shortRef_185 : decode cX12_shortRef 185 = .ok (.iconst (-1), 1) := by decide +kernel
theorem dX12_shortRef_186 : decode cX12_shortRef 186 = .ok (.ireturn, 1) := by decide +kernel
theorem dX12_readAssign_0 : decode cX12_readAssign 0 = .ok (.aload_n 0, 1) := by decide +kernel
theorem dX12_readAssign_1 : decode cX12_readAssign 1 = .ok (.getfield 65, 3) := by decide +kernel
theorem dX12_readAssign_4 : decode cX12_readAssign 4 = .ok (.aload_n 0, 1) := by decide +kernel
theorem dX12_readAssign_5 : decode cX12_readAssign 5 = .ok (.invokevirtual 175, 3) := by decide +kernel
theorem dX12_readAssign_8 : decode cX12_readAssign 8 = .ok (.iaload, 1) := by decide +kernel
theorem dX12_readAssign_9 : decode cX12_readAssign 9 = .ok (.bipush 8, 2) := by decide +kernel
theorem dX12_readAssign_11 : decode cX12_readAssign 11 = .ok (.if_icmp .ne 11, 3) := by decide +kernel
theorem dX12_readAssign_14 : decode cX12_readAssign 14 = .ok (.aload_n 0, 1) := by decide +kernel
theorem dX12_readAssign_15 : decode cX12_readAssign 15 = .ok (.aload_n 0, 1) := by decide +kernel
theorem dX12_readAssign_16 : decode cX12_readAssign 16 = .ok (.getfield 132, 3) := by decide +kernel
theorem dX12_readAssign_19 : decode cX12_readAssign 19 = .ok (.invokevirtual 150, 3) := by decide +kernel
theorem dX12_readAssign_22 : decode cX12_readAssign 22 = .ok (.aload_n 0, 1) := by decide +kernel
theorem dX12_readAssign_23 : decode cX12_readAssign 23 = .ok (.invokevirtual 169, 3) := by decide +kernel
theorem dX12_readAssign_26 : decode cX12_readAssign 26 = .ok (.iload_n 1, 1) := by decide +kernel
theorem dX12_readAssign_27 : decode cX12_readAssign 27 = .ok (.ifCond .eq 10, 3) := by decide +kernel
theorem dX12_readAssign_30 : decode cX12_readAssign 30 = .ok (.aload_n 0, 1) := by decide +kernel
theorem dX12_readAssign_31 : decode cX12_readAssign 31 = .ok (.invokevirtual 215, 3) := by decide +kernel
theorem dX12_readAssign_34 : decode cX12_readAssign 34 = .ok (.goto 7, 3) := by decide +kernel
theorem dX12_readAssign_37 : decode cX12_readAssign 37 = .ok (.aload_n 0, 1) := by decide +kernel
theorem dX12_readAssign_38 : decode cX12_readAssign 38 = .ok (.invokevirtual 218, 3) := by decide +kernel
theorem dX12_readAssign_41 : decode cX12_readAssign 41 = .ok (.istore_n 2, 1) := by decide +kernel
theorem dX12_readAssign_42 : decode cX12_readAssign 42 = .ok (.iload_n 1, 1) := by decide +kernel
theorem dX12_readAssign_43 : decode cX12_readAssign 43 = .ok (.ifCond .eq 9, 3) := by decide +kernel
theorem dX12_readAssign_46 : decode cX12_readAssign 46 = .ok (.aload_n 0, 1) := by decide +kernel
theorem dX12_readAssign_47 : decode cX12_readAssign 47 = .ok (.bipush 61, 2) := by decide +kernel
theorem dX12_readAssign_49 : decode cX12_readAssign 49 = .ok (.invokevirtual 199, 3) := by decide +kernel
theorem dX12_readAssign_52 : decode cX12_readAssign 52 = .ok (.iload_n 1, 1) := by decide +kernel
theorem dX12_readAssign_53 : decode cX12_readAssign 53 = .ok (.ifCond .eq 10, 3) := by decide +kernel
theorem dX12_readAssign_56 : decode cX12_readAssign 56 = .ok (.aload_n 0, 1) := by decide +kernel
theorem dX12_readAssign_57 : decode cX12_readAssign 57 = .ok (.invokevirtual 215, 3) := by decide +kernel
theorem dX12_readAssign_60 : decode cX12_readAssign 60 = .ok (.goto 7, 3) := by decide +kernel
theorem dX12_readAssign_63 : decode cX12_readAssign 63 = .ok (.aload_n 0, 1) := by decide +kernel
theorem dX12_readAssign_64 : decode cX12_readAssign 64 = .ok (.invokevirtual 218, 3) := by decide +kernel
theorem dX12_readAssign_67 : decode cX12_readAssign 67 = .ok (.istore_n 3, 1) := by decide +kernel
theorem dX12_readAssign_68 : decode cX12_readAssign 68 = .ok (.aload_n 0, 1) := by decide +kernel
theorem dX12_readAssign_69 : decode cX12_readAssign 69 = .ok (.bipush 59, 2) := by decide +kernel
theorem dX12_readAssign_71 : decode cX12_readAssign 71 = .ok (.invokevirtual 199, 3) := by decide +kernel
theorem dX12_readAssign_74 : decode cX12_readAssign 74 = .ok (.aload_n 0, 1) := by decide +kernel
theorem dX12_readAssign_75 : decode cX12_readAssign 75 = .ok (.invokevirtual 121, 3) := by decide +kernel
theorem dX12_readAssign_78 : decode cX12_readAssign 78 = .ok (.ifCond .eq 62, 3) := by decide +kernel
theorem dX12_readAssign_81 : decode cX12_readAssign 81 = .ok (.aload_n 0, 1) := by decide +kernel
theorem dX12_readAssign_82 : decode cX12_readAssign 82 = .ok (.getfield 68, 3) := by decide +kernel
theorem dX12_readAssign_85 : decode cX12_readAssign 85 = .ok (.bipush 8, 2) := by decide +kernel
theorem dX12_readAssign_87 : decode cX12_readAssign 87 = .ok (.aload_n 0, 1) := by decide +kernel
theorem dX12_readAssign_88 : decode cX12_readAssign 88 = .ok (.invokevirtual 175, 3) := by decide +kernel
theorem dX12_readAssign_91 : decode cX12_readAssign 91 = .ok (.imul, 1) := by decide +kernel
theorem dX12_readAssign_92 : decode cX12_readAssign 92 = .ok (.aload_n 0, 1) := by decide +kernel
theorem dX12_readAssign_93 : decode cX12_readAssign 93 = .ok (.getfield 65, 3) := by decide +kernel
theorem dX12_readAssign_96 : decode cX12_readAssign 96 = .ok (.aload_n 0, 1) := by decide +kernel
theorem dX12_readAssign_97 : decode cX12_readAssign 97 = .ok (.invokevirtual 175, 3) := by decide +kernel
theorem dX12_readAssign_100 : decode cX12_readAssign 100 = .ok (.iaload, 1) := by decide +kernel
theorem dX12_readAssign_101 : decode cX12_readAssign 101 = .ok (.iadd, 1) := by decide +kernel
theorem dX12_readAssign_102 : decode cX12_readAssign 102 = .ok (.iload_n 2, 1) := by decide +kernel
theorem dX12_readAssign_103 : decode cX12_readAssign 103 = .ok (.iastore, 1) := by decide +kernel
theorem dX12_readAssign_104 : decode cX12_readAssign 104 = .ok (.aload_n 0, 1) := by decide +kernel
theorem dX12_readAssign_105 : decode cX12_readAssign 105 = .ok (.getfield 71, 3) := by decide +kernel
theorem dX12_readAssign_108 : decode cX12_readAssign 108 = .ok (.bipush 8, 2) := by decide +kernel
theorem dX12_readAssign_110 : decode cX12_readAssign 110 = .ok (.aload_n 0, 1) := by decide +kernel
theorem dX12_readAssign_111 : decode cX12_readAssign 111 = .ok (.invokevirtual 175, 3) := by decide +kernel
theorem dX12_readAssign_114 : decode cX12_readAssign 114 = .ok (.imul, 1) := by decide +kernel
theorem dX12_readAssign_115 : decode cX12_readAssign 115 = .ok (.aload_n 0, 1) := by decide +kernel
theorem dX12_readAssign_116 : decode cX12_readAssign 116 = .ok (.getfield 65, 3) := by decide +kernel
theorem dX12_readAssign_119 : decode cX12_readAssign 119 = .ok (.aload_n 0, 1) := by decide +kernel
theorem dX12_readAssign_120 : decode cX12_readAssign 120 = .ok (.invokevirtual 175, 3) := by decide +kernel
theorem dX12_readAssign_123 : decode cX12_readAssign 123 = .ok (.iaload, 1) := by decide +kernel
theorem dX12_readAssign_124 : decode cX12_readAssign 124 = .ok (.iadd, 1) := by decide +kernel
theorem dX12_readAssign_125 : decode cX12_readAssign 125 = .ok (.iload_n 3, 1) := by decide +kernel
theorem dX12_readAssign_126 : decode cX12_readAssign 126 = .ok (.iastore, 1) := by decide +kernel
theorem dX12_readAssign_127 : decode cX12_readAssign 127 = .ok (.aload_n 0, 1) := by decide +kernel
theorem dX12_readAssign_128 : decode cX12_readAssign 128 = .ok (.getfield 65, 3) := by decide +kernel
theorem dX12_readAssign_131 : decode cX12_readAssign 131 = .ok (.aload_n 0, 1) := by decide +kernel
theorem dX12_readAssign_132 : decode cX12_readAssign 132 = .ok (.invokevirtual 175, 3) := by decide +kernel
theorem dX12_readAssign_135 : decode cX12_readAssign 135 = .ok (.dup2, 1) := by decide +kernel
theorem dX12_readAssign_136 : decode cX12_readAssign 136 = .ok (.iaload, 1) := by decide +kernel
theorem dX12_readAssign_137 : decode cX12_readAssign 137 = .ok (.iconst 1, 1) := by decide +kernel
theorem dX12_readAssign_138 : decode cX12_readAssign 138 = .ok (.iadd, 1) := by decide +kernel
theorem dX12_readAssign_139 : decode cX12_readAssign 139 = .ok (.iastore, 1) := by decide +kernel
theorem dX12_readAssign_140 : decode cX12_readAssign 140 = .ok (.return_, 1) := by decide +kernel
theorem dX12_insCell_0 : decode cX12_insCell 0 = .ok (.bipush 12, 2) := by decide +kernel
theorem dX12_insCell_2 : decode cX12_insCell 2 = .ok (.aload_n 0, 1) := by decide +kernel
theorem dX12_insCell_3 : decode cX12_insCell 3 = .ok (.invokevirtual 175, 3) := by decide +kernel
theorem dX12_insCell_6 : decode cX12_insCell 6 = .ok (.imul, 1) := by decide +kernel
theorem dX12_insCell_7 : decode cX12_insCell 7 = .ok (.iload_n 1, 1) := by decide +kernel
theorem dX12_insCell_8 : decode cX12_insCell 8 = .ok (.iadd, 1) := by decide +kernel
theorem dX12_insCell_9 : decode cX12_insCell 9 = .ok (.ireturn, 1) := by decide +kernel
theorem dX12_takeInstance_0 : decode cX12_takeInstance 0 = .ok (.aload_n 0, 1) := by decide +kernel
theorem dX12_takeInstance_1 : decode cX12_takeInstance 1 = .ok (.invokevirtual 185, 3) := by decide +kernel
theorem dX12_takeInstance_4 : decode cX12_takeInstance 4 = .ok (.aload_n 0, 1) := by decide +kernel
theorem dX12_takeInstance_5 : decode cX12_takeInstance 5 = .ok (.getfield 74, 3) := by decide +kernel
theorem dX12_takeInstance_8 : decode cX12_takeInstance 8 = .ok (.aload_n 0, 1) := by decide +kernel
theorem dX12_takeInstance_9 : decode cX12_takeInstance 9 = .ok (.invokevirtual 175, 3) := by decide +kernel
theorem dX12_takeInstance_12 : decode cX12_takeInstance 12 = .ok (.iaload, 1) := by decide +kernel
theorem dX12_takeInstance_13 : decode cX12_takeInstance 13 = .ok (.istore_n 2, 1) := by decide +kernel
theorem dX12_takeInstance_14 : decode cX12_takeInstance 14 = .ok (.iconst 0, 1) := by decide +kernel
theorem dX12_takeInstance_15 : decode cX12_takeInstance 15 = .ok (.istore_n 3, 1) := by decide +kernel
theorem dX12_takeInstance_16 : decode cX12_takeInstance 16 = .ok (.iload_n 3, 1) := by decide +kernel
theorem dX12_takeInstance_17 : decode cX12_takeInstance 17 = .ok (.iload_n 2, 1) := by decide +kernel
theorem dX12_takeInstance_18 : decode cX12_takeInstance 18 = .ok (.if_icmp .ge 45, 3) := by decide +kernel
theorem dX12_takeInstance_21 : decode cX12_takeInstance 21 = .ok (.aload_n 0, 1) := by decide +kernel
theorem dX12_takeInstance_22 : decode cX12_takeInstance 22 = .ok (.invokevirtual 121, 3) := by decide +kernel
theorem dX12_takeInstance_25 : decode cX12_takeInstance 25 = .ok (.ifCond .eq 38, 3) := by decide +kernel
theorem dX12_takeInstance_28 : decode cX12_takeInstance 28 = .ok (.aload_n 0, 1) := by decide +kernel
theorem dX12_takeInstance_29 : decode cX12_takeInstance 29 = .ok (.aload_n 0, 1) := by decide +kernel
theorem dX12_takeInstance_30 : decode cX12_takeInstance 30 = .ok (.getfield 80, 3) := by decide +kernel
theorem dX12_takeInstance_33 : decode cX12_takeInstance 33 = .ok (.aload_n 0, 1) := by decide +kernel
theorem dX12_takeInstance_34 : decode cX12_takeInstance 34 = .ok (.iload_n 3, 1) := by decide +kernel
theorem dX12_takeInstance_35 : decode cX12_takeInstance 35 = .ok (.invokevirtual 221, 3) := by decide +kernel
theorem dX12_takeInstance_38 : decode cX12_takeInstance 38 = .ok (.iaload, 1) := by decide +kernel
theorem dX12_takeInstance_39 : decode cX12_takeInstance 39 = .ok (.aload_n 0, 1) := by decide +kernel
theorem dX12_takeInstance_40 : decode cX12_takeInstance 40 = .ok (.getfield 132, 3) := by decide +kernel
theorem dX12_takeInstance_43 : decode cX12_takeInstance 43 = .ok (.invokevirtual 181, 3) := by decide +kernel
theorem dX12_takeInstance_46 : decode cX12_takeInstance 46 = .ok (.ifCond .eq 11, 3) := by decide +kernel
theorem dX12_takeInstance_49 : decode cX12_takeInstance 49 = .ok (.aload_n 0, 1) := by decide +kernel
theorem dX12_takeInstance_50 : decode cX12_takeInstance 50 = .ok (.aload_n 0, 1) := by decide +kernel
theorem dX12_takeInstance_51 : decode cX12_takeInstance 51 = .ok (.getfield 132, 3) := by decide +kernel
theorem dX12_takeInstance_54 : decode cX12_takeInstance 54 = .ok (.invokevirtual 150, 3) := by decide +kernel
theorem dX12_takeInstance_57 : decode cX12_takeInstance 57 = .ok (.iinc 3 1, 3) := by decide +kernel
theorem dX12_takeInstance_60 : decode cX12_takeInstance 60 = .ok (.goto (-44), 3) := by decide +kernel
theorem dX12_takeInstance_63 : decode cX12_takeInstance 63 = .ok (.aload_n 0, 1) := by decide +kernel
theorem dX12_takeInstance_64 : decode cX12_takeInstance 64 = .ok (.invokevirtual 121, 3) := by decide +kernel
theorem dX12_takeInstance_67 : decode cX12_takeInstance 67 = .ok (.ifCond .eq 17, 3) := by decide +kernel
theorem dX12_takeInstance_70 : decode cX12_takeInstance 70 = .ok (.iload_n 2, 1) := by decide +kernel
theorem dX12_takeInstance_71 : decode cX12_takeInstance 71 = .ok (.bipush 12, 2) := by decide +kernel
theorem dX12_takeInstance_73 : decode cX12_takeInstance 73 = .ok (.if_icmp .ne 11, 3) := by decide +kernel
theorem dX12_takeInstance_76 : decode cX12_takeInstance 76 = .ok (.aload_n 0, 1) := by decide +kernel
theorem dX12_takeInstance_77 : decode cX12_takeInstance 77 = .ok (.aload_n 0, 1) := by decide +kernel
theorem dX12_takeInstance_78 : decode cX12_takeInstance 78 = .ok (.getfield 132, 3) := by decide +kernel
theorem dX12_takeInstance_81 : decode cX12_takeInstance 81 = .ok (.invokevirtual 150, 3) := by decide +kernel
theorem dX12_takeInstance_84 : decode cX12_takeInstance 84 = .ok (.aload_n 0, 1) := by decide +kernel
theorem dX12_takeInstance_85 : decode cX12_takeInstance 85 = .ok (.invokevirtual 121, 3) := by decide +kernel
theorem dX12_takeInstance_88 : decode cX12_takeInstance 88 = .ok (.ifCond .ne 5, 3) := by decide +kernel
theorem dX12_takeInstance_91 : decode cX12_takeInstance 91 = .ok (.iconst (-1), 1) := by decide +kernel
theorem dX12_takeInstance_92 : decode cX12_takeInstance 92 = .ok (.ireturn, 1) := by decide +kernel
theorem dX12_takeInstance_93 : decode cX12_takeInstance 93 = .ok (.aload_n 0, 1) := by decide +kernel
theorem dX12_takeInstance_94 : decode cX12_takeInstance 94 = .ok (.getfield 77, 3) := by decide +kernel
theorem dX12_takeInstance_97 : decode cX12_takeInstance 97 = .ok (.aload_n 0, 1) := by decide +kernel
theorem dX12_takeInstance_98 : decode cX12_takeInstance 98 = .ok (.iload_n 2, 1) := by decide +kernel
theorem dX12_takeInstance_99 : decode cX12_takeInstance 99 = .ok (.invokevirtual 221, 3) := by decide +kernel
theorem dX12_takeInstance_102 : decode cX12_takeInstance 102 = .ok (.iload_n 1, 1) := by decide +kernel
theorem dX12_takeInstance_103 : decode cX12_takeInstance 103 = .ok (.iastore, 1) := by decide +kernel
theorem dX12_takeInstance_104 : decode cX12_takeInstance 104 = .ok (.aload_n 0, 1) := by decide +kernel
theorem dX12_takeInstance_105 : decode cX12_takeInstance 105 = .ok (.getfield 80, 3) := by decide +kernel
theorem dX12_takeInstance_108 : decode cX12_takeInstance 108 = .ok (.aload_n 0, 1) := by decide +kernel
theorem dX12_takeInstance_109 : decode cX12_takeInstance 109 = .ok (.iload_n 2, 1) := by decide +kernel
theorem dX12_takeInstance_110 : decode cX12_takeInstance 110 = .ok (.invokevirtual 221, 3) := by decide +kernel
theorem dX12_takeInstance_113 : decode cX12_takeInstance 113 = .ok (.aload_n 0, 1) := by decide +kernel
theorem dX12_takeInstance_114 : decode cX12_takeInstance 114 = .ok (.getfield 132, 3) := by decide +kernel
theorem dX12_takeInstance_117 : decode cX12_takeInstance 117 = .ok (.iastore, 1) := by decide +kernel
theorem dX12_takeInstance_118 : decode cX12_takeInstance 118 = .ok (.aload_n 0, 1) := by decide +kernel
theorem dX12_takeInstance_119 : decode cX12_takeInstance 119 = .ok (.getfield 83, 3) := by decide +kernel
theorem dX12_takeInstance_122 : decode cX12_takeInstance 122 = .ok (.aload_n 0, 1) := by decide +kernel
theorem dX12_takeInstance_123 : decode cX12_takeInstance 123 = .ok (.iload_n 2, 1) := by decide +kernel
theorem dX12_takeInstance_124 : decode cX12_takeInstance 124 = .ok (.invokevirtual 221, 3) := by decide +kernel
theorem dX12_takeInstance_127 : decode cX12_takeInstance 127 = .ok (.iconst 0, 1) := by decide +kernel
theorem dX12_takeInstance_128 : decode cX12_takeInstance 128 = .ok (.bastore, 1) := by decide +kernel
theorem dX12_takeInstance_129 : decode cX12_takeInstance 129 = .ok (.aload_n 0, 1) := by decide +kernel
theorem dX12_takeInstance_130 : decode cX12_takeInstance 130 = .ok (.getfield 89, 3) := by decide +kernel
theorem dX12_takeInstance_133 : decode cX12_takeInstance 133 = .ok (.aload_n 0, 1) := by decide +kernel
theorem dX12_takeInstance_134 : decode cX12_takeInstance 134 = .ok (.iload_n 2, 1) := by decide +kernel
theorem dX12_takeInstance_135 : decode cX12_takeInstance 135 = .ok (.invokevirtual 221, 3) := by decide +kernel
theorem dX12_takeInstance_138 : decode cX12_takeInstance 138 = .ok (.iconst 0, 1) := by decide +kernel
theorem dX12_takeInstance_139 : decode cX12_takeInstance 139 = .ok (.iastore, 1) := by decide +kernel
theorem dX12_takeInstance_140 : decode cX12_takeInstance 140 = .ok (.aload_n 0, 1) := by decide +kernel
theorem dX12_takeInstance_141 : decode cX12_takeInstance 141 = .ok (.getfield 74, 3) := by decide +kernel
theorem dX12_takeInstance_144 : decode cX12_takeInstance 144 = .ok (.aload_n 0, 1) := by decide +kernel
theorem dX12_takeInstance_145 : decode cX12_takeInstance 145 = .ok (.invokevirtual 175, 3) := by decide +kernel
theorem dX12_takeInstance_148 : decode cX12_takeInstance 148 = .ok (.dup2, 1) := by decide +kernel
theorem dX12_takeInstance_149 : decode cX12_takeInstance 149 = .ok (.iaload, 1) := by decide +kernel
theorem dX12_takeInstance_150 : decode cX12_takeInstance 150 = .ok (.iconst 1, 1) := by decide +kernel
theorem dX12_takeInstance_151 : decode cX12_takeInstance 151 = .ok (.iadd, 1) := by decide +kernel
theorem dX12_takeInstance_152 : decode cX12_takeInstance 152 = .ok (.iastore, 1) := by decide +kernel
theorem dX12_takeInstance_153 : decode cX12_takeInstance 153 = .ok (.aload_n 0, 1) := by decide +kernel
theorem dX12_takeInstance_154 : decode cX12_takeInstance 154 = .ok (.invokevirtual 169, 3) := by decide +kernel
theorem dX12_takeInstance_157 : decode cX12_takeInstance 157 = .ok (.iload_n 2, 1) := by decide +kernel
theorem dX12_takeInstance_158 : decode cX12_takeInstance 158 = .ok (.ireturn, 1) := by decide +kernel
theorem dX12_addLink_0 : decode cX12_addLink 0 = .ok (.aload_n 0, 1) := by decide +kernel
theorem dX12_addLink_1 : decode cX12_addLink 1 = .ok (.iload_n 1, 1) := by decide +kernel
theorem dX12_addLink_2 : decode cX12_addLink 2 = .ok (.invokevirtual 221, 3) := by decide +kernel
theorem dX12_addLink_5 : decode cX12_addLink 5 = .ok (.istore_n 2, 1) := by decide +kernel
theorem dX12_addLink_6 : decode cX12_addLink 6 = .ok (.aload_n 0, 1) := by decide +kernel
theorem dX12_addLink_7 : decode cX12_addLink 7 = .ok (.invokevirtual 121, 3) := by decide +kernel
theorem dX12_addLink_10 : decode cX12_addLink 10 = .ok (.ifCond .eq 22, 3) := by decide +kernel
theorem dX12_addLink_13 : decode cX12_addLink 13 = .ok (.aload_n 0, 1) := by decide +kernel
theorem dX12_addLink_14 : decode cX12_addLink 14 = .ok (.getfield 89, 3) := by decide +kernel
theorem dX12_addLink_17 : decode cX12_addLink 17 = .ok (.iload_n 2, 1) := by decide +kernel
theorem dX12_addLink_18 : decode cX12_addLink 18 = .ok (.iaload, 1) := by decide +kernel
theorem dX12_addLink_19 : decode cX12_addLink 19 = .ok (.bipush 16, 2) := by decide +kernel
theorem dX12_addLink_21 : decode cX12_addLink 21 = .ok (.if_icmp .ne 11, 3) := by decide +kernel
theorem dX12_addLink_24 : decode cX12_addLink 24 = .ok (.aload_n 0, 1) := by decide +kernel
theorem dX12_addLink_25 : decode cX12_addLink 25 = .ok (.aload_n 0, 1) := by decide +kernel
theorem dX12_addLink_26 : decode cX12_addLink 26 = .ok (.getfield 132, 3) := by decide +kernel
theorem dX12_addLink_29 : decode cX12_addLink 29 = .ok (.invokevirtual 150, 3) := by decide +kernel
theorem dX12_addLink_32 : decode cX12_addLink 32 = .ok (.aload_n 0, 1) := by decide +kernel
theorem dX12_addLink_33 : decode cX12_addLink 33 = .ok (.invokevirtual 121, 3) := by decide +kernel
theorem dX12_addLink_36 : decode cX12_addLink 36 = .ok (.ifCond .ne 5, 3) := by decide +kernel
theorem dX12_addLink_39 : decode cX12_addLink 39 = .ok (.iconst (-1), 1) := by decide +kernel
theorem dX12_addLink_40 : decode cX12_addLink 40 = .ok (.ireturn, 1) := by decide +kernel
theorem dX12_addLink_41 : decode cX12_addLink 41 = .ok (.bipush 16, 2) := by decide +kernel
theorem dX12_addLink_43 : decode cX12_addLink 43 = .ok (.iload_n 2, 1) := by decide +kernel
theorem dX12_addLink_44 : decode cX12_addLink 44 = .ok (.imul, 1) := by decide +kernel
theorem dX12_addLink_45 : decode cX12_addLink 45 = .ok (.aload_n 0, 1) := by decide +kernel
theorem dX12_addLink_46 : decode cX12_addLink 46 = .ok (.getfield 89, 3) := by decide +kernel
theorem dX12_addLink_49 : decode cX12_addLink 49 = .ok (.iload_n 2, 1) := by decide +kernel
theorem dX12_addLink_50 : decode cX12_addLink 50 = .ok (.iaload, 1) := by decide +kernel
theorem dX12_addLink_51 : decode cX12_addLink 51 = .ok (.iadd, 1) := by decide +kernel
theorem dX12_addLink_52 : decode cX12_addLink 52 = .ok (.istore_n 3, 1) := by decide +kernel
theorem dX12_addLink_53 : decode cX12_addLink 53 = .ok (.aload_n 0, 1) := by decide +kernel
theorem dX12_addLink_54 : decode cX12_addLink 54 = .ok (.getfield 92, 3) := by decide +kernel
theorem dX12_addLink_57 : decode cX12_addLink 57 = .ok (.iload_n 3, 1) := by decide +kernel
theorem dX12_addLink_58 : decode cX12_addLink 58 = .ok (.iconst (-1), 1) := by decide +kernel
theorem dX12_addLink_59 : decode cX12_addLink 59 = .ok (.iastore, 1) := by decide +kernel
theorem dX12_addLink_60 : decode cX12_addLink 60 = .ok (.aload_n 0, 1) := by decide +kernel
theorem dX12_addLink_61 : decode cX12_addLink 61 = .ok (.getfield 95, 3) := by decide +kernel
theorem dX12_addLink_64 : decode cX12_addLink 64 = .ok (.iload_n 3, 1) := by decide +kernel
theorem dX12_addLink_65 : decode cX12_addLink 65 = .ok (.iconst (-1), 1) := by decide +kernel
theorem dX12_addLink_66 : decode cX12_addLink 66 = .ok (.iastore, 1) := by decide +kernel
theorem dX12_addLink_67 : decode cX12_addLink 67 = .ok (.aload_n 0, 1) := by decide +kernel
theorem dX12_addLink_68 : decode cX12_addLink 68 = .ok (.getfield 98, 3) := by decide +kernel
theorem dX12_addLink_71 : decode cX12_addLink 71 = .ok (.iload_n 3, 1) := by decide +kernel
theorem dX12_addLink_72 : decode cX12_addLink 72 = .ok (.aload_n 0, 1) := by decide +kernel
theorem dX12_addLink_73 : decode cX12_addLink 73 = .ok (.getfield 132, 3) := by decide +kernel
theorem dX12_addLink_76 : decode cX12_addLink 76 = .ok (.iastore, 1) := by decide +kernel
theorem dX12_addLink_77 : decode cX12_addLink 77 = .ok (.aload_n 0, 1) := by decide +kernel
theorem dX12_addLink_78 : decode cX12_addLink 78 = .ok (.getfield 89, 3) := by decide +kernel
theorem dX12_addLink_81 : decode cX12_addLink 81 = .ok (.iload_n 2, 1) := by decide +kernel
theorem dX12_addLink_82 : decode cX12_addLink 82 = .ok (.dup2, 1) := by decide +kernel
theorem dX12_addLink_83 : decode cX12_addLink 83 = .ok (.iaload, 1) := by decide +kernel
theorem dX12_addLink_84 : decode cX12_addLink 84 = .ok (.iconst 1, 1) := by decide +kernel
theorem dX12_addLink_85 : decode cX12_addLink 85 = .ok (.iadd, 1) := by decide +kernel
theorem dX12_addLink_86 : decode cX12_addLink 86 = .ok (.iastore, 1) := by decide +kernel
theorem dX12_addLink_87 : decode cX12_addLink 87 = .ok (.iload_n 3, 1) := by decide +kernel
theorem dX12_addLink_88 : decode cX12_addLink 88 = .ok (.ireturn, 1) := by decide +kernel
theorem dX12_takeNamed_0 : decode cX12_takeNamed 0 = .ok (.aload_n 0, 1) := by decide +kernel
theorem dX12_takeNamed_1 : decode cX12_takeNamed 1 = .ok (.iload_n 1, 1) := by decide +kernel
theorem dX12_takeNamed_2 : decode cX12_takeNamed 2 = .ok (.invokevirtual 224, 3) := by decide +kernel
theorem dX12_takeNamed_5 : decode cX12_takeNamed 5 = .ok (.istore_n 2, 1) := by decide +kernel
theorem dX12_takeNamed_6 : decode cX12_takeNamed 6 = .ok (.aload_n 0, 1) := by decide +kernel
theorem dX12_takeNamed_7 : decode cX12_takeNamed 7 = .ok (.bipush 46, 2) := by decide +kernel
theorem dX12_takeNamed_9 : decode cX12_takeNamed 9 = .ok (.invokevirtual 199, 3) := by decide +kernel
theorem dX12_takeNamed_12 : decode cX12_takeNamed 12 = .ok (.aload_n 0, 1) := by decide +kernel
theorem dX12_takeNamed_13 : decode cX12_takeNamed 13 = .ok (.invokevirtual 185, 3) := by decide +kernel
theorem dX12_takeNamed_16 : decode cX12_takeNamed 16 = .ok (.iconst 0, 1) := by decide +kernel
theorem dX12_takeNamed_17 : decode cX12_takeNamed 17 = .ok (.istore_n 3, 1) := by decide +kernel
theorem dX12_takeNamed_18 : decode cX12_takeNamed 18 = .ok (.aload_n 0, 1) := by decide +kernel
theorem dX12_takeNamed_19 : decode cX12_takeNamed 19 = .ok (.invokevirtual 121, 3) := by decide +kernel
theorem dX12_takeNamed_22 : decode cX12_takeNamed 22 = .ok (.ifCond .eq 59, 3) := by decide +kernel
theorem dX12_takeNamed_25 : decode cX12_takeNamed 25 = .ok (.iload_n 3, 1) := by decide +kernel
theorem dX12_takeNamed_26 : decode cX12_takeNamed 26 = .ok (.aload_n 0, 1) := by decide +kernel
theorem dX12_takeNamed_27 : decode cX12_takeNamed 27 = .ok (.getfield 89, 3) := by decide +kernel
theorem dX12_takeNamed_30 : decode cX12_takeNamed 30 = .ok (.aload_n 0, 1) := by decide +kernel
theorem dX12_takeNamed_31 : decode cX12_takeNamed 31 = .ok (.iload_n 1, 1) := by decide +kernel
theorem dX12_takeNamed_32 : decode cX12_takeNamed 32 = .ok (.invokevirtual 221, 3) := by decide +kernel
theorem dX12_takeNamed_35 : decode cX12_takeNamed 35 = .ok (.iaload, 1) := by decide +kernel
theorem dX12_takeNamed_36 : decode cX12_takeNamed 36 = .ok (.iconst 1, 1) := by decide +kernel
theorem dX12_takeNamed_37 : decode cX12_takeNamed 37 = .ok (.isub, 1) := by decide +kernel
theorem dX12_takeNamed_38 : decode cX12_takeNamed 38 = .ok (.if_icmp .ge 43, 3) := by decide +kernel
theorem dX12_takeNamed_41 : decode cX12_takeNamed 41 = .ok (.aload_n 0, 1) := by decide +kernel
theorem dX12_takeNamed_42 : decode cX12_takeNamed 42 = .ok (.aload_n 0, 1) := by decide +kernel
theorem dX12_takeNamed_43 : decode cX12_takeNamed 43 = .ok (.getfield 95, 3) := by decide +kernel
theorem dX12_takeNamed_46 : decode cX12_takeNamed 46 = .ok (.bipush 16, 2) := by decide +kernel
theorem dX12_takeNamed_48 : decode cX12_takeNamed 48 = .ok (.aload_n 0, 1) := by decide +kernel
theorem dX12_takeNamed_49 : decode cX12_takeNamed 49 = .ok (.iload_n 1, 1) := by decide +kernel
theorem dX12_takeNamed_50 : decode cX12_takeNamed 50 = .ok (.invokevirtual 221, 3) := by decide +kernel
theorem dX12_takeNamed_53 : decode cX12_takeNamed 53 = .ok (.imul, 1) := by decide +kernel
theorem dX12_takeNamed_54 : decode cX12_takeNamed 54 = .ok (.iload_n 3, 1) := by decide +kernel
theorem dX12_takeNamed_55 : decode cX12_takeNamed 55 = .ok (.iadd, 1) := by decide +kernel
theorem dX12_takeNamed_56 : decode cX12_takeNamed 56 = .ok (.iaload, 1) := by decide +kernel
theorem dX12_takeNamed_57 : decode cX12_takeNamed 57 = .ok (.aload_n 0, 1) := by decide +kernel
theorem dX12_takeNamed_58 : decode cX12_takeNamed 58 = .ok (.getfield 132, 3) := by decide +kernel
theorem dX12_takeNamed_61 : decode cX12_takeNamed 61 = .ok (.invokevirtual 181, 3) := by decide +kernel
theorem dX12_takeNamed_64 : decode cX12_takeNamed 64 = .ok (.ifCond .eq 11, 3) := by decide +kernel
theorem dX12_takeNamed_67 : decode cX12_takeNamed 67 = .ok (.aload_n 0, 1) := by decide +kernel
theorem dX12_takeNamed_68 : decode cX12_takeNamed 68 = .ok (.aload_n 0, 1) := by decide +kernel
theorem dX12_takeNamed_69 : decode cX12_takeNamed 69 = .ok (.getfield 132, 3) := by decide +kernel
theorem dX12_takeNamed_72 : decode cX12_takeNamed 72 = .ok (.invokevirtual 150, 3) := by decide +kernel
theorem dX12_takeNamed_75 : decode cX12_takeNamed 75 = .ok (.iinc 3 1, 3) := by decide +kernel
theorem dX12_takeNamed_78 : decode cX12_takeNamed 78 = .ok (.goto (-60), 3) := by decide +kernel
theorem dX12_takeNamed_81 : decode cX12_takeNamed 81 = .ok (.aload_n 0, 1) := by decide +kernel
theorem dX12_takeNamed_82 : decode cX12_takeNamed 82 = .ok (.getfield 132, 3) := by decide +kernel
theorem dX12_takeNamed_85 : decode cX12_takeNamed 85 = .ok (.istore_n 3, 1) := by decide +kernel
theorem dX12_takeNamed_86 : decode cX12_takeNamed 86 = .ok (.aload_n 0, 1) := by decide +kernel
theorem dX12_takeNamed_87 : decode cX12_takeNamed 87 = .ok (.invokevirtual 169, 3) := by decide +kernel
theorem dX12_takeNamed_90 : decode cX12_takeNamed 90 = .ok (.aload_n 0, 1) := by decide +kernel
theorem dX12_takeNamed_91 : decode cX12_takeNamed 91 = .ok (.bipush 40, 2) := by decide +kernel
theorem dX12_takeNamed_93 : decode cX12_takeNamed 93 = .ok (.invokevirtual 199, 3) := by decide +kernel
theorem dX12_takeNamed_96 : decode cX12_takeNamed 96 = .ok (.iconst (-1), 1) := by decide +kernel
theorem dX12_takeNamed_97 : decode cX12_takeNamed 97 = .ok (.istore 4, 2) := by decide +kernel
theorem dX12_takeNamed_99 : decode cX12_takeNamed 99 = .ok (.aload_n 0, 1) := by decide +kernel
theorem dX12_takeNamed_100 : decode cX12_takeNamed 100 = .ok (.invokevirtual 121, 3) := by decide +kernel
theorem dX12_takeNamed_103 : decode cX12_takeNamed 103 = .ok (.ifCond .eq 18, 3) := by decide +kernel
theorem dX12_takeNamed_106 : decode cX12_takeNamed 106 = .ok (.aload_n 0, 1) := by decide +kernel
theorem dX12_takeNamed_107 : decode cX12_takeNamed 107 = .ok (.bipush 41, 2) := by decide +kernel
theorem dX12_takeNamed_109 : decode cX12_takeNamed 109 = .ok (.invokevirtual 166, 3) := by decide +kernel
theorem dX12_takeNamed_112 : decode cX12_takeNamed 112 = .ok (.ifCond .ne 9, 3) := by decide +kernel
theorem dX12_takeNamed_115 : decode cX12_takeNamed 115 = .ok (.aload_n 0, 1) := by decide +kernel
theorem dX12_takeNamed_116 : decode cX12_takeNamed 116 = .ok (.invokevirtual 215, 3) := by decide +kernel
theorem dX12_takeNamed_119 : decode cX12_takeNamed 119 = .ok (.istore 4, 2) := by decide +kernel
theorem dX12_takeNamed_121 : decode cX12_takeNamed 121 = .ok (.aload_n 0, 1) := by decide +kernel
theorem dX12_takeNamed_122 : decode cX12_takeNamed 122 = .ok (.bipush 41, 2) := by decide +kernel
theorem dX12_takeNamed_124 : decode cX12_takeNamed 124 = .ok (.invokevirtual 199, 3) := by decide +kernel
theorem dX12_takeNamed_127 : decode cX12_takeNamed 127 = .ok (.aload_n 0, 1) := by decide +kernel
theorem dX12_takeNamed_128 : decode cX12_takeNamed 128 = .ok (.invokevirtual 121, 3) := by decide +kernel
theorem dX12_takeNamed_131 : decode cX12_takeNamed 131 = .ok (.ifCond .eq 18, 3) := by decide +kernel
theorem dX12_takeNamed_134 : decode cX12_takeNamed 134 = .ok (.aload_n 0, 1) := by decide +kernel
theorem dX12_takeNamed_135 : decode cX12_takeNamed 135 = .ok (.getfield 95, 3) := by decide +kernel
theorem dX12_takeNamed_138 : decode cX12_takeNamed 138 = .ok (.iload_n 2, 1) := by decide +kernel
theorem dX12_takeNamed_139 : decode cX12_takeNamed 139 = .ok (.iload_n 3, 1) := by decide +kernel
theorem dX12_takeNamed_140 : decode cX12_takeNamed 140 = .ok (.iastore, 1) := by decide +kernel
theorem dX12_takeNamed_141 : decode cX12_takeNamed 141 = .ok (.aload_n 0, 1) := by decide +kernel
theorem dX12_takeNamed_142 : decode cX12_takeNamed 142 = .ok (.getfield 92, 3) := by decide +kernel
theorem dX12_takeNamed_145 : decode cX12_takeNamed 145 = .ok (.iload_n 2, 1) := by decide +kernel
theorem dX12_takeNamed_146 : decode cX12_takeNamed 146 = .ok (.iload 4, 2) := by decide +kernel
theorem dX12_takeNamed_148 : decode cX12_takeNamed 148 = .ok (.iastore, 1) := by decide +kernel
theorem dX12_takeNamed_149 : decode cX12_takeNamed 149 = .ok (.return_, 1) := by decide +kernel
theorem dX12_takeOrdered_0 : decode cX12_takeOrdered 0 = .ok (.aload_n 0, 1) := by decide +kernel
theorem dX12_takeOrdered_1 : decode cX12_takeOrdered 1 = .ok (.iload_n 1, 1) := by decide +kernel
theorem dX12_takeOrdered_2 : decode cX12_takeOrdered 2 = .ok (.invokevirtual 224, 3) := by decide +kernel
theorem dX12_takeOrdered_5 : decode cX12_takeOrdered 5 = .ok (.istore_n 3, 1) := by decide +kernel
theorem dX12_takeOrdered_6 : decode cX12_takeOrdered 6 = .ok (.aload_n 0, 1) := by decide +kernel
theorem dX12_takeOrdered_7 : decode cX12_takeOrdered 7 = .ok (.bipush 45, 2) := by decide +kernel
theorem dX12_takeOrdered_9 : decode cX12_takeOrdered 9 = .ok (.invokevirtual 166, 3) := by decide +kernel
theorem dX12_takeOrdered_12 : decode cX12_takeOrdered 12 = .ok (.ifCond .eq 8, 3) := by decide +kernel
theorem dX12_takeOrdered_15 : decode cX12_takeOrdered 15 = .ok (.aload_n 0, 1) := by decide +kernel
theorem dX12_takeOrdered_16 : decode cX12_takeOrdered 16 = .ok (.invokevirtual 169, 3) := by decide +kernel
theorem dX12_takeOrdered_19 : decode cX12_takeOrdered 19 = .ok (.return_, 1) := by decide +kernel
theorem dX12_takeOrdered_20 : decode cX12_takeOrdered 20 = .ok (.aload_n 0, 1) := by decide +kernel
theorem dX12_takeOrdered_21 : decode cX12_takeOrdered 21 = .ok (.invokevirtual 121, 3) := by decide +kernel
theorem dX12_takeOrdered_24 : decode cX12_takeOrdered 24 = .ok (.ifCond .eq 21, 3) := by decide +kernel
theorem dX12_takeOrdered_27 : decode cX12_takeOrdered 27 = .ok (.iload_n 2, 1) := by decide +kernel
theorem dX12_takeOrdered_28 : decode cX12_takeOrdered 28 = .ok (.ifCond .eq 10, 3) := by decide +kernel
theorem dX12_takeOrdered_31 : decode cX12_takeOrdered 31 = .ok (.aload_n 0, 1) := by decide +kernel
theorem dX12_takeOrdered_32 : decode cX12_takeOrdered 32 = .ok (.invokevirtual 215, 3) := by decide +kernel
theorem dX12_takeOrdered_35 : decode cX12_takeOrdered 35 = .ok (.goto 11, 3) := by decide +kernel
theorem dX12_takeOrdered_38 : decode cX12_takeOrdered 38 = .ok (.aload_n 0, 1) := by decide +kernel
theorem dX12_takeOrdered_39 : decode cX12_takeOrdered 39 = .ok (.invokevirtual 218, 3) := by decide +kernel
theorem dX12_takeOrdered_42 : decode cX12_takeOrdered 42 = .ok (.goto 4, 3) := by decide +kernel
theorem dX12_takeOrdered_45 : decode cX12_takeOrdered 45 = .ok (.iconst (-1), 1) := by decide +kernel
theorem dX12_takeOrdered_46 : decode cX12_takeOrdered 46 = .ok (.istore 4, 2) := by decide +kernel
theorem dX12_takeOrdered_48 : decode cX12_takeOrdered 48 = .ok (.aload_n 0, 1) := by decide +kernel
theorem dX12_takeOrdered_49 : decode cX12_takeOrdered 49 = .ok (.invokevirtual 121, 3) := by decide +kernel
theorem dX12_takeOrdered_52 : decode cX12_takeOrdered 52 = .ok (.ifCond .eq 11, 3) := by decide +kernel
theorem dX12_takeOrdered_55 : decode cX12_takeOrdered 55 = .ok (.aload_n 0, 1) := by decide +kernel
theorem dX12_takeOrdered_56 : decode cX12_takeOrdered 56 = .ok (.getfield 92, 3) := by decide +kernel
theorem dX12_takeOrdered_59 : decode cX12_takeOrdered 59 = .ok (.iload_n 3, 1) := by decide +kernel
theorem dX12_takeOrdered_60 : decode cX12_takeOrdered 60 = .ok (.iload 4, 2) := by decide +kernel
theorem dX12_takeOrdered_62 : decode cX12_takeOrdered 62 = .ok (.iastore, 1) := by decide +kernel
theorem dX12_takeOrdered_63 : decode cX12_takeOrdered 63 = .ok (.return_, 1) := by decide +kernel
theorem dX12_longInstance_0 : decode cX12_longInstance 0 = .ok (.aload_n 0, 1) := by decide +kernel
theorem dX12_longInstance_1 : decode cX12_longInstance 1 = .ok (.invokevirtual 185, 3) := by decide +kernel
theorem dX12_longInstance_4 : decode cX12_longInstance 4 = .ok (.aload_n 0, 1) := by decide +kernel
theorem dX12_longInstance_5 : decode cX12_longInstance 5 = .ok (.getfield 132, 3) := by decide +kernel
theorem dX12_longInstance_8 : decode cX12_longInstance 8 = .ok (.istore_n 1, 1) := by decide +kernel
theorem dX12_longInstance_9 : decode cX12_longInstance 9 = .ok (.aload_n 0, 1) := by decide +kernel
theorem dX12_longInstance_10 : decode cX12_longInstance 10 = .ok (.invokevirtual 169, 3) := by decide +kernel
theorem dX12_longInstance_13 : decode cX12_longInstance 13 = .ok (.aload_n 0, 1) := by decide +kernel
theorem dX12_longInstance_14 : decode cX12_longInstance 14 = .ok (.invokevirtual 121, 3) := by decide +kernel
theorem dX12_longInstance_17 : decode cX12_longInstance 17 = .ok (.ifCond .eq 11, 3) := by decide +kernel
theorem dX12_longInstance_20 : decode cX12_longInstance 20 = .ok (.aload_n 0, 1) := by decide +kernel
theorem dX12_longInstance_21 : decode cX12_longInstance 21 = .ok (.iload_n 1, 1) := by decide +kernel
theorem dX12_longInstance_22 : decode cX12_longInstance 22 = .ok (.invokevirtual 227, 3) := by decide +kernel
theorem dX12_longInstance_25 : decode cX12_longInstance 25 = .ok (.goto 4, 3) := by decide +kernel
theorem dX12_longInstance_28 : decode cX12_longInstance 28 = .ok (.iconst (-1), 1) := by decide +kernel
theorem dX12_longInstance_29 : decode cX12_longInstance 29 = .ok (.istore_n 2, 1) := by decide +kernel
theorem dX12_longInstance_30 : decode cX12_longInstance 30 = .ok (.aload_n 0, 1) := by decide +kernel
theorem dX12_longInstance_31 : decode cX12_longInstance 31 = .ok (.bipush 40, 2) := by decide +kernel
theorem dX12_longInstance_33 : decode cX12_longInstance 33 = .ok (.invokevirtual 199, 3) := by decide +kernel
theorem dX12_longInstance_36 : decode cX12_longInstance 36 = .ok (.aload_n 0, 1) := by decide +kernel
theorem dX12_longInstance_37 : decode cX12_longInstance 37 = .ok (.invokevirtual 121, 3) := by decide +kernel
theorem dX12_longInstance_40 : decode cX12_longInstance 40 = .ok (.ifCond .eq 83, 3) := by decide +kernel
theorem dX12_longInstance_43 : decode cX12_longInstance 43 = .ok (.aload_n 0, 1) := by decide +kernel
theorem dX12_longInstance_44 : decode cX12_longInstance 44 = .ok (.bipush 41, 2) := by decide +kernel
theorem dX12_longInstance_46 : decode cX12_longInstance 46 = .ok (.invokevirtual 166, 3) := by decide +kernel
theorem dX12_longInstance_49 : decode cX12_longInstance 49 = .ok (.ifCond .ne 74, 3) := by decide +kernel
theorem dX12_longInstance_52 : decode cX12_longInstance 52 = .ok (.aload_n 0, 1) := by decide +kernel
theorem dX12_longInstance_53 : decode cX12_longInstance 53 = .ok (.bipush 46, 2) := by decide +kernel
theorem dX12_longInstance_55 : decode cX12_longInstance 55 = .ok (.invokevirtual 166, 3) := by decide +kernel
theorem dX12_longInstance_58 : decode cX12_longInstance 58 = .ok (.istore_n 3, 1) := by decide +kernel
theorem dX12_longInstance_59 : decode cX12_longInstance 59 = .ok (.aload_n 0, 1) := by decide +kernel
theorem dX12_longInstance_60 : decode cX12_longInstance 60 = .ok (.getfield 83, 3) := by decide +kernel
theorem dX12_longInstance_63 : decode cX12_longInstance 63 = .ok (.aload_n 0, 1) := by decide +kernel
theorem dX12_longInstance_64 : decode cX12_longInstance 64 = .ok (.iload_n 2, 1) := by decide +kernel
theorem dX12_longInstance_65 : decode cX12_longInstance 65 = .ok (.invokevirtual 221, 3) := by decide +kernel
theorem dX12_longInstance_68 : decode cX12_longInstance 68 = .ok (.iload_n 3, 1) := by decide +kernel
theorem dX12_longInstance_69 : decode cX12_longInstance 69 = .ok (.bastore, 1) := by decide +kernel
theorem dX12_longInstance_70 : decode cX12_longInstance 70 = .ok (.iconst 1, 1) := by decide +kernel
theorem dX12_longInstance_71 : decode cX12_longInstance 71 = .ok (.istore 4, 2) := by decide +kernel
theorem dX12_longInstance_73 : decode cX12_longInstance 73 = .ok (.iload 4, 2) := by decide +kernel
theorem dX12_longInstance_75 : decode cX12_longInstance 75 = .ok (.ifCond .eq 48, 3) := by decide +kernel
theorem dX12_longInstance_78 : decode cX12_longInstance 78 = .ok (.aload_n 0, 1) := by decide +kernel
theorem dX12_longInstance_79 : decode cX12_longInstance 79 = .ok (.invokevirtual 121, 3) := by decide +kernel
theorem dX12_longInstance_82 : decode cX12_longInstance 82 = .ok (.ifCond .eq 41, 3) := by decide +kernel
theorem dX12_longInstance_85 : decode cX12_longInstance 85 = .ok (.iload_n 3, 1) := by decide +kernel
theorem dX12_longInstance_86 : decode cX12_longInstance 86 = .ok (.ifCond .eq 11, 3) := by decide +kernel
theorem dX12_longInstance_89 : decode cX12_longInstance 89 = .ok (.aload_n 0, 1) := by decide +kernel
theorem dX12_longInstance_90 : decode cX12_longInstance 90 = .ok (.iload_n 2, 1) := by decide +kernel
theorem dX12_longInstance_91 : decode cX12_longInstance 91 = .ok (.invokevirtual 230, 3) := by decide +kernel
theorem dX12_longInstance_94 : decode cX12_longInstance 94 = .ok (.goto 9, 3) := by decide +kernel
theorem dX12_longInstance_97 : decode cX12_longInstance 97 = .ok (.aload_n 0, 1) := by decide +kernel
theorem dX12_longInstance_98 : decode cX12_longInstance 98 = .ok (.iload_n 2, 1) := by decide +kernel
theorem dX12_longInstance_99 : decode cX12_longInstance 99 = .ok (.iconst 1, 1) := by decide +kernel
theorem dX12_longInstance_100 : decode cX12_longInstance 100 = .ok (.invokevirtual 233, 3) := by decide +kernel
theorem dX12_longInstance_103 : decode cX12_longInstance 103 = .ok (.aload_n 0, 1) := by decide +kernel
theorem dX12_longInstance_104 : decode cX12_longInstance 104 = .ok (.bipush 44, 2) := by decide +kernel
theorem dX12_longInstance_106 : decode cX12_longInstance 106 = .ok (.invokevirtual 166, 3) := by decide +kernel
theorem dX12_longInstance_109 : decode cX12_longInstance 109 = .ok (.istore 4, 2) := by decide +kernel
theorem dX12_longInstance_111 : decode cX12_longInstance 111 = .ok (.iload 4, 2) := by decide +kernel
theorem dX12_longInstance_113 : decode cX12_longInstance 113 = .ok (.ifCond .eq (-40), 3) := by decide +kernel
theorem dX12_longInstance_116 : decode cX12_longInstance 116 = .ok (.aload_n 0, 1) := by decide +kernel
theorem dX12_longInstance_117 : decode cX12_longInstance 117 = .ok (.invokevirtual 169, 3) := by decide +kernel
theorem dX12_longInstance_120 : decode cX12_longInstance 120 = .ok (.goto (-47), 3) := by decide +kernel
theorem dX12_longInstance_123 : decode cX12_longInstance 123 = .ok (.aload_n 0, 1) := by decide +kernel
theorem dX12_longInstance_124 : decode cX12_longInstance 124 = .ok (.bipush 41, 2) := by decide +kernel
theorem dX12_longInstance_126 : decode cX12_longInstance 126 = .ok (.invokevirtual 199, 3) := by decide +kernel
theorem dX12_longInstance_129 : decode cX12_longInstance 129 = .ok (.aload_n 0, 1) := by decide +kernel
theorem dX12_longInstance_130 : decode cX12_longInstance 130 = .ok (.bipush 59, 2) := by decide +kernel
theorem dX12_longInstance_132 : decode cX12_longInstance 132 = .ok (.invokevirtual 199, 3) := by decide +kernel
theorem dX12_longInstance_135 : decode cX12_longInstance 135 = .ok (.return_, 1) := by decide +kernel
theorem dX12_shortInstance_0 : decode cX12_shortInstance 0 = .ok (.aload_n 0, 1) := by decide +kernel
theorem dX12_shortInstance_1 : decode cX12_shortInstance 1 = .ok (.invokevirtual 169, 3) := by decide +kernel
theorem dX12_shortInstance_4 : decode cX12_shortInstance 4 = .ok (.aload_n 0, 1) := by decide +kernel
theorem dX12_shortInstance_5 : decode cX12_shortInstance 5 = .ok (.invokevirtual 185, 3) := by decide +kernel
theorem dX12_shortInstance_8 : decode cX12_shortInstance 8 = .ok (.aload_n 0, 1) := by decide +kernel
theorem dX12_shortInstance_9 : decode cX12_shortInstance 9 = .ok (.getfield 132, 3) := by decide +kernel
theorem dX12_shortInstance_12 : decode cX12_shortInstance 12 = .ok (.istore_n 1, 1) := by decide +kernel
theorem dX12_shortInstance_13 : decode cX12_shortInstance 13 = .ok (.aload_n 0, 1) := by decide +kernel
theorem dX12_shortInstance_14 : decode cX12_shortInstance 14 = .ok (.invokevirtual 169, 3) := by decide +kernel
theorem dX12_shortInstance_17 : decode cX12_shortInstance 17 = .ok (.aload_n 0, 1) := by decide +kernel
theorem dX12_shortInstance_18 : decode cX12_shortInstance 18 = .ok (.invokevirtual 121, 3) := by decide +kernel
theorem dX12_shortInstance_21 : decode cX12_shortInstance 21 = .ok (.ifCond .eq 11, 3) := by decide +kernel
theorem dX12_shortInstance_24 : decode cX12_shortInstance 24 = .ok (.aload_n 0, 1) := by decide +kernel
theorem dX12_shortInstance_25 : decode cX12_shortInstance 25 = .ok (.iload_n 1, 1) := by decide +kernel
theorem dX12_shortInstance_26 : decode cX12_shortInstance 26 = .ok (.invokevirtual 227, 3) := by decide +kernel
theorem dX12_shortInstance_29 : decode cX12_shortInstance 29 = .ok (.goto 4, 3) := by decide +kernel
theorem dX12_shortInstance_32 : decode cX12_shortInstance 32 = .ok (.iconst (-1), 1) := by decide +kernel
theorem dX12_shortInstance_33 : decode cX12_shortInstance 33 = .ok (.istore_n 2, 1) := by decide +kernel
theorem dX12_shortInstance_34 : decode cX12_shortInstance 34 = .ok (.aload_n 0, 1) := by decide +kernel
theorem dX12_shortInstance_35 : decode cX12_shortInstance 35 = .ok (.invokevirtual 121, 3) := by decide +kernel
theorem dX12_shortInstance_38 : decode cX12_shortInstance 38 = .ok (.ifCond .eq 21, 3) := by decide +kernel
theorem dX12_shortInstance_41 : decode cX12_shortInstance 41 = .ok (.aload_n 0, 1) := by decide +kernel
theorem dX12_shortInstance_42 : decode cX12_shortInstance 42 = .ok (.bipush 59, 2) := by decide +kernel
theorem dX12_shortInstance_44 : decode cX12_shortInstance 44 = .ok (.invokevirtual 166, 3) := by decide +kernel
theorem dX12_shortInstance_47 : decode cX12_shortInstance 47 = .ok (.ifCond .ne 12, 3) := by decide +kernel
theorem dX12_shortInstance_50 : decode cX12_shortInstance 50 = .ok (.aload_n 0, 1) := by decide +kernel
theorem dX12_shortInstance_51 : decode cX12_shortInstance 51 = .ok (.iload_n 2, 1) := by decide +kernel
theorem dX12_shortInstance_52 : decode cX12_shortInstance 52 = .ok (.iconst 0, 1) := by decide +kernel
theorem dX12_shortInstance_53 : decode cX12_shortInstance 53 = .ok (.invokevirtual 233, 3) := by decide +kernel
theorem dX12_shortInstance_56 : decode cX12_shortInstance 56 = .ok (.goto (-22), 3) := by decide +kernel
theorem dX12_shortInstance_59 : decode cX12_shortInstance 59 = .ok (.aload_n 0, 1) := by decide +kernel
theorem dX12_shortInstance_60 : decode cX12_shortInstance 60 = .ok (.bipush 59, 2) := by decide +kernel
theorem dX12_shortInstance_62 : decode cX12_shortInstance 62 = .ok (.invokevirtual 199, 3) := by decide +kernel
theorem dX12_shortInstance_65 : decode cX12_shortInstance 65 = .ok (.return_, 1) := by decide +kernel
theorem dX12_takeModule_0 : decode cX12_takeModule 0 = .ok (.aload_n 0, 1) := by decide +kernel
theorem dX12_takeModule_1 : decode cX12_takeModule 1 = .ok (.invokevirtual 185, 3) := by decide +kernel
theorem dX12_takeModule_4 : decode cX12_takeModule 4 = .ok (.iconst 0, 1) := by decide +kernel
theorem dX12_takeModule_5 : decode cX12_takeModule 5 = .ok (.istore_n 1, 1) := by decide +kernel
theorem dX12_takeModule_6 : decode cX12_takeModule 6 = .ok (.iload_n 1, 1) := by decide +kernel
theorem dX12_takeModule_7 : decode cX12_takeModule 7 = .ok (.aload_n 0, 1) := by decide +kernel
theorem dX12_takeModule_8 : decode cX12_takeModule 8 = .ok (.getfield 172, 3) := by decide +kernel
theorem dX12_takeModule_11 : decode cX12_takeModule 11 = .ok (.if_icmp .ge 49, 3) := by decide +kernel
theorem dX12_takeModule_14 : decode cX12_takeModule 14 = .ok (.aload_n 0, 1) := by decide +kernel
theorem dX12_takeModule_15 : decode cX12_takeModule 15 = .ok (.invokevirtual 121, 3) := by decide +kernel
theorem dX12_takeModule_18 : decode cX12_takeModule 18 = .ok (.ifCond .eq 42, 3) := by decide +kernel
theorem dX12_takeModule_21 : decode cX12_takeModule 21 = .ok (.aload_n 0, 1) := by decide +kernel
theorem dX12_takeModule_22 : decode cX12_takeModule 22 = .ok (.aload_n 0, 1) := by decide +kernel
theorem dX12_takeModule_23 : decode cX12_takeModule 23 = .ok (.getfield 22, 3) := by decide +kernel
theorem dX12_takeModule_26 : decode cX12_takeModule 26 = .ok (.bipush 8, 2) := by decide +kernel
theorem dX12_takeModule_28 : decode cX12_takeModule 28 = .ok (.aload_n 0, 1) := by decide +kernel
theorem dX12_takeModule_29 : decode cX12_takeModule 29 = .ok (.getfield 118, 3) := by decide +kernel
theorem dX12_takeModule_32 : decode cX12_takeModule 32 = .ok (.imul, 1) := by decide +kernel
theorem dX12_takeModule_33 : decode cX12_takeModule 33 = .ok (.iload_n 1, 1) := by decide +kernel
theorem dX12_takeModule_34 : decode cX12_takeModule 34 = .ok (.iadd, 1) := by decide +kernel
theorem dX12_takeModule_35 : decode cX12_takeModule 35 = .ok (.iaload, 1) := by decide +kernel
theorem dX12_takeModule_36 : decode cX12_takeModule 36 = .ok (.aload_n 0, 1) := by decide +kernel
theorem dX12_takeModule_37 : decode cX12_takeModule 37 = .ok (.getfield 132, 3) := by decide +kernel
theorem dX12_takeModule_40 : decode cX12_takeModule 40 = .ok (.invokevirtual 181, 3) := by decide +kernel
theorem dX12_takeModule_43 : decode cX12_takeModule 43 = .ok (.ifCond .eq 11, 3) := by decide +kernel
theorem dX12_takeModule_46 : decode cX12_takeModule 46 = .ok (.aload_n 0, 1) := by decide +kernel
theorem dX12_takeModule_47 : decode cX12_takeModule 47 = .ok (.aload_n 0, 1) := by decide +kernel
theorem dX12_takeModule_48 : decode cX12_takeModule 48 = .ok (.getfield 132, 3) := by decide +kernel
theorem dX12_takeModule_51 : decode cX12_takeModule 51 = .ok (.invokevirtual 150, 3) := by decide +kernel
theorem dX12_takeModule_54 : decode cX12_takeModule 54 = .ok (.iinc 1 1, 3) := by decide +kernel
theorem dX12_takeModule_57 : decode cX12_takeModule 57 = .ok (.goto (-51), 3) := by decide +kernel
theorem dX12_takeModule_60 : decode cX12_takeModule 60 = .ok (.aload_n 0, 1) := by decide +kernel
theorem dX12_takeModule_61 : decode cX12_takeModule 61 = .ok (.invokevirtual 121, 3) := by decide +kernel
theorem dX12_takeModule_64 : decode cX12_takeModule 64 = .ok (.ifCond .eq 20, 3) := by decide +kernel
theorem dX12_takeModule_67 : decode cX12_takeModule 67 = .ok (.aload_n 0, 1) := by decide +kernel
theorem dX12_takeModule_68 : decode cX12_takeModule 68 = .ok (.getfield 172, 3) := by decide +kernel
theorem dX12_takeModule_71 : decode cX12_takeModule 71 = .ok (.bipush 8, 2) := by decide +kernel
theorem dX12_takeModule_73 : decode cX12_takeModule 73 = .ok (.if_icmp .ne 11, 3) := by decide +kernel
theorem dX12_takeModule_76 : decode cX12_takeModule 76 = .ok (.aload_n 0, 1) := by decide +kernel
theorem dX12_takeModule_77 : decode cX12_takeModule 77 = .ok (.aload_n 0, 1) := by decide +kernel
theorem dX12_takeModule_78 : decode cX12_takeModule 78 = .ok (.getfield 132, 3) := by decide +kernel
theorem dX12_takeModule_81 : decode cX12_takeModule 81 = .ok (.invokevirtual 150, 3) := by decide +kernel
theorem dX12_takeModule_84 : decode cX12_takeModule 84 = .ok (.aload_n 0, 1) := by decide +kernel
theorem dX12_takeModule_85 : decode cX12_takeModule 85 = .ok (.invokevirtual 121, 3) := by decide +kernel
theorem dX12_takeModule_88 : decode cX12_takeModule 88 = .ok (.ifCond .eq 56, 3) := by decide +kernel
theorem dX12_takeModule_91 : decode cX12_takeModule 91 = .ok (.aload_n 0, 1) := by decide +kernel
theorem dX12_takeModule_92 : decode cX12_takeModule 92 = .ok (.getfield 22, 3) := by decide +kernel
theorem dX12_takeModule_95 : decode cX12_takeModule 95 = .ok (.aload_n 0, 1) := by decide +kernel
theorem dX12_takeModule_96 : decode cX12_takeModule 96 = .ok (.invokevirtual 175, 3) := by decide +kernel
theorem dX12_takeModule_99 : decode cX12_takeModule 99 = .ok (.aload_n 0, 1) := by decide +kernel
theorem dX12_takeModule_100 : decode cX12_takeModule 100 = .ok (.getfield 132, 3) := by decide +kernel
theorem dX12_takeModule_103 : decode cX12_takeModule 103 = .ok (.iastore, 1) := by decide +kernel
theorem dX12_takeModule_104 : decode cX12_takeModule 104 = .ok (.aload_n 0, 1) := by decide +kernel
theorem dX12_takeModule_105 : decode cX12_takeModule 105 = .ok (.getfield 25, 3) := by decide +kernel
theorem dX12_takeModule_108 : decode cX12_takeModule 108 = .ok (.aload_n 0, 1) := by decide +kernel
theorem dX12_takeModule_109 : decode cX12_takeModule 109 = .ok (.invokevirtual 175, 3) := by decide +kernel
theorem dX12_takeModule_112 : decode cX12_takeModule 112 = .ok (.iconst 0, 1) := by decide +kernel
theorem dX12_takeModule_113 : decode cX12_takeModule 113 = .ok (.iastore, 1) := by decide +kernel
theorem dX12_takeModule_114 : decode cX12_takeModule 114 = .ok (.aload_n 0, 1) := by decide +kernel
theorem dX12_takeModule_115 : decode cX12_takeModule 115 = .ok (.getfield 28, 3) := by decide +kernel
theorem dX12_takeModule_118 : decode cX12_takeModule 118 = .ok (.aload_n 0, 1) := by decide +kernel
theorem dX12_takeModule_119 : decode cX12_takeModule 119 = .ok (.invokevirtual 175, 3) := by decide +kernel
theorem dX12_takeModule_122 : decode cX12_takeModule 122 = .ok (.iconst 0, 1) := by decide +kernel
theorem dX12_takeModule_123 : decode cX12_takeModule 123 = .ok (.iastore, 1) := by decide +kernel
theorem dX12_takeModule_124 : decode cX12_takeModule 124 = .ok (.aload_n 0, 1) := by decide +kernel
theorem dX12_takeModule_125 : decode cX12_takeModule 125 = .ok (.getfield 65, 3) := by decide +kernel
theorem dX12_takeModule_128 : decode cX12_takeModule 128 = .ok (.aload_n 0, 1) := by decide +kernel
theorem dX12_takeModule_129 : decode cX12_takeModule 129 = .ok (.invokevirtual 175, 3) := by decide +kernel
theorem dX12_takeModule_132 : decode cX12_takeModule 132 = .ok (.iconst 0, 1) := by decide +kernel
theorem dX12_takeModule_133 : decode cX12_takeModule 133 = .ok (.iastore, 1) := by decide +kernel
theorem dX12_takeModule_134 : decode cX12_takeModule 134 = .ok (.aload_n 0, 1) := by decide +kernel
theorem dX12_takeModule_135 : decode cX12_takeModule 135 = .ok (.getfield 74, 3) := by decide +kernel
theorem dX12_takeModule_138 : decode cX12_takeModule 138 = .ok (.aload_n 0, 1) := by decide +kernel
theorem dX12_takeModule_139 : decode cX12_takeModule 139 = .ok (.invokevirtual 175, 3) := by decide +kernel
theorem dX12_takeModule_142 : decode cX12_takeModule 142 = .ok (.iconst 0, 1) := by decide +kernel
theorem dX12_takeModule_143 : decode cX12_takeModule 143 = .ok (.iastore, 1) := by decide +kernel
theorem dX12_takeModule_144 : decode cX12_takeModule 144 = .ok (.aload_n 0, 1) := by decide +kernel
theorem dX12_takeModule_145 : decode cX12_takeModule 145 = .ok (.invokevirtual 169, 3) := by decide +kernel
theorem dX12_takeModule_148 : decode cX12_takeModule 148 = .ok (.return_, 1) := by decide +kernel
theorem dX12_longModule_0 : decode cX12_longModule 0 = .ok (.aload_n 0, 1) := by decide +kernel
theorem dX12_longModule_1 : decode cX12_longModule 1 = .ok (.iconst 0, 1) := by decide +kernel
theorem dX12_longModule_2 : decode cX12_longModule 2 = .ok (.invokevirtual 237, 3) := by decide +kernel
theorem dX12_longModule_5 : decode cX12_longModule 5 = .ok (.ifCond .ne 11, 3) := by decide +kernel
theorem dX12_longModule_8 : decode cX12_longModule 8 = .ok (.aload_n 0, 1) := by decide +kernel
theorem dX12_longModule_9 : decode cX12_longModule 9 = .ok (.aload_n 0, 1) := by decide +kernel
theorem dX12_longModule_10 : decode cX12_longModule 10 = .ok (.getfield 132, 3) := by decide +kernel
theorem dX12_longModule_13 : decode cX12_longModule 13 = .ok (.invokevirtual 150, 3) := by decide +kernel
theorem dX12_longModule_16 : decode cX12_longModule 16 = .ok (.aload_n 0, 1) := by decide +kernel
theorem dX12_longModule_17 : decode cX12_longModule 17 = .ok (.invokevirtual 169, 3) := by decide +kernel
theorem dX12_longModule_20 : decode cX12_longModule 20 = .ok (.aload_n 0, 1) := by decide +kernel
theorem dX12_longModule_21 : decode cX12_longModule 21 = .ok (.invokevirtual 240, 3) := by decide +kernel
theorem dX12_longModule_24 : decode cX12_longModule 24 = .ok (.aload_n 0, 1) := by decide +kernel
theorem dX12_longModule_25 : decode cX12_longModule 25 = .ok (.bipush 40, 2) := by decide +kernel
theorem dX12_longModule_27 : decode cX12_longModule 27 = .ok (.invokevirtual 199, 3) := by decide +kernel
theorem dX12_longModule_30 : decode cX12_longModule 30 = .ok (.aload_n 0, 1) := by decide +kernel
theorem dX12_longModule_31 : decode cX12_longModule 31 = .ok (.invokevirtual 121, 3) := by decide +kernel
theorem dX12_longModule_34 : decode cX12_longModule 34 = .ok (.ifCond .eq 47, 3) := by decide +kernel
theorem dX12_longModule_37 : decode cX12_longModule 37 = .ok (.aload_n 0, 1) := by decide +kernel
theorem dX12_longModule_38 : decode cX12_longModule 38 = .ok (.bipush 41, 2) := by decide +kernel
theorem dX12_longModule_40 : decode cX12_longModule 40 = .ok (.invokevirtual 166, 3) := by decide +kernel
theorem dX12_longModule_43 : decode cX12_longModule 43 = .ok (.ifCond .ne 38, 3) := by decide +kernel
theorem dX12_longModule_46 : decode cX12_longModule 46 = .ok (.iconst 1, 1) := by decide +kernel
theorem dX12_longModule_47 : decode cX12_longModule 47 = .ok (.istore_n 1, 1) := by decide +kernel
theorem dX12_longModule_48 : decode cX12_longModule 48 = .ok (.iload_n 1, 1) := by decide +kernel
theorem dX12_longModule_49 : decode cX12_longModule 49 = .ok (.ifCond .eq 32, 3) := by decide +kernel
theorem dX12_longModule_52 : decode cX12_longModule 52 = .ok (.aload_n 0, 1) := by decide +kernel
theorem dX12_longModule_53 : decode cX12_longModule 53 = .ok (.invokevirtual 121, 3) := by decide +kernel
theorem dX12_longModule_56 : decode cX12_longModule 56 = .ok (.ifCond .eq 25, 3) := by decide +kernel
theorem dX12_longModule_59 : decode cX12_longModule 59 = .ok (.aload_n 0, 1) := by decide +kernel
theorem dX12_longModule_60 : decode cX12_longModule 60 = .ok (.invokevirtual 243, 3) := by decide +kernel
theorem dX12_longModule_63 : decode cX12_longModule 63 = .ok (.aload_n 0, 1) := by decide +kernel
theorem dX12_longModule_64 : decode cX12_longModule 64 = .ok (.bipush 44, 2) := by decide +kernel
theorem dX12_longModule_66 : decode cX12_longModule 66 = .ok (.invokevirtual 166, 3) := by decide +kernel
theorem dX12_longModule_69 : decode cX12_longModule 69 = .ok (.istore_n 1, 1) := by decide +kernel
theorem dX12_longModule_70 : decode cX12_longModule 70 = .ok (.iload_n 1, 1) := by decide +kernel
theorem dX12_longModule_71 : decode cX12_longModule 71 = .ok (.ifCond .eq (-23), 3) := by decide +kernel
theorem dX12_longModule_74 : decode cX12_longModule 74 = .ok (.aload_n 0, 1) := by decide +kernel
theorem dX12_longModule_75 : decode cX12_longModule 75 = .ok (.invokevirtual 169, 3) := by decide +kernel
theorem dX12_longModule_78 : decode cX12_longModule 78 = .ok (.goto (-30), 3) := by decide +kernel
theorem dX12_longModule_81 : decode cX12_longModule 81 = .ok (.aload_n 0, 1) := by decide +kernel
theorem dX12_longModule_82 : decode cX12_longModule 82 = .ok (.bipush 41, 2) := by decide +kernel
theorem dX12_longModule_84 : decode cX12_longModule 84 = .ok (.invokevirtual 199, 3) := by decide +kernel
theorem dX12_longModule_87 : decode cX12_longModule 87 = .ok (.aload_n 0, 1) := by decide +kernel
theorem dX12_longModule_88 : decode cX12_longModule 88 = .ok (.bipush 59, 2) := by decide +kernel
theorem dX12_longModule_90 : decode cX12_longModule 90 = .ok (.invokevirtual 199, 3) := by decide +kernel
theorem dX12_longModule_93 : decode cX12_longModule 93 = .ok (.aload_n 0, 1) := by decide +kernel
theorem dX12_longModule_94 : decode cX12_longModule 94 = .ok (.invokevirtual 121, 3) := by decide +kernel
theorem dX12_longModule_97 : decode cX12_longModule 97 = .ok (.ifCond .eq 56, 3) := by decide +kernel
theorem dX12_longModule_100 : decode cX12_longModule 100 = .ok (.aload_n 0, 1) := by decide +kernel
theorem dX12_longModule_101 : decode cX12_longModule 101 = .ok (.iconst 5, 1) := by decide +kernel
theorem dX12_longModule_102 : decode cX12_longModule 102 = .ok (.invokevirtual 237, 3) := by decide +kernel
theorem dX12_longModule_105 : decode cX12_longModule 105 = .ok (.ifCond .ne 48, 3) := by decide +kernel
theorem dX12_longModule_108 : decode cX12_longModule 108 = .ok (.aload_n 0, 1) := by decide +kernel
theorem dX12_longModule_109 : decode cX12_longModule 109 = .ok (.invokevirtual 162, 3) := by decide +kernel
theorem dX12_longModule_112 : decode cX12_longModule 112 = .ok (.istore_n 1, 1) := by decide +kernel
theorem dX12_longModule_113 : decode cX12_longModule 113 = .ok (.iload_n 1, 1) := by decide +kernel
theorem dX12_longModule_114 : decode cX12_longModule 114 = .ok (.iconst 1, 1) := by decide +kernel
theorem dX12_longModule_115 : decode cX12_longModule 115 = .ok (.if_icmp .lt 18, 3) := by decide +kernel
theorem dX12_longModule_118 : decode cX12_longModule 118 = .ok (.iload_n 1, 1) := by decide +kernel
theorem dX12_longModule_119 : decode cX12_longModule 119 = .ok (.iconst 3, 1) := by decide +kernel
theorem dX12_longModule_120 : decode cX12_longModule 120 = .ok (.if_icmp .gt 13, 3) := by decide +kernel
theorem dX12_longModule_123 : decode cX12_longModule 123 = .ok (.aload_n 0, 1) := by decide +kernel
theorem dX12_longModule_124 : decode cX12_longModule 124 = .ok (.iload_n 1, 1) := by decide +kernel
theorem dX12_longModule_125 : decode cX12_longModule 125 = .ok (.iconst 1, 1) := by decide +kernel
theorem dX12_longModule_126 : decode cX12_longModule 126 = .ok (.isub, 1) := by decide +kernel
theorem dX12_longModule_127 : decode cX12_longModule 127 = .ok (.invokevirtual 246, 3) := by decide +kernel
theorem dX12_longModule_130 : decode cX12_longModule 130 = .ok (.goto 20, 3) := by decide +kernel
theorem dX12_longModule_133 : decode cX12_longModule 133 = .ok (.iload_n 1, 1) := by decide +kernel
theorem dX12_longModule_134 : decode cX12_longModule 134 = .ok (.iconst 4, 1) := by decide +kernel
theorem dX12_longModule_135 : decode cX12_longModule 135 = .ok (.if_icmp .ne 11, 3) := by decide +kernel
theorem dX12_longModule_138 : decode cX12_longModule 138 = .ok (.aload_n 0, 1) := by decide +kernel
theorem dX12_longModule_139 : decode cX12_longModule 139 = .ok (.iconst 1, 1) := by decide +kernel
theorem dX12_longModule_140 : decode cX12_longModule 140 = .ok (.invokevirtual 249, 3) := by decide +kernel
theorem dX12_longModule_143 : decode cX12_longModule 143 = .ok (.goto 7, 3) := by decide +kernel
theorem dX12_longModule_146 : decode cX12_longModule 146 = .ok (.aload_n 0, 1) := by decide +kernel
theorem dX12_longModule_147 : decode cX12_longModule 147 = .ok (.invokevirtual 253, 3) := by decide +kernel
theorem dX12_longModule_150 : decode cX12_longModule 150 = .ok (.goto (-57), 3) := by decide +kernel
theorem dX12_longModule_153 : decode cX12_longModule 153 = .ok (.iconst 0, 1) := by decide +kernel
theorem dX12_longModule_154 : decode cX12_longModule 154 = .ok (.istore_n 1, 1) := by decide +kernel
theorem dX12_longModule_155 : decode cX12_longModule 155 = .ok (.aload_n 0, 1) := by decide +kernel
theorem dX12_longModule_156 : decode cX12_longModule 156 = .ok (.invokevirtual 121, 3) := by decide +kernel
theorem dX12_longModule_159 : decode cX12_longModule 159 = .ok (.ifCond .eq 43, 3) := by decide +kernel
theorem dX12_longModule_162 : decode cX12_longModule 162 = .ok (.iload_n 1, 1) := by decide +kernel
theorem dX12_longModule_163 : decode cX12_longModule 163 = .ok (.aload_n 0, 1) := by decide +kernel
theorem dX12_longModule_164 : decode cX12_longModule 164 = .ok (.getfield 25, 3) := by decide +kernel
theorem dX12_longModule_167 : decode cX12_longModule 167 = .ok (.aload_n 0, 1) := by decide +kernel
theorem dX12_longModule_168 : decode cX12_longModule 168 = .ok (.invokevirtual 175, 3) := by decide +kernel
theorem dX12_longModule_171 : decode cX12_longModule 171 = .ok (.iaload, 1) := by decide +kernel
theorem dX12_longModule_172 : decode cX12_longModule 172 = .ok (.if_icmp .ge 30, 3) := by decide +kernel
theorem dX12_longModule_175 : decode cX12_longModule 175 = .ok (.aload_n 0, 1) := by decide +kernel
theorem dX12_longModule_176 : decode cX12_longModule 176 = .ok (.getfield 43, 3) := by decide +kernel
theorem dX12_longModule_179 : decode cX12_longModule 179 = .ok (.aload_n 0, 1) := by decide +kernel
theorem dX12_longModule_180 : decode cX12_longModule 180 = .ok (.iload_n 1, 1) := by decide +kernel
theorem dX12_longModule_181 : decode cX12_longModule 181 = .ok (.invokevirtual 178, 3) := by decide +kernel
theorem dX12_longModule_184 : decode cX12_longModule 184 = .ok (.baload, 1) := by decide +kernel
theorem dX12_longModule_185 : decode cX12_longModule 185 = .ok (.ifCond .ne 11, 3) := by decide +kernel
theorem dX12_longModule_188 : decode cX12_longModule 188 = .ok (.aload_n 0, 1) := by decide +kernel
theorem dX12_longModule_189 : decode cX12_longModule 189 = .ok (.aload_n 0, 1) := by decide +kernel
theorem dX12_longModule_190 : decode cX12_longModule 190 = .ok (.getfield 132, 3) := by decide +kernel
theorem dX12_longModule_193 : decode cX12_longModule 193 = .ok (.invokevirtual 150, 3) := by decide +kernel
theorem dX12_longModule_196 : decode cX12_longModule 196 = .ok (.iinc 1 1, 3) := by decide +kernel
theorem dX12_longModule_199 : decode cX12_longModule 199 = .ok (.goto (-44), 3) := by decide +kernel
theorem dX12_longModule_202 : decode cX12_longModule 202 = .ok (.aload_n 0, 1) := by decide +kernel
theorem dX12_longModule_203 : decode cX12_longModule 203 = .ok (.invokevirtual 169, 3) := by decide +kernel
theorem dX12_longModule_206 : decode cX12_longModule 206 = .ok (.return_, 1) := by decide +kernel
theorem dX12_shortNet_0 : decode cX12_shortNet 0 = .ok (.aload_n 0, 1) := by decide +kernel
theorem dX12_shortNet_1 : decode cX12_shortNet 1 = .ok (.invokevirtual 169, 3) := by decide +kernel
theorem dX12_shortNet_4 : decode cX12_shortNet 4 = .ok (.aload_n 0, 1) := by decide +kernel
theorem dX12_shortNet_5 : decode cX12_shortNet 5 = .ok (.invokevirtual 185, 3) := by decide +kernel
theorem dX12_shortNet_8 : decode cX12_shortNet 8 = .ok (.aload_n 0, 1) := by decide +kernel
theorem dX12_shortNet_9 : decode cX12_shortNet 9 = .ok (.invokevirtual 121, 3) := by decide +kernel
theorem dX12_shortNet_12 : decode cX12_shortNet 12 = .ok (.ifCond .eq 37, 3) := by decide +kernel
theorem dX12_shortNet_15 : decode cX12_shortNet 15 = .ok (.aload_n 0, 1) := by decide +kernel
theorem dX12_shortNet_16 : decode cX12_shortNet 16 = .ok (.aload_n 0, 1) := by decide +kernel
theorem dX12_shortNet_17 : decode cX12_shortNet 17 = .ok (.getfield 132, 3) := by decide +kernel
theorem dX12_shortNet_20 : decode cX12_shortNet 20 = .ok (.invokevirtual 188, 3) := by decide +kernel
theorem dX12_shortNet_23 : decode cX12_shortNet 23 = .ok (.iconst (-1), 1) := by decide +kernel
theorem dX12_shortNet_24 : decode cX12_shortNet 24 = .ok (.if_icmp .ne 17, 3) := by decide +kernel
theorem dX12_shortNet_27 : decode cX12_shortNet 27 = .ok (.aload_n 0, 1) := by decide +kernel
theorem dX12_shortNet_28 : decode cX12_shortNet 28 = .ok (.getfield 28, 3) := by decide +kernel
theorem dX12_shortNet_31 : decode cX12_shortNet 31 = .ok (.aload_n 0, 1) := by decide +kernel
theorem dX12_shortNet_32 : decode cX12_shortNet 32 = .ok (.invokevirtual 175, 3) := by decide +kernel
theorem dX12_shortNet_35 : decode cX12_shortNet 35 = .ok (.iaload, 1) := by decide +kernel
theorem dX12_shortNet_36 : decode cX12_shortNet 36 = .ok (.bipush 16, 2) := by decide +kernel
theorem dX12_shortNet_38 : decode cX12_shortNet 38 = .ok (.if_icmp .ne 11, 3) := by decide +kernel
theorem dX12_shortNet_41 : decode cX12_shortNet 41 = .ok (.aload_n 0, 1) := by decide +kernel
theorem dX12_shortNet_42 : decode cX12_shortNet 42 = .ok (.aload_n 0, 1) := by decide +kernel
theorem dX12_shortNet_43 : decode cX12_shortNet 43 = .ok (.getfield 132, 3) := by decide +kernel
theorem dX12_shortNet_46 : decode cX12_shortNet 46 = .ok (.invokevirtual 150, 3) := by decide +kernel
theorem dX12_shortNet_49 : decode cX12_shortNet 49 = .ok (.aload_n 0, 1) := by decide +kernel
theorem dX12_shortNet_50 : decode cX12_shortNet 50 = .ok (.getfield 132, 3) := by decide +kernel
theorem dX12_shortNet_53 : decode cX12_shortNet 53 = .ok (.istore_n 2, 1) := by decide +kernel
theorem dX12_shortNet_54 : decode cX12_shortNet 54 = .ok (.aload_n 0, 1) := by decide +kernel
theorem dX12_shortNet_55 : decode cX12_shortNet 55 = .ok (.invokevirtual 169, 3) := by decide +kernel
theorem dX12_shortNet_58 : decode cX12_shortNet 58 = .ok (.aload_n 0, 1) := by decide +kernel
theorem dX12_shortNet_59 : decode cX12_shortNet 59 = .ok (.iconst 1, 1) := by decide +kernel
theorem dX12_shortNet_60 : decode cX12_shortNet 60 = .ok (.bipush 8, 2) := by decide +kernel
theorem dX12_shortNet_62 : decode cX12_shortNet 62 = .ok (.invokevirtual 195, 3) := by decide +kernel
theorem dX12_shortNet_65 : decode cX12_shortNet 65 = .ok (.aload_n 0, 1) := by decide +kernel
theorem dX12_shortNet_66 : decode cX12_shortNet 66 = .ok (.getfield 144, 3) := by decide +kernel
theorem dX12_shortNet_69 : decode cX12_shortNet 69 = .ok (.istore_n 3, 1) := by decide +kernel
theorem dX12_shortNet_70 : decode cX12_shortNet 70 = .ok (.aload_n 0, 1) := by decide +kernel
theorem dX12_shortNet_71 : decode cX12_shortNet 71 = .ok (.invokevirtual 169, 3) := by decide +kernel
theorem dX12_shortNet_74 : decode cX12_shortNet 74 = .ok (.aload_n 0, 1) := by decide +kernel
theorem dX12_shortNet_75 : decode cX12_shortNet 75 = .ok (.bipush 59, 2) := by decide +kernel
theorem dX12_shortNet_77 : decode cX12_shortNet 77 = .ok (.invokevirtual 199, 3) := by decide +kernel
theorem dX12_shortNet_80 : decode cX12_shortNet 80 = .ok (.aload_n 0, 1) := by decide +kernel
theorem dX12_shortNet_81 : decode cX12_shortNet 81 = .ok (.invokevirtual 121, 3) := by decide +kernel
theorem dX12_shortNet_84 : decode cX12_shortNet 84 = .ok (.ifCond .ne 4, 3) := by decide +kernel
theorem dX12_shortNet_87 : decode cX12_shortNet 87 = .ok (.return_, 1) := by decide +kernel
theorem dX12_shortNet_88 : decode cX12_shortNet 88 = .ok (.iload_n 1, 1) := by decide +kernel
theorem dX12_shortNet_89 : decode cX12_shortNet 89 = .ok (.iconst 2, 1) := by decide +kernel
theorem dX12_shortNet_90 : decode cX12_shortNet 90 = .ok (.if_icmp .ge 15, 3) := by decide +kernel
theorem dX12_shortNet_93 : decode cX12_shortNet 93 = .ok (.aload_n 0, 1) := by decide +kernel
theorem dX12_shortNet_94 : decode cX12_shortNet 94 = .ok (.getfield 25, 3) := by decide +kernel
theorem dX12_shortNet_97 : decode cX12_shortNet 97 = .ok (.aload_n 0, 1) := by decide +kernel
theorem dX12_shortNet_98 : decode cX12_shortNet 98 = .ok (.invokevirtual 175, 3) := by decide +kernel
theorem dX12_shortNet_101 : decode cX12_shortNet 101 = .ok (.iaload, 1) := by decide +kernel
theorem dX12_shortNet_102 : decode cX12_shortNet 102 = .ok (.goto 12, 3) := by decide +kernel
theorem dX12_shortNet_105 : decode cX12_shortNet 105 = .ok (.aload_n 0, 1) := by decide +kernel
theorem dX12_shortNet_106 : decode cX12_shortNet 106 = .ok (.getfield 28, 3) := by decide +kernel
theorem dX12_shortNet_109 : decode cX12_shortNet 109 = .ok (.aload_n 0, 1) := by decide +kernel
theorem dX12_shortNet_110 : decode cX12_shortNet 110 = .ok (.invokevirtual 175, 3) := by decide +kernel
theorem dX12_shortNet_113 : decode cX12_shortNet 113 = .ok (.iaload, 1) := by decide +kernel
theorem dX12_shortNet_114 : decode cX12_shortNet 114 = .ok (.istore 4, 2) := by decide +kernel
theorem dX12_shortNet_116 : decode cX12_shortNet 116 = .ok (.aload_n 0, 1) := by decide +kernel
theorem dX12_shortNet_117 : decode cX12_shortNet 117 = .ok (.getfield 28, 3) := by decide +kernel
theorem dX12_shortNet_120 : decode cX12_shortNet 120 = .ok (.aload_n 0, 1) := by decide +kernel
theorem dX12_shortNet_121 : decode cX12_shortNet 121 = .ok (.invokevirtual 175, 3) := by decide +kernel
theorem dX12_shortNet_124 : decode cX12_shortNet 124 = .ok (.iaload, 1) := by decide +kernel
theorem dX12_shortNet_125 : decode cX12_shortNet 125 = .ok (.istore 5, 2) := by decide +kernel
theorem dX12_shortNet_127 : decode cX12_shortNet 127 = .ok (.iload 5, 2) := by decide +kernel
theorem dX12_shortNet_129 : decode cX12_shortNet 129 = .ok (.iload 4, 2) := by decide +kernel
theorem dX12_shortNet_131 : decode cX12_shortNet 131 = .ok (.if_icmp .le 27, 3) := by decide +kernel
theorem dX12_shortNet_134 : decode cX12_shortNet 134 = .ok (.aload_n 0, 1) := by decide +kernel
theorem dX12_shortNet_135 : decode cX12_shortNet 135 = .ok (.aload_n 0, 1) := by decide +kernel
theorem dX12_shortNet_136 : decode cX12_shortNet 136 = .ok (.iload 5, 2) := by decide +kernel
theorem dX12_shortNet_138 : decode cX12_shortNet 138 = .ok (.iconst 1, 1) := by decide +kernel
theorem dX12_shortNet_139 : decode cX12_shortNet 139 = .ok (.isub, 1) := by decide +kernel
theorem dX12_shortNet_140 : decode cX12_shortNet 140 = .ok (.invokevirtual 178, 3) := by decide +kernel
theorem dX12_shortNet_143 : decode cX12_shortNet 143 = .ok (.aload_n 0, 1) := by decide +kernel
theorem dX12_shortNet_144 : decode cX12_shortNet 144 = .ok (.iload 5, 2) := by decide +kernel
theorem dX12_shortNet_146 : decode cX12_shortNet 146 = .ok (.invokevirtual 178, 3) := by decide +kernel
theorem dX12_shortNet_149 : decode cX12_shortNet 149 = .ok (.invokevirtual 256, 3) := by decide +kernel
theorem dX12_shortNet_152 : decode cX12_shortNet 152 = .ok (.iinc 5 (-1), 3) := by decide +kernel
theorem dX12_shortNet_155 : decode cX12_shortNet 155 = .ok (.goto (-28), 3) := by decide +kernel
theorem dX12_shortNet_158 : decode cX12_shortNet 158 = .ok (.aload_n 0, 1) := by decide +kernel
theorem dX12_shortNet_159 : decode cX12_shortNet 159 = .ok (.getfield 31, 3) := by decide +kernel
theorem dX12_shortNet_162 : decode cX12_shortNet 162 = .ok (.aload_n 0, 1) := by decide +kernel
theorem dX12_shortNet_163 : decode cX12_shortNet 163 = .ok (.iload 4, 2) := by decide +kernel
theorem dX12_shortNet_165 : decode cX12_shortNet 165 = .ok (.invokevirtual 178, 3) := by decide +kernel
theorem dX12_shortNet_168 : decode cX12_shortNet 168 = .ok (.iload_n 2, 1) := by decide +kernel
theorem dX12_shortNet_169 : decode cX12_shortNet 169 = .ok (.iastore, 1) := by decide +kernel
theorem dX12_shortNet_170 : decode cX12_shortNet 170 = .ok (.aload_n 0, 1) := by decide +kernel
theorem dX12_shortNet_171 : decode cX12_shortNet 171 = .ok (.getfield 34, 3) := by decide +kernel
theorem dX12_shortNet_174 : decode cX12_shortNet 174 = .ok (.aload_n 0, 1) := by decide +kernel
theorem dX12_shortNet_175 : decode cX12_shortNet 175 = .ok (.iload 4, 2) := by decide +kernel
theorem dX12_shortNet_177 : decode cX12_shortNet 177 = .ok (.invokevirtual 178, 3) := by decide +kernel
theorem dX12_shortNet_180 : decode cX12_shortNet 180 = .ok (.iload_n 1, 1) := by decide +kernel
theorem dX12_shortNet_181 : decode cX12_shortNet 181 = .ok (.iastore, 1) := by decide +kernel
theorem dX12_shortNet_182 : decode cX12_shortNet 182 = .ok (.aload_n 0, 1) := by decide +kernel
theorem dX12_shortNet_183 : decode cX12_shortNet 183 = .ok (.getfield 37, 3) := by decide +kernel
theorem dX12_shortNet_186 : decode cX12_shortNet 186 = .ok (.aload_n 0, 1) := by decide +kernel
theorem dX12_shortNet_187 : decode cX12_shortNet 187 = .ok (.iload 4, 2) := by decide +kernel
theorem dX12_shortNet_189 : decode cX12_shortNet 189 = .ok (.invokevirtual 178, 3) := by decide +kernel
theorem dX12_shortNet_192 : decode cX12_shortNet 192 = .ok (.iload_n 3, 1) := by decide +kernel
theorem dX12_shortNet_193 : decode cX12_shortNet 193 = .ok (.iastore, 1) := by decide +kernel
theorem dX12_shortNet_194 : decode cX12_shortNet 194 = .ok (.aload_n 0, 1) := by decide +kernel
theorem dX12_shortNet_195 : decode cX12_shortNet 195 = .ok (.getfield 43, 3) := by decide +kernel
theorem dX12_shortNet_198 : decode cX12_shortNet 198 = .ok (.aload_n 0, 1) := by decide +kernel
theorem dX12_shortNet_199 : decode cX12_shortNet 199 = .ok (.iload 4, 2) := by decide +kernel
theorem dX12_shortNet_201 : decode cX12_shortNet 201 = .ok (.invokevirtual 178, 3) := by decide +kernel
theorem dX12_shortNet_204 : decode cX12_shortNet 204 = .ok (.iconst 1, 1) := by decide +kernel
theorem dX12_shortNet_205 : decode cX12_shortNet 205 = .ok (.bastore, 1) := by decide +kernel
theorem dX12_shortNet_206 : decode cX12_shortNet 206 = .ok (.aload_n 0, 1) := by decide +kernel
theorem dX12_shortNet_207 : decode cX12_shortNet 207 = .ok (.getfield 28, 3) := by decide +kernel
theorem dX12_shortNet_210 : decode cX12_shortNet 210 = .ok (.aload_n 0, 1) := by decide +kernel
theorem dX12_shortNet_211 : decode cX12_shortNet 211 = .ok (.invokevirtual 175, 3) := by decide +kernel
theorem dX12_shortNet_214 : decode cX12_shortNet 214 = .ok (.dup2, 1) := by decide +kernel
theorem dX12_shortNet_215 : decode cX12_shortNet 215 = .ok (.iaload, 1) := by decide +kernel
theorem dX12_shortNet_216 : decode cX12_shortNet 216 = .ok (.iconst 1, 1) := by decide +kernel
theorem dX12_shortNet_217 : decode cX12_shortNet 217 = .ok (.iadd, 1) := by decide +kernel
theorem dX12_shortNet_218 : decode cX12_shortNet 218 = .ok (.iastore, 1) := by decide +kernel
theorem dX12_shortNet_219 : decode cX12_shortNet 219 = .ok (.iload_n 1, 1) := by decide +kernel
theorem dX12_shortNet_220 : decode cX12_shortNet 220 = .ok (.iconst 2, 1) := by decide +kernel
theorem dX12_shortNet_221 : decode cX12_shortNet 221 = .ok (.if_icmp .ge 22, 3) := by decide +kernel
theorem dX12_shortNet_224 : decode cX12_shortNet 224 = .ok (.aload_n 0, 1) := by decide +kernel
theorem dX12_shortNet_225 : decode cX12_shortNet 225 = .ok (.getfield 25, 3) := by decide +kernel
theorem dX12_shortNet_228 : decode cX12_shortNet 228 = .ok (.aload_n 0, 1) := by decide +kernel
theorem dX12_shortNet_229 : decode cX12_shortNet 229 = .ok (.invokevirtual 175, 3) := by decide +kernel
theorem dX12_shortNet_232 : decode cX12_shortNet 232 = .ok (.dup2, 1) := by decide +kernel
theorem dX12_shortNet_233 : decode cX12_shortNet 233 = .ok (.iaload, 1) := by decide +kernel
theorem dX12_shortNet_234 : decode cX12_shortNet 234 = .ok (.iconst 1, 1) := by decide +kernel
theorem dX12_shortNet_235 : decode cX12_shortNet 235 = .ok (.iadd, 1) := by decide +kernel
theorem dX12_shortNet_236 : decode cX12_shortNet 236 = .ok (.iastore, 1) := by decide +kernel
theorem dX12_shortNet_237 : decode cX12_shortNet 237 = .ok (.aload_n 0, 1) := by decide +kernel
theorem dX12_shortNet_238 : decode cX12_shortNet 238 = .ok (.iload 4, 2) := by decide +kernel
theorem dX12_shortNet_240 : decode cX12_shortNet 240 = .ok (.invokevirtual 259, 3) := by decide +kernel
theorem dX12_shortNet_243 : decode cX12_shortNet 243 = .ok (.return_, 1) := by decide +kernel
theorem dX12_move_0 : decode cX12_move 0 = .ok (.aload_n 0, 1) := by decide +kernel
theorem dX12_move_1 : decode cX12_move 1 = .ok (.getfield 31, 3) := by decide +kernel
theorem dX12_move_4 : decode cX12_move 4 = .ok (.iload_n 2, 1) := by decide +kernel
theorem dX12_move_5 : decode cX12_move 5 = .ok (.aload_n 0, 1) := by decide +kernel
theorem dX12_move_6 : decode cX12_move 6 = .ok (.getfield 31, 3) := by decide +kernel
theorem dX12_move_9 : decode cX12_move 9 = .ok (.iload_n 1, 1) := by decide +kernel
theorem dX12_move_10 : decode cX12_move 10 = .ok (.iaload, 1) := by decide +kernel
theorem dX12_move_11 : decode cX12_move 11 = .ok (.iastore, 1) := by decide +kernel
theorem dX12_move_12 : decode cX12_move 12 = .ok (.aload_n 0, 1) := by decide +kernel
theorem dX12_move_13 : decode cX12_move 13 = .ok (.getfield 34, 3) := by decide +kernel
theorem dX12_move_16 : decode cX12_move 16 = .ok (.iload_n 2, 1) := by decide +kernel
theorem dX12_move_17 : decode cX12_move 17 = .ok (.aload_n 0, 1) := by decide +kernel
theorem dX12_move_18 : decode cX12_move 18 = .ok (.getfield 34, 3) := by decide +kernel
theorem dX12_move_21 : decode cX12_move 21 = .ok (.iload_n 1, 1) := by decide +kernel
theorem dX12_move_22 : decode cX12_move 22 = .ok (.iaload, 1) := by decide +kernel
theorem dX12_move_23 : decode cX12_move 23 = .ok (.iastore, 1) := by decide +kernel
theorem dX12_move_24 : decode cX12_move 24 = .ok (.aload_n 0, 1) := by decide +kernel
theorem dX12_move_25 : decode cX12_move 25 = .ok (.getfield 37, 3) := by decide +kernel
theorem dX12_move_28 : decode cX12_move 28 = .ok (.iload_n 2, 1) := by decide +kernel
theorem dX12_move_29 : decode cX12_move 29 = .ok (.aload_n 0, 1) := by decide +kernel
theorem dX12_move_30 : decode cX12_move 30 = .ok (.getfield 37, 3) := by decide +kernel
theorem dX12_move_33 : decode cX12_move 33 = .ok (.iload_n 1, 1) := by decide +kernel
theorem dX12_move_34 : decode cX12_move 34 = .ok (.iaload, 1) := by decide +kernel
theorem dX12_move_35 : decode cX12_move 35 = .ok (.iastore, 1) := by decide +kernel
theorem dX12_move_36 : decode cX12_move 36 = .ok (.aload_n 0, 1) := by decide +kernel
theorem dX12_move_37 : decode cX12_move 37 = .ok (.getfield 43, 3) := by decide +kernel
theorem dX12_move_40 : decode cX12_move 40 = .ok (.iload_n 2, 1) := by decide +kernel
theorem dX12_move_41 : decode cX12_move 41 = .ok (.aload_n 0, 1) := by decide +kernel
theorem dX12_move_42 : decode cX12_move 42 = .ok (.getfield 43, 3) := by decide +kernel
theorem dX12_move_45 : decode cX12_move 45 = .ok (.iload_n 1, 1) := by decide +kernel
theorem dX12_move_46 : decode cX12_move 46 = .ok (.baload, 1) := by decide +kernel
theorem dX12_move_47 : decode cX12_move 47 = .ok (.bastore, 1) := by decide +kernel
theorem dX12_move_48 : decode cX12_move 48 = .ok (.return_, 1) := by decide +kernel
theorem dX12_shift_0 : decode cX12_shift 0 = .ok (.sipush 512, 3) := by decide +kernel
theorem dX12_shift_3 : decode cX12_shift 3 = .ok (.aload_n 0, 1) := by decide +kernel
theorem dX12_shift_4 : decode cX12_shift 4 = .ok (.getfield 118, 3) := by decide +kernel
theorem dX12_shift_7 : decode cX12_shift 7 = .ok (.imul, 1) := by decide +kernel
theorem dX12_shift_8 : decode cX12_shift 8 = .ok (.istore_n 2, 1) := by decide +kernel
theorem dX12_shift_9 : decode cX12_shift 9 = .ok (.iload_n 2, 1) := by decide +kernel
theorem dX12_shift_10 : decode cX12_shift 10 = .ok (.istore_n 3, 1) := by decide +kernel
theorem dX12_shift_11 : decode cX12_shift 11 = .ok (.iload_n 3, 1) := by decide +kernel
theorem dX12_shift_12 : decode cX12_shift 12 = .ok (.iload_n 2, 1) := by decide +kernel
theorem dX12_shift_13 : decode cX12_shift 13 = .ok (.aload_n 0, 1) := by decide +kernel
theorem dX12_shift_14 : decode cX12_shift 14 = .ok (.getfield 47, 3) := by decide +kernel
theorem dX12_shift_17 : decode cX12_shift 17 = .ok (.aload_n 0, 1) := by decide +kernel
theorem dX12_shift_18 : decode cX12_shift 18 = .ok (.getfield 118, 3) := by decide +kernel
theorem dX12_shift_21 : decode cX12_shift 21 = .ok (.iaload, 1) := by decide +kernel
theorem dX12_shift_22 : decode cX12_shift 22 = .ok (.iadd, 1) := by decide +kernel
theorem dX12_shift_23 : decode cX12_shift 23 = .ok (.if_icmp .ge 57, 3) := by decide +kernel
theorem dX12_shift_26 : decode cX12_shift 26 = .ok (.aload_n 0, 1) := by decide +kernel
theorem dX12_shift_27 : decode cX12_shift 27 = .ok (.getfield 50, 3) := by decide +kernel
theorem dX12_shift_30 : decode cX12_shift 30 = .ok (.iload_n 3, 1) := by decide +kernel
theorem dX12_shift_31 : decode cX12_shift 31 = .ok (.iaload, 1) := by decide +kernel
theorem dX12_shift_32 : decode cX12_shift 32 = .ok (.aload_n 0, 1) := by decide +kernel
theorem dX12_shift_33 : decode cX12_shift 33 = .ok (.getfield 22, 3) := by decide +kernel
theorem dX12_shift_36 : decode cX12_shift 36 = .ok (.aload_n 0, 1) := by decide +kernel
theorem dX12_shift_37 : decode cX12_shift 37 = .ok (.invokevirtual 175, 3) := by decide +kernel
theorem dX12_shift_40 : decode cX12_shift 40 = .ok (.iaload, 1) := by decide +kernel
theorem dX12_shift_41 : decode cX12_shift 41 = .ok (.if_icmp .le 33, 3) := by decide +kernel
theorem dX12_shift_44 : decode cX12_shift 44 = .ok (.aload_n 0, 1) := by decide +kernel
theorem dX12_shift_45 : decode cX12_shift 45 = .ok (.getfield 53, 3) := by decide +kernel
theorem dX12_shift_48 : decode cX12_shift 48 = .ok (.iload_n 3, 1) := by decide +kernel
theorem dX12_shift_49 : decode cX12_shift 49 = .ok (.iaload, 1) := by decide +kernel
theorem dX12_shift_50 : decode cX12_shift 50 = .ok (.iconst 3, 1) := by decide +kernel
theorem dX12_shift_51 : decode cX12_shift 51 = .ok (.if_icmp .eq 23, 3) := by decide +kernel
theorem dX12_shift_54 : decode cX12_shift 54 = .ok (.aload_n 0, 1) := by decide +kernel
theorem dX12_shift_55 : decode cX12_shift 55 = .ok (.getfield 56, 3) := by decide +kernel
theorem dX12_shift_58 : decode cX12_shift 58 = .ok (.iload_n 3, 1) := by decide +kernel
theorem dX12_shift_59 : decode cX12_shift 59 = .ok (.iaload, 1) := by decide +kernel
theorem dX12_shift_60 : decode cX12_shift 60 = .ok (.iload_n 1, 1) := by decide +kernel
theorem dX12_shift_61 : decode cX12_shift 61 = .ok (.if_icmp .lt 13, 3) := by decide +kernel
theorem dX12_shift_64 : decode cX12_shift 64 = .ok (.aload_n 0, 1) := by decide +kernel
theorem dX12_shift_65 : decode cX12_shift 65 = .ok (.getfield 56, 3) := by decide +kernel
theorem dX12_shift_68 : decode cX12_shift 68 = .ok (.iload_n 3, 1) := by decide +kernel
theorem dX12_shift_69 : decode cX12_shift 69 = .ok (.dup2, 1) := by decide +kernel
theorem dX12_shift_70 : decode cX12_shift 70 = .ok (.iaload, 1) := by decide +kernel
theorem dX12_shift_71 : decode cX12_shift 71 = .ok (.iconst 1, 1) := by decide +kernel
theorem dX12_shift_72 : decode cX12_shift 72 = .ok (.iadd, 1) := by decide +kernel
theorem dX12_shift_73 : decode cX12_shift 73 = .ok (.iastore, 1) := by decide +kernel
theorem dX12_shift_74 : decode cX12_shift 74 = .ok (.iinc 3 1, 3) := by decide +kernel
theorem dX12_shift_77 : decode cX12_shift 77 = .ok (.goto (-66), 3) := by decide +kernel
theorem dX12_shift_80 : decode cX12_shift 80 = .ok (.return_, 1) := by decide +kernel
theorem dX12_shortModule_0 : decode cX12_shortModule 0 = .ok (.aload_n 0, 1) := by decide +kernel
theorem dX12_shortModule_1 : decode cX12_shortModule 1 = .ok (.bipush 109, 2) := by decide +kernel
theorem dX12_shortModule_3 : decode cX12_shortModule 3 = .ok (.invokevirtual 262, 3) := by decide +kernel
theorem dX12_shortModule_6 : decode cX12_shortModule 6 = .ok (.ifCond .ne 11, 3) := by decide +kernel
theorem dX12_shortModule_9 : decode cX12_shortModule 9 = .ok (.aload_n 0, 1) := by decide +kernel
theorem dX12_shortModule_10 : decode cX12_shortModule 10 = .ok (.aload_n 0, 1) := by decide +kernel
theorem dX12_shortModule_11 : decode cX12_shortModule 11 = .ok (.getfield 132, 3) := by decide +kernel
theorem dX12_shortModule_14 : decode cX12_shortModule 14 = .ok (.invokevirtual 150, 3) := by decide +kernel
theorem dX12_shortModule_17 : decode cX12_shortModule 17 = .ok (.aload_n 0, 1) := by decide +kernel
theorem dX12_shortModule_18 : decode cX12_shortModule 18 = .ok (.invokevirtual 169, 3) := by decide +kernel
theorem dX12_shortModule_21 : decode cX12_shortModule 21 = .ok (.aload_n 0, 1) := by decide +kernel
theorem dX12_shortModule_22 : decode cX12_shortModule 22 = .ok (.invokevirtual 240, 3) := by decide +kernel
theorem dX12_shortModule_25 : decode cX12_shortModule 25 = .ok (.aload_n 0, 1) := by decide +kernel
theorem dX12_shortModule_26 : decode cX12_shortModule 26 = .ok (.bipush 59, 2) := by decide +kernel
theorem dX12_shortModule_28 : decode cX12_shortModule 28 = .ok (.invokevirtual 199, 3) := by decide +kernel
theorem dX12_shortModule_31 : decode cX12_shortModule 31 = .ok (.aload_n 0, 1) := by decide +kernel
theorem dX12_shortModule_32 : decode cX12_shortModule 32 = .ok (.invokevirtual 121, 3) := by decide +kernel
theorem dX12_shortModule_35 : decode cX12_shortModule 35 = .ok (.ifCond .eq 117, 3) := by decide +kernel
theorem dX12_shortModule_38 : decode cX12_shortModule 38 = .ok (.aload_n 0, 1) := by decide +kernel
theorem dX12_shortModule_39 : decode cX12_shortModule 39 = .ok (.bipush 101, 2) := by decide +kernel
theorem dX12_shortModule_41 : decode cX12_shortModule 41 = .ok (.invokevirtual 262, 3) := by decide +kernel
theorem dX12_shortModule_44 : decode cX12_shortModule 44 = .ok (.ifCond .ne 108, 3) := by decide +kernel
theorem dX12_shortModule_47 : decode cX12_shortModule 47 = .ok (.aload_n 0, 1) := by decide +kernel
theorem dX12_shortModule_48 : decode cX12_shortModule 48 = .ok (.bipush 105, 2) := by decide +kernel
theorem dX12_shortModule_50 : decode cX12_shortModule 50 = .ok (.invokevirtual 262, 3) := by decide +kernel
theorem dX12_shortModule_53 : decode cX12_shortModule 53 = .ok (.ifCond .ne 21, 3) := by decide +kernel
theorem dX12_shortModule_56 : decode cX12_shortModule 56 = .ok (.aload_n 0, 1) := by decide +kernel
theorem dX12_shortModule_57 : decode cX12_shortModule 57 = .ok (.bipush 111, 2) := by decide +kernel
theorem dX12_shortModule_59 : decode cX12_shortModule 59 = .ok (.invokevirtual 262, 3) := by decide +kernel
theorem dX12_shortModule_62 : decode cX12_shortModule 62 = .ok (.ifCond .ne 12, 3) := by decide +kernel
theorem dX12_shortModule_65 : decode cX12_shortModule 65 = .ok (.aload_n 0, 1) := by decide +kernel
theorem dX12_shortModule_66 : decode cX12_shortModule 66 = .ok (.bipush 119, 2) := by decide +kernel
theorem dX12_shortModule_68 : decode cX12_shortModule 68 = .ok (.invokevirtual 262, 3) := by decide +kernel
theorem dX12_shortModule_71 : decode cX12_shortModule 71 = .ok (.ifCond .eq 37, 3) := by decide +kernel
theorem dX12_shortModule_74 : decode cX12_shortModule 74 = .ok (.aload_n 0, 1) := by decide +kernel
theorem dX12_shortModule_75 : decode cX12_shortModule 75 = .ok (.aload_n 0, 1) := by decide +kernel
theorem dX12_shortModule_76 : decode cX12_shortModule 76 = .ok (.bipush 105, 2) := by decide +kernel
theorem dX12_shortModule_78 : decode cX12_shortModule 78 = .ok (.invokevirtual 262, 3) := by decide +kernel
theorem dX12_shortModule_81 : decode cX12_shortModule 81 = .ok (.ifCond .eq 7, 3) := by decide +kernel
theorem dX12_shortModule_84 : decode cX12_shortModule 84 = .ok (.iconst 0, 1) := by decide +kernel
theorem dX12_shortModule_85 : decode cX12_shortModule 85 = .ok (.goto 17, 3) := by decide +kernel
theorem dX12_shortModule_88 : decode cX12_shortModule 88 = .ok (.aload_n 0, 1) := by decide +kernel
theorem dX12_shortModule_89 : decode cX12_shortModule 89 = .ok (.bipush 111, 2) := by decide +kernel
theorem dX12_shortModule_91 : decode cX12_shortModule 91 = .ok (.invokevirtual 262, 3) := by decide +kernel
theorem dX12_shortModule_94 : decode cX12_shortModule 94 = .ok (.ifCond .eq 7, 3) := by decide +kernel
theorem dX12_shortModule_97 : decode cX12_shortModule 97 = .ok (.iconst 1, 1) := by decide +kernel
theorem dX12_shortModule_98 : decode cX12_shortModule 98 = .ok (.goto 4, 3) := by decide +kernel
theorem dX12_shortModule_101 : decode cX12_shortModule 101 = .ok (.iconst 2, 1) := by decide +kernel
theorem dX12_shortModule_102 : decode cX12_shortModule 102 = .ok (.invokevirtual 265, 3) := by decide +kernel
theorem dX12_shortModule_105 : decode cX12_shortModule 105 = .ok (.goto (-74), 3) := by decide +kernel
theorem dX12_shortModule_108 : decode cX12_shortModule 108 = .ok (.aload_n 0, 1) := by decide +kernel
theorem dX12_shortModule_109 : decode cX12_shortModule 109 = .ok (.bipush 97, 2) := by decide +kernel
theorem dX12_shortModule_111 : decode cX12_shortModule 111 = .ok (.invokevirtual 262, 3) := by decide +kernel
theorem dX12_shortModule_114 : decode cX12_shortModule 114 = .ok (.ifCond .eq 11, 3) := by decide +kernel
theorem dX12_shortModule_117 : decode cX12_shortModule 117 = .ok (.aload_n 0, 1) := by decide +kernel
theorem dX12_shortModule_118 : decode cX12_shortModule 118 = .ok (.iconst 0, 1) := by decide +kernel
theorem dX12_shortModule_119 : decode cX12_shortModule 119 = .ok (.invokevirtual 249, 3) := by decide +kernel
theorem dX12_shortModule_122 : decode cX12_shortModule 122 = .ok (.goto (-91), 3) := by decide +kernel
theorem dX12_shortModule_125 : decode cX12_shortModule 125 = .ok (.aload_n 0, 1) := by decide +kernel
theorem dX12_shortModule_126 : decode cX12_shortModule 126 = .ok (.bipush 117, 2) := by decide +kernel
theorem dX12_shortModule_128 : decode cX12_shortModule 128 = .ok (.invokevirtual 262, 3) := by decide +kernel
theorem dX12_shortModule_131 : decode cX12_shortModule 131 = .ok (.ifCond .eq 10, 3) := by decide +kernel
theorem dX12_shortModule_134 : decode cX12_shortModule 134 = .ok (.aload_n 0, 1) := by decide +kernel
theorem dX12_shortModule_135 : decode cX12_shortModule 135 = .ok (.invokevirtual 268, 3) := by decide +kernel
theorem dX12_shortModule_138 : decode cX12_shortModule 138 = .ok (.goto (-107), 3) := by decide +kernel
theorem dX12_shortModule_141 : decode cX12_shortModule 141 = .ok (.aload_n 0, 1) := by decide +kernel
theorem dX12_shortModule_142 : decode cX12_shortModule 142 = .ok (.aload_n 0, 1) := by decide +kernel
theorem dX12_shortModule_143 : decode cX12_shortModule 143 = .ok (.getfield 132, 3) := by decide +kernel
theorem dX12_shortModule_146 : decode cX12_shortModule 146 = .ok (.invokevirtual 150, 3) := by decide +kernel
theorem dX12_shortModule_149 : decode cX12_shortModule 149 = .ok (.goto (-118), 3) := by decide +kernel
theorem dX12_shortModule_152 : decode cX12_shortModule 152 = .ok (.aload_n 0, 1) := by decide +kernel
theorem dX12_shortModule_153 : decode cX12_shortModule 153 = .ok (.invokevirtual 169, 3) := by decide +kernel
theorem dX12_shortModule_156 : decode cX12_shortModule 156 = .ok (.aload_n 0, 1) := by decide +kernel
theorem dX12_shortModule_157 : decode cX12_shortModule 157 = .ok (.bipush 59, 2) := by decide +kernel
theorem dX12_shortModule_159 : decode cX12_shortModule 159 = .ok (.invokevirtual 199, 3) := by decide +kernel
theorem dX12_shortModule_162 : decode cX12_shortModule 162 = .ok (.return_, 1) := by decide +kernel
theorem dX12_moduleNamed_0 : decode cX12_moduleNamed 0 = .ok (.iconst (-1), 1) := by decide +kernel
theorem dX12_moduleNamed_1 : decode cX12_moduleNamed 1 = .ok (.istore_n 2, 1) := by decide +kernel
theorem dX12_moduleNamed_2 : decode cX12_moduleNamed 2 = .ok (.iconst 0, 1) := by decide +kernel
theorem dX12_moduleNamed_3 : decode cX12_moduleNamed 3 = .ok (.istore_n 3, 1) := by decide +kernel
theorem dX12_moduleNamed_4 : decode cX12_moduleNamed 4 = .ok (.iload_n 3, 1) := by decide +kernel
theorem dX12_moduleNamed_5 : decode cX12_moduleNamed 5 = .ok (.aload_n 0, 1) := by decide +kernel
theorem dX12_moduleNamed_6 : decode cX12_moduleNamed 6 = .ok (.getfield 172, 3) := by decide +kernel
theorem dX12_moduleNamed_9 : decode cX12_moduleNamed 9 = .ok (.if_icmp .ge 37, 3) := by decide +kernel
theorem dX12_moduleNamed_12 : decode cX12_moduleNamed 12 = .ok (.aload_n 0, 1) := by decide +kernel
theorem dX12_moduleNamed_13 : decode cX12_moduleNamed 13 = .ok (.aload_n 0, 1) := by decide +kernel
theorem dX12_moduleNamed_14 : decode cX12_moduleNamed 14 = .ok (.getfield 22, 3) := by decide +kernel
theorem dX12_moduleNamed_17 : decode cX12_moduleNamed 17 = .ok (.bipush 8, 2) := by decide +kernel
theorem dX12_moduleNamed_19 : decode cX12_moduleNamed 19 = .ok (.aload_n 0, 1) := by decide +kernel
theorem dX12_moduleNamed_20 : decode cX12_moduleNamed 20 = .ok (.getfield 118, 3) := by decide +kernel
theorem dX12_moduleNamed_23 : decode cX12_moduleNamed 23 = .ok (.imul, 1) := by decide +kernel
theorem dX12_moduleNamed_24 : decode cX12_moduleNamed 24 = .ok (.iload_n 3, 1) := by decide +kernel
theorem dX12_moduleNamed_25 : decode cX12_moduleNamed 25 = .ok (.iadd, 1) := by decide +kernel
theorem dX12_moduleNamed_26 : decode cX12_moduleNamed 26 = .ok (.iaload, 1) := by decide +kernel
theorem dX12_moduleNamed_27 : decode cX12_moduleNamed 27 = .ok (.iload_n 1, 1) := by decide +kernel
theorem dX12_moduleNamed_28 : decode cX12_moduleNamed 28 = .ok (.invokevirtual 181, 3) := by decide +kernel
theorem dX12_moduleNamed_31 : decode cX12_moduleNamed 31 = .ok (.ifCond .eq 7, 3) := by decide +kernel
theorem dX12_moduleNamed_34 : decode cX12_moduleNamed 34 = .ok (.iload_n 3, 1) := by decide +kernel
theorem dX12_moduleNamed_35 : decode cX12_moduleNamed 35 = .ok (.goto 4, 3) := by decide +kernel
theorem dX12_moduleNamed_38 : decode cX12_moduleNamed 38 = .ok (.iload_n 2, 1) := by decide +kernel
theorem dX12_moduleNamed_39 : decode cX12_moduleNamed 39 = .ok (.istore_n 2, 1) := by decide +kernel
theorem dX12_moduleNamed_40 : decode cX12_moduleNamed 40 = .ok (.iinc 3 1, 3) := by decide +kernel
theorem dX12_moduleNamed_43 : decode cX12_moduleNamed 43 = .ok (.goto (-39), 3) := by decide +kernel
theorem dX12_moduleNamed_46 : decode cX12_moduleNamed 46 = .ok (.iload_n 2, 1) := by decide +kernel
theorem dX12_moduleNamed_47 : decode cX12_moduleNamed 47 = .ok (.ireturn, 1) := by decide +kernel
theorem dX12_refWidth_0 : decode cX12_refWidth 0 = .ok (.aload_n 0, 1) := by decide +kernel
theorem dX12_refWidth_1 : decode cX12_refWidth 1 = .ok (.getfield 53, 3) := by decide +kernel
theorem dX12_refWidth_4 : decode cX12_refWidth 4 = .ok (.iload_n 3, 1) := by decide +kernel
theorem dX12_refWidth_5 : decode cX12_refWidth 5 = .ok (.iaload, 1) := by decide +kernel
theorem dX12_refWidth_6 : decode cX12_refWidth 6 = .ok (.istore 4, 2) := by decide +kernel
theorem dX12_refWidth_8 : decode cX12_refWidth 8 = .ok (.iload 4, 2) := by decide +kernel
theorem dX12_refWidth_10 : decode cX12_refWidth 10 = .ok (.iconst 3, 1) := by decide +kernel
theorem dX12_refWidth_11 : decode cX12_refWidth 11 = .ok (.if_icmp .ne 10, 3) := by decide +kernel
theorem dX12_refWidth_14 : decode cX12_refWidth 14 = .ok (.aload_n 0, 1) := by decide +kernel
theorem dX12_refWidth_15 : decode cX12_refWidth 15 = .ok (.getfield 62, 3) := by decide +kernel
theorem dX12_refWidth_18 : decode cX12_refWidth 18 = .ok (.iload_n 3, 1) := by decide +kernel
theorem dX12_refWidth_19 : decode cX12_refWidth 19 = .ok (.iaload, 1) := by decide +kernel
theorem dX12_refWidth_20 : decode cX12_refWidth 20 = .ok (.ireturn, 1) := by decide +kernel
theorem dX12_refWidth_21 : decode cX12_refWidth 21 = .ok (.iload 4, 2) := by decide +kernel
theorem dX12_refWidth_23 : decode cX12_refWidth 23 = .ok (.ifCond .ne 22, 3) := by decide +kernel
theorem dX12_refWidth_26 : decode cX12_refWidth 26 = .ok (.aload_n 0, 1) := by decide +kernel
theorem dX12_refWidth_27 : decode cX12_refWidth 27 = .ok (.getfield 37, 3) := by decide +kernel
theorem dX12_refWidth_30 : decode cX12_refWidth 30 = .ok (.bipush 16, 2) := by decide +kernel
theorem dX12_refWidth_32 : decode cX12_refWidth 32 = .ok (.iload_n 2, 1) := by decide +kernel
theorem dX12_refWidth_33 : decode cX12_refWidth 33 = .ok (.imul, 1) := by decide +kernel
theorem dX12_refWidth_34 : decode cX12_refWidth 34 = .ok (.aload_n 0, 1) := by decide +kernel
theorem dX12_refWidth_35 : decode cX12_refWidth 35 = .ok (.getfield 56, 3) := by decide +kernel
theorem dX12_refWidth_38 : decode cX12_refWidth 38 = .ok (.iload_n 3, 1) := by decide +kernel
theorem dX12_refWidth_39 : decode cX12_refWidth 39 = .ok (.iaload, 1) := by decide +kernel
theorem dX12_refWidth_40 : decode cX12_refWidth 40 = .ok (.iadd, 1) := by decide +kernel
theorem dX12_refWidth_41 : decode cX12_refWidth 41 = .ok (.iaload, 1) := by decide +kernel
theorem dX12_refWidth_42 : decode cX12_refWidth 42 = .ok (.goto 28, 3) := by decide +kernel
theorem dX12_refWidth_45 : decode cX12_refWidth 45 = .ok (.iload 4, 2) := by decide +kernel
theorem dX12_refWidth_47 : decode cX12_refWidth 47 = .ok (.iconst 1, 1) := by decide +kernel
theorem dX12_refWidth_48 : decode cX12_refWidth 48 = .ok (.if_icmp .ne 7, 3) := by decide +kernel
theorem dX12_refWidth_51 : decode cX12_refWidth 51 = .ok (.iconst 1, 1) := by decide +kernel
theorem dX12_refWidth_52 : decode cX12_refWidth 52 = .ok (.goto 18, 3) := by decide +kernel
theorem dX12_refWidth_55 : decode cX12_refWidth 55 = .ok (.aload_n 0, 1) := by decide +kernel
theorem dX12_refWidth_56 : decode cX12_refWidth 56 = .ok (.getfield 59, 3) := by decide +kernel
theorem dX12_refWidth_59 : decode cX12_refWidth 59 = .ok (.iload_n 3, 1) := by decide +kernel
theorem dX12_refWidth_60 : decode cX12_refWidth 60 = .ok (.iaload, 1) := by decide +kernel
theorem dX12_refWidth_61 : decode cX12_refWidth 61 = .ok (.aload_n 0, 1) := by decide +kernel
theorem dX12_refWidth_62 : decode cX12_refWidth 62 = .ok (.getfield 62, 3) := by decide +kernel
theorem dX12_refWidth_65 : decode cX12_refWidth 65 = .ok (.iload_n 3, 1) := by decide +kernel
theorem dX12_refWidth_66 : decode cX12_refWidth 66 = .ok (.iaload, 1) := by decide +kernel
theorem dX12_refWidth_67 : decode cX12_refWidth 67 = .ok (.isub, 1) := by decide +kernel
theorem dX12_refWidth_68 : decode cX12_refWidth 68 = .ok (.iconst 1, 1) := by decide +kernel
theorem dX12_refWidth_69 : decode cX12_refWidth 69 = .ok (.iadd, 1) := by decide +kernel
theorem dX12_refWidth_70 : decode cX12_refWidth 70 = .ok (.ireturn, 1) := by decide +kernel
theorem dX12_late_0 : decode cX12_late 0 = .ok (.aload_n 0, 1) := by decide +kernel
theorem dX12_late_1 : decode cX12_late 1 = .ok (.aload_n 0, 1) := by decide +kernel
theorem dX12_late_2 : decode cX12_late 2 = .ok (.getfield 104, 3) := by decide +kernel
theorem dX12_late_5 : decode cX12_late 5 = .ok (.iconst (-1), 1) := by decide +kernel
theorem dX12_late_6 : decode cX12_late 6 = .ok (.if_icmp .eq 11, 3) := by decide +kernel
theorem dX12_late_9 : decode cX12_late 9 = .ok (.iload_n 1, 1) := by decide +kernel
theorem dX12_late_10 : decode cX12_late 10 = .ok (.aload_n 0, 1) := by decide +kernel
theorem dX12_late_11 : decode cX12_late 11 = .ok (.getfield 104, 3) := by decide +kernel
theorem dX12_late_14 : decode cX12_late 14 = .ok (.if_icmp .ge 7, 3) := by decide +kernel
theorem dX12_late_17 : decode cX12_late 17 = .ok (.iload_n 1, 1) := by decide +kernel
theorem dX12_late_18 : decode cX12_late 18 = .ok (.goto 7, 3) := by decide +kernel
theorem dX12_late_21 : decode cX12_late 21 = .ok (.aload_n 0, 1) := by decide +kernel
theorem dX12_late_22 : decode cX12_late 22 = .ok (.getfield 104, 3) := by decide +kernel
theorem dX12_late_25 : decode cX12_late 25 = .ok (.putfield 104, 3) := by decide +kernel
theorem dX12_late_28 : decode cX12_late 28 = .ok (.return_, 1) := by decide +kernel
theorem dX12_portNamed_0 : decode cX12_portNamed 0 = .ok (.iconst (-1), 1) := by decide +kernel
theorem dX12_portNamed_1 : decode cX12_portNamed 1 = .ok (.istore_n 3, 1) := by decide +kernel
theorem dX12_portNamed_2 : decode cX12_portNamed 2 = .ok (.iconst 0, 1) := by decide +kernel
theorem dX12_portNamed_3 : decode cX12_portNamed 3 = .ok (.istore 4, 2) := by decide +kernel
theorem dX12_portNamed_5 : decode cX12_portNamed 5 = .ok (.iload 4, 2) := by decide +kernel
theorem dX12_portNamed_7 : decode cX12_portNamed 7 = .ok (.aload_n 0, 1) := by decide +kernel
theorem dX12_portNamed_8 : decode cX12_portNamed 8 = .ok (.getfield 25, 3) := by decide +kernel
theorem dX12_portNamed_11 : decode cX12_portNamed 11 = .ok (.iload_n 1, 1) := by decide +kernel
theorem dX12_portNamed_12 : decode cX12_portNamed 12 = .ok (.iaload, 1) := by decide +kernel
theorem dX12_portNamed_13 : decode cX12_portNamed 13 = .ok (.if_icmp .ge 36, 3) := by decide +kernel
theorem dX12_portNamed_16 : decode cX12_portNamed 16 = .ok (.aload_n 0, 1) := by decide +kernel
theorem dX12_portNamed_17 : decode cX12_portNamed 17 = .ok (.aload_n 0, 1) := by decide +kernel
theorem dX12_portNamed_18 : decode cX12_portNamed 18 = .ok (.getfield 31, 3) := by decide +kernel
theorem dX12_portNamed_21 : decode cX12_portNamed 21 = .ok (.bipush 16, 2) := by decide +kernel
theorem dX12_portNamed_23 : decode cX12_portNamed 23 = .ok (.iload_n 1, 1) := by decide +kernel
theorem dX12_portNamed_24 : decode cX12_portNamed 24 = .ok (.imul, 1) := by decide +kernel
theorem dX12_portNamed_25 : decode cX12_portNamed 25 = .ok (.iload 4, 2) := by decide +kernel
theorem dX12_portNamed_27 : decode cX12_portNamed 27 = .ok (.iadd, 1) := by decide +kernel
theorem dX12_portNamed_28 : decode cX12_portNamed 28 = .ok (.iaload, 1) := by decide +kernel
theorem dX12_portNamed_29 : decode cX12_portNamed 29 = .ok (.iload_n 2, 1) := by decide +kernel
theorem dX12_portNamed_30 : decode cX12_portNamed 30 = .ok (.invokevirtual 181, 3) := by decide +kernel
theorem dX12_portNamed_33 : decode cX12_portNamed 33 = .ok (.ifCond .eq 8, 3) := by decide +kernel
theorem dX12_portNamed_36 : decode cX12_portNamed 36 = .ok (.iload 4, 2) := by decide +kernel
theorem dX12_portNamed_38 : decode cX12_portNamed 38 = .ok (.goto 4, 3) := by decide +kernel
theorem dX12_portNamed_41 : decode cX12_portNamed 41 = .ok (.iload_n 3, 1) := by decide +kernel
theorem dX12_portNamed_42 : decode cX12_portNamed 42 = .ok (.istore_n 3, 1) := by decide +kernel
theorem dX12_portNamed_43 : decode cX12_portNamed 43 = .ok (.iinc 4 1, 3) := by decide +kernel
theorem dX12_portNamed_46 : decode cX12_portNamed 46 = .ok (.goto (-41), 3) := by decide +kernel
theorem dX12_portNamed_49 : decode cX12_portNamed 49 = .ok (.iload_n 3, 1) := by decide +kernel
theorem dX12_portNamed_50 : decode cX12_portNamed 50 = .ok (.ireturn, 1) := by decide +kernel
theorem dX12_checkInstance_0 : decode cX12_checkInstance 0 = .ok (.aload_n 0, 1) := by decide +kernel
theorem dX12_checkInstance_1 : decode cX12_checkInstance 1 = .ok (.getfield 86, 3) := by decide +kernel
theorem dX12_checkInstance_4 : decode cX12_checkInstance 4 = .ok (.iload_n 2, 1) := by decide +kernel
theorem dX12_checkInstance_5 : decode cX12_checkInstance 5 = .ok (.iaload, 1) := by decide +kernel
theorem dX12_checkInstance_6 : decode cX12_checkInstance 6 = .ok (.iconst (-1), 1) := by decide +kernel
theorem dX12_checkInstance_7 : decode cX12_checkInstance 7 = .ok (.if_icmp .ne 7, 3) := by decide +kernel
theorem dX12_checkInstance_10 : decode cX12_checkInstance 10 = .ok (.iconst (-1), 1) := by decide +kernel
theorem dX12_checkInstance_11 : decode cX12_checkInstance 11 = .ok (.goto 17, 3) := by decide +kernel
theorem dX12_checkInstance_14 : decode cX12_checkInstance 14 = .ok (.bipush 8, 2) := by decide +kernel
theorem dX12_checkInstance_16 : decode cX12_checkInstance 16 = .ok (.aload_n 0, 1) := by decide +kernel
theorem dX12_checkInstance_17 : decode cX12_checkInstance 17 = .ok (.getfield 118, 3) := by decide +kernel
theorem dX12_checkInstance_20 : decode cX12_checkInstance 20 = .ok (.imul, 1) := by decide +kernel
theorem dX12_checkInstance_21 : decode cX12_checkInstance 21 = .ok (.aload_n 0, 1) := by decide +kernel
theorem dX12_checkInstance_22 : decode cX12_checkInstance 22 = .ok (.getfield 86, 3) := by decide +kernel
theorem dX12_checkInstance_25 : decode cX12_checkInstance 25 = .ok (.iload_n 2, 1) := by decide +kernel
theorem dX12_checkInstance_26 : decode cX12_checkInstance 26 = .ok (.iaload, 1) := by decide +kernel
theorem dX12_checkInstance_27 : decode cX12_checkInstance 27 = .ok (.iadd, 1) := by decide +kernel
theorem dX12_checkInstance_28 : decode cX12_checkInstance 28 = .ok (.istore_n 3, 1) := by decide +kernel
theorem dX12_checkInstance_29 : decode cX12_checkInstance 29 = .ok (.iload_n 3, 1) := by decide +kernel
theorem dX12_checkInstance_30 : decode cX12_checkInstance 30 = .ok (.iconst (-1), 1) := by decide +kernel
theorem dX12_checkInstance_31 : decode cX12_checkInstance 31 = .ok (.if_icmp .ne 4, 3) := by decide +kernel
theorem dX12_checkInstance_34 : decode cX12_checkInstance 34 = .ok (.return_, 1) := by decide +kernel
theorem dX12_checkInstance_35 : decode cX12_checkInstance 35 = .ok (.aload_n 0, 1) := by decide +kernel
theorem dX12_checkInstance_36 : decode cX12_checkInstance 36 = .ok (.getfield 83, 3) := by decide +kernel
theorem dX12_checkInstance_39 : decode cX12_checkInstance 39 = .ok (.iload_n 2, 1) := by decide +kernel
theorem dX12_checkInstance_40 : decode cX12_checkInstance 40 = .ok (.baload, 1) := by decide +kernel
theorem dX12_checkInstance_41 : decode cX12_checkInstance 41 = .ok (.ifCond .ne 28, 3) := by decide +kernel
theorem dX12_checkInstance_44 : decode cX12_checkInstance 44 = .ok (.aload_n 0, 1) := by decide +kernel
theorem dX12_checkInstance_45 : decode cX12_checkInstance 45 = .ok (.getfield 89, 3) := by decide +kernel
theorem dX12_checkInstance_48 : decode cX12_checkInstance 48 = .ok (.iload_n 2, 1) := by decide +kernel
theorem dX12_checkInstance_49 : decode cX12_checkInstance 49 = .ok (.iaload, 1) := by decide +kernel
theorem dX12_checkInstance_50 : decode cX12_checkInstance 50 = .ok (.aload_n 0, 1) := by decide +kernel
theorem dX12_checkInstance_51 : decode cX12_checkInstance 51 = .ok (.getfield 25, 3) := by decide +kernel
theorem dX12_checkInstance_54 : decode cX12_checkInstance 54 = .ok (.iload_n 3, 1) := by decide +kernel
theorem dX12_checkInstance_55 : decode cX12_checkInstance 55 = .ok (.iaload, 1) := by decide +kernel
theorem dX12_checkInstance_56 : decode cX12_checkInstance 56 = .ok (.if_icmp .ge 13, 3) := by decide +kernel
theorem dX12_checkInstance_59 : decode cX12_checkInstance 59 = .ok (.aload_n 0, 1) := by decide +kernel
theorem dX12_checkInstance_60 : decode cX12_checkInstance 60 = .ok (.aload_n 0, 1) := by decide +kernel
theorem dX12_checkInstance_61 : decode cX12_checkInstance 61 = .ok (.getfield 80, 3) := by decide +kernel
theorem dX12_checkInstance_64 : decode cX12_checkInstance 64 = .ok (.iload_n 2, 1) := by decide +kernel
theorem dX12_checkInstance_65 : decode cX12_checkInstance 65 = .ok (.iaload, 1) := by decide +kernel
theorem dX12_checkInstance_66 : decode cX12_checkInstance 66 = .ok (.invokevirtual 271, 3) := by decide +kernel
theorem dX12_checkInstance_69 : decode cX12_checkInstance 69 = .ok (.iconst 0, 1) := by decide +kernel
theorem dX12_checkInstance_70 : decode cX12_checkInstance 70 = .ok (.istore 4, 2) := by decide +kernel
theorem dX12_checkInstance_72 : decode cX12_checkInstance 72 = .ok (.iload 4, 2) := by decide +kernel
theorem dX12_checkInstance_74 : decode cX12_checkInstance 74 = .ok (.aload_n 0, 1) := by decide +kernel
theorem dX12_checkInstance_75 : decode cX12_checkInstance 75 = .ok (.getfield 89, 3) := by decide +kernel
theorem dX12_checkInstance_78 : decode cX12_checkInstance 78 = .ok (.iload_n 2, 1) := by decide +kernel
theorem dX12_checkInstance_79 : decode cX12_checkInstance 79 = .ok (.iaload, 1) := by decide +kernel
theorem dX12_checkInstance_80 : decode cX12_checkInstance 80 = .ok (.if_icmp .ge 158, 3) := by decide +kernel
theorem dX12_checkInstance_83 : decode cX12_checkInstance 83 = .ok (.bipush 16, 2) := by decide +kernel
theorem dX12_checkInstance_85 : decode cX12_checkInstance 85 = .ok (.iload_n 2, 1) := by decide +kernel
theorem dX12_checkInstance_86 : decode cX12_checkInstance 86 = .ok (.imul, 1) := by decide +kernel
theorem dX12_checkInstance_87 : decode cX12_checkInstance 87 = .ok (.iload 4, 2) := by decide +kernel
theorem dX12_checkInstance_89 : decode cX12_checkInstance 89 = .ok (.iadd, 1) := by decide +kernel
theorem dX12_checkInstance_90 : decode cX12_checkInstance 90 = .ok (.istore 5, 2) := by decide +kernel
theorem dX12_checkInstance_92 : decode cX12_checkInstance 92 = .ok (.aload_n 0, 1) := by decide +kernel
theorem dX12_checkInstance_93 : decode cX12_checkInstance 93 = .ok (.getfield 83, 3) := by decide +kernel
theorem dX12_checkInstance_96 : decode cX12_checkInstance 96 = .ok (.iload_n 2, 1) := by decide +kernel
theorem dX12_checkInstance_97 : decode cX12_checkInstance 97 = .ok (.baload, 1) := by decide +kernel
theorem dX12_checkInstance_98 : decode cX12_checkInstance 98 = .ok (.ifCond .eq 18, 3) := by decide +kernel
theorem dX12_checkInstance_101 : decode cX12_checkInstance 101 = .ok (.aload_n 0, 1) := by decide +kernel
theorem dX12_checkInstance_102 : decode cX12_checkInstance 102 = .ok (.iload_n 3, 1) := by decide +kernel
theorem dX12_checkInstance_103 : decode cX12_checkInstance 103 = .ok (.aload_n 0, 1) := by decide +kernel
theorem dX12_checkInstance_104 : decode cX12_checkInstance 104 = .ok (.getfield 95, 3) := by decide +kernel
theorem dX12_checkInstance_107 : decode cX12_checkInstance 107 = .ok (.iload 5, 2) := by decide +kernel
theorem dX12_checkInstance_109 : decode cX12_checkInstance 109 = .ok (.iaload, 1) := by decide +kernel
theorem dX12_checkInstance_110 : decode cX12_checkInstance 110 = .ok (.invokevirtual 274, 3) := by decide +kernel
theorem dX12_checkInstance_113 : decode cX12_checkInstance 113 = .ok (.goto 20, 3) := by decide +kernel
theorem dX12_checkInstance_116 : decode cX12_checkInstance 116 = .ok (.iload 4, 2) := by decide +kernel
theorem dX12_checkInstance_118 : decode cX12_checkInstance 118 = .ok (.aload_n 0, 1) := by decide +kernel
theorem dX12_checkInstance_119 : decode cX12_checkInstance 119 = .ok (.getfield 25, 3) := by decide +kernel
theorem dX12_checkInstance_122 : decode cX12_checkInstance 122 = .ok (.iload_n 3, 1) := by decide +kernel
theorem dX12_checkInstance_123 : decode cX12_checkInstance 123 = .ok (.iaload, 1) := by decide +kernel
theorem dX12_checkInstance_124 : decode cX12_checkInstance 124 = .ok (.if_icmp .ge 8, 3) := by decide +kernel
theorem dX12_checkInstance_127 : decode cX12_checkInstance 127 = .ok (.iload 4, 2) := by decide +kernel
theorem dX12_checkInstance_129 : decode cX12_checkInstance 129 = .ok (.goto 4, 3) := by decide +kernel
theorem dX12_checkInstance_132 : decode cX12_checkInstance 132 = .ok (.iconst (-1), 1) := by decide +kernel
theorem dX12_checkInstance_133 : decode cX12_checkInstance 133 = .ok (.istore 6, 2) := by decide +kernel
theorem dX12_checkInstance_135 : decode cX12_checkInstance 135 = .ok (.iload 6, 2) := by decide +kernel
theorem dX12_checkInstance_137 : decode cX12_checkInstance 137 = .ok (.iconst (-1), 1) := by decide +kernel
theorem dX12_checkInstance_138 : decode cX12_checkInstance 138 = .ok (.if_icmp .ne 36, 3) := by decide +kernel
theorem dX12_checkInstance_141 : decode cX12_checkInstance 141 = .ok (.aload_n 0, 1) := by decide +kernel
theorem dX12_checkInstance_142 : decode cX12_checkInstance 142 = .ok (.aload_n 0, 1) := by decide +kernel
theorem dX12_checkInstance_143 : decode cX12_checkInstance 143 = .ok (.getfield 83, 3) := by decide +kernel
theorem dX12_checkInstance_146 : decode cX12_checkInstance 146 = .ok (.iload_n 2, 1) := by decide +kernel
theorem dX12_checkInstance_147 : decode cX12_checkInstance 147 = .ok (.baload, 1) := by decide +kernel
theorem dX12_checkInstance_148 : decode cX12_checkInstance 148 = .ok (.ifCond .eq 13, 3) := by decide +kernel
theorem dX12_checkInstance_151 : decode cX12_checkInstance 151 = .ok (.aload_n 0, 1) := by decide +kernel
theorem dX12_checkInstance_152 : decode cX12_checkInstance 152 = .ok (.getfield 95, 3) := by decide +kernel
theorem dX12_checkInstance_155 : decode cX12_checkInstance 155 = .ok (.iload 5, 2) := by decide +kernel
theorem dX12_checkInstance_157 : decode cX12_checkInstance 157 = .ok (.iaload, 1) := by decide +kernel
theorem dX12_checkInstance_158 : decode cX12_checkInstance 158 = .ok (.goto 10, 3) := by decide +kernel
theorem dX12_checkInstance_161 : decode cX12_checkInstance 161 = .ok (.aload_n 0, 1) := by decide +kernel
theorem dX12_checkInstance_162 : decode cX12_checkInstance 162 = .ok (.getfield 98, 3) := by decide +kernel
theorem dX12_checkInstance_165 : decode cX12_checkInstance 165 = .ok (.iload 5, 2) := by decide +kernel
theorem dX12_checkInstance_167 : decode cX12_checkInstance 167 = .ok (.iaload, 1) := by decide +kernel
theorem dX12_checkInstance_168 : decode cX12_checkInstance 168 = .ok (.invokevirtual 271, 3) := by decide +kernel
theorem dX12_checkInstance_171 : decode cX12_checkInstance 171 = .ok (.goto 61, 3) := by decide +kernel
theorem dX12_checkInstance_174 : decode cX12_checkInstance 174 = .ok (.aload_n 0, 1) := by decide +kernel
theorem dX12_checkInstance_175 : decode cX12_checkInstance 175 = .ok (.getfield 92, 3) := by decide +kernel
theorem dX12_checkInstance_178 : decode cX12_checkInstance 178 = .ok (.iload 5, 2) := by decide +kernel
theorem dX12_checkInstance_180 : decode cX12_checkInstance 180 = .ok (.iaload, 1) := by decide +kernel
theorem dX12_checkInstance_181 : decode cX12_checkInstance 181 = .ok (.iconst (-1), 1) := by decide +kernel
theorem dX12_checkInstance_182 : decode cX12_checkInstance 182 = .ok (.if_icmp .eq 50, 3) := by decide +kernel
theorem dX12_checkInstance_185 : decode cX12_checkInstance 185 = .ok (.aload_n 0, 1) := by decide +kernel
theorem dX12_checkInstance_186 : decode cX12_checkInstance 186 = .ok (.aload_n 0, 1) := by decide +kernel
theorem dX12_checkInstance_187 : decode cX12_checkInstance 187 = .ok (.getfield 118, 3) := by decide +kernel
theorem dX12_checkInstance_190 : decode cX12_checkInstance 190 = .ok (.iload_n 1, 1) := by decide +kernel
theorem dX12_checkInstance_191 : decode cX12_checkInstance 191 = .ok (.aload_n 0, 1) := by decide +kernel
theorem dX12_checkInstance_192 : decode cX12_checkInstance 192 = .ok (.getfield 92, 3) := by decide +kernel
theorem dX12_checkInstance_195 : decode cX12_checkInstance 195 = .ok (.iload 5, 2) := by decide +kernel
theorem dX12_checkInstance_197 : decode cX12_checkInstance 197 = .ok (.iaload, 1) := by decide +kernel
theorem dX12_checkInstance_198 : decode cX12_checkInstance 198 = .ok (.invokevirtual 277, 3) := by decide +kernel
theorem dX12_checkInstance_201 : decode cX12_checkInstance 201 = .ok (.aload_n 0, 1) := by decide +kernel
theorem dX12_checkInstance_202 : decode cX12_checkInstance 202 = .ok (.getfield 37, 3) := by decide +kernel
theorem dX12_checkInstance_205 : decode cX12_checkInstance 205 = .ok (.bipush 16, 2) := by decide +kernel
theorem dX12_checkInstance_207 : decode cX12_checkInstance 207 = .ok (.iload_n 3, 1) := by decide +kernel
theorem dX12_checkInstance_208 : decode cX12_checkInstance 208 = .ok (.imul, 1) := by decide +kernel
theorem dX12_checkInstance_209 : decode cX12_checkInstance 209 = .ok (.iload 6, 2) := by decide +kernel
theorem dX12_checkInstance_211 : decode cX12_checkInstance 211 = .ok (.iadd, 1) := by decide +kernel
theorem dX12_checkInstance_212 : decode cX12_checkInstance 212 = .ok (.iaload, 1) := by decide +kernel
theorem dX12_checkInstance_213 : decode cX12_checkInstance 213 = .ok (.if_icmp .eq 19, 3) := by decide +kernel
theorem dX12_checkInstance_216 : decode cX12_checkInstance 216 = .ok (.aload_n 0, 1) := by decide +kernel
theorem dX12_checkInstance_217 : decode cX12_checkInstance 217 = .ok (.aload_n 0, 1) := by decide +kernel
theorem dX12_checkInstance_218 : decode cX12_checkInstance 218 = .ok (.getfield 50, 3) := by decide +kernel
theorem dX12_checkInstance_221 : decode cX12_checkInstance 221 = .ok (.aload_n 0, 1) := by decide +kernel
theorem dX12_checkInstance_222 : decode cX12_checkInstance 222 = .ok (.getfield 92, 3) := by decide +kernel
theorem dX12_checkInstance_225 : decode cX12_checkInstance 225 = .ok (.iload 5, 2) := by decide +kernel
theorem dX12_checkInstance_227 : decode cX12_checkInstance 227 = .ok (.iaload, 1) := by decide +kernel
theorem dX12_checkInstance_228 : decode cX12_checkInstance 228 = .ok (.iaload, 1) := by decide +kernel
theorem dX12_checkInstance_229 : decode cX12_checkInstance 229 = .ok (.invokevirtual 271, 3) := by decide +kernel
theorem dX12_checkInstance_232 : decode cX12_checkInstance 232 = .ok (.iinc 4 1, 3) := by decide +kernel
theorem dX12_checkInstance_235 : decode cX12_checkInstance 235 = .ok (.goto (-163), 3) := by decide +kernel
theorem dX12_checkInstance_238 : decode cX12_checkInstance 238 = .ok (.return_, 1) := by decide +kernel
theorem dX12_checkAll_0 : decode cX12_checkAll 0 = .ok (.iconst 0, 1) := by decide +kernel
theorem dX12_checkAll_1 : decode cX12_checkAll 1 = .ok (.istore_n 1, 1) := by decide +kernel
theorem dX12_checkAll_2 : decode cX12_checkAll 2 = .ok (.iload_n 1, 1) := by decide +kernel
theorem dX12_checkAll_3 : decode cX12_checkAll 3 = .ok (.aload_n 0, 1) := by decide +kernel
theorem dX12_checkAll_4 : decode cX12_checkAll 4 = .ok (.getfield 19, 3) := by decide +kernel
theorem dX12_checkAll_7 : decode cX12_checkAll 7 = .ok (.aload_n 0, 1) := by decide +kernel
theorem dX12_checkAll_8 : decode cX12_checkAll 8 = .ok (.getfield 118, 3) := by decide +kernel
theorem dX12_checkAll_11 : decode cX12_checkAll 11 = .ok (.iaload, 1) := by decide +kernel
theorem dX12_checkAll_12 : decode cX12_checkAll 12 = .ok (.if_icmp .ge 63, 3) := by decide +kernel
theorem dX12_checkAll_15 : decode cX12_checkAll 15 = .ok (.bipush 8, 2) := by decide +kernel
theorem dX12_checkAll_17 : decode cX12_checkAll 17 = .ok (.aload_n 0, 1) := by decide +kernel
theorem dX12_checkAll_18 : decode cX12_checkAll 18 = .ok (.getfield 118, 3) := by decide +kernel
theorem dX12_checkAll_21 : decode cX12_checkAll 21 = .ok (.imul, 1) := by decide +kernel
theorem dX12_checkAll_22 : decode cX12_checkAll 22 = .ok (.iload_n 1, 1) := by decide +kernel
theorem dX12_checkAll_23 : decode cX12_checkAll 23 = .ok (.iadd, 1) := by decide +kernel
theorem dX12_checkAll_24 : decode cX12_checkAll 24 = .ok (.istore_n 2, 1) := by decide +kernel
theorem dX12_checkAll_25 : decode cX12_checkAll 25 = .ok (.iconst 0, 1) := by decide +kernel
theorem dX12_checkAll_26 : decode cX12_checkAll 26 = .ok (.istore_n 3, 1) := by decide +kernel
theorem dX12_checkAll_27 : decode cX12_checkAll 27 = .ok (.iload_n 3, 1) := by decide +kernel
theorem dX12_checkAll_28 : decode cX12_checkAll 28 = .ok (.aload_n 0, 1) := by decide +kernel
theorem dX12_checkAll_29 : decode cX12_checkAll 29 = .ok (.getfield 74, 3) := by decide +kernel
theorem dX12_checkAll_32 : decode cX12_checkAll 32 = .ok (.iload_n 2, 1) := by decide +kernel
theorem dX12_checkAll_33 : decode cX12_checkAll 33 = .ok (.iaload, 1) := by decide +kernel
theorem dX12_checkAll_34 : decode cX12_checkAll 34 = .ok (.if_icmp .ge 35, 3) := by decide +kernel
theorem dX12_checkAll_37 : decode cX12_checkAll 37 = .ok (.aload_n 0, 1) := by decide +kernel
theorem dX12_checkAll_38 : decode cX12_checkAll 38 = .ok (.getfield 86, 3) := by decide +kernel
theorem dX12_checkAll_41 : decode cX12_checkAll 41 = .ok (.bipush 12, 2) := by decide +kernel
theorem dX12_checkAll_43 : decode cX12_checkAll 43 = .ok (.iload_n 2, 1) := by decide +kernel
theorem dX12_checkAll_44 : decode cX12_checkAll 44 = .ok (.imul, 1) := by decide +kernel
theorem dX12_checkAll_45 : decode cX12_checkAll 45 = .ok (.iload_n 3, 1) := by decide +kernel
theorem dX12_checkAll_46 : decode cX12_checkAll 46 = .ok (.iadd, 1) := by decide +kernel
theorem dX12_checkAll_47 : decode cX12_checkAll 47 = .ok (.aload_n 0, 1) := by decide +kernel
theorem dX12_checkAll_48 : decode cX12_checkAll 48 = .ok (.aload_n 0, 1) := by decide +kernel
theorem dX12_checkAll_49 : decode cX12_checkAll 49 = .ok (.getfield 77, 3) := by decide +kernel
theorem dX12_checkAll_52 : decode cX12_checkAll 52 = .ok (.bipush 12, 2) := by decide +kernel
theorem dX12_checkAll_54 : decode cX12_checkAll 54 = .ok (.iload_n 2, 1) := by decide +kernel
theorem dX12_checkAll_55 : decode cX12_checkAll 55 = .ok (.imul, 1) := by decide +kernel
theorem dX12_checkAll_56 : decode cX12_checkAll 56 = .ok (.iload_n 3, 1) := by decide +kernel
theorem dX12_checkAll_57 : decode cX12_checkAll 57 = .ok (.iadd, 1) := by decide +kernel
theorem dX12_checkAll_58 : decode cX12_checkAll 58 = .ok (.iaload, 1) := by decide +kernel
theorem dX12_checkAll_59 : decode cX12_checkAll 59 = .ok (.invokevirtual 281, 3) := by decide +kernel
theorem dX12_checkAll_62 : decode cX12_checkAll 62 = .ok (.iastore, 1) := by decide +kernel
theorem dX12_checkAll_63 : decode cX12_checkAll 63 = .ok (.iinc 3 1, 3) := by decide +kernel
theorem dX12_checkAll_66 : decode cX12_checkAll 66 = .ok (.goto (-39), 3) := by decide +kernel
theorem dX12_checkAll_69 : decode cX12_checkAll 69 = .ok (.iinc 1 1, 3) := by decide +kernel
theorem dX12_checkAll_72 : decode cX12_checkAll 72 = .ok (.goto (-70), 3) := by decide +kernel
theorem dX12_checkAll_75 : decode cX12_checkAll 75 = .ok (.iconst 0, 1) := by decide +kernel
theorem dX12_checkAll_76 : decode cX12_checkAll 76 = .ok (.istore_n 1, 1) := by decide +kernel
theorem dX12_checkAll_77 : decode cX12_checkAll 77 = .ok (.iload_n 1, 1) := by decide +kernel
theorem dX12_checkAll_78 : decode cX12_checkAll 78 = .ok (.aload_n 0, 1) := by decide +kernel
theorem dX12_checkAll_79 : decode cX12_checkAll 79 = .ok (.getfield 19, 3) := by decide +kernel
theorem dX12_checkAll_82 : decode cX12_checkAll 82 = .ok (.aload_n 0, 1) := by decide +kernel
theorem dX12_checkAll_83 : decode cX12_checkAll 83 = .ok (.getfield 118, 3) := by decide +kernel
theorem dX12_checkAll_86 : decode cX12_checkAll 86 = .ok (.iaload, 1) := by decide +kernel
theorem dX12_checkAll_87 : decode cX12_checkAll 87 = .ok (.if_icmp .ge 124, 3) := by decide +kernel
theorem dX12_checkAll_90 : decode cX12_checkAll 90 = .ok (.bipush 8, 2) := by decide +kernel
theorem dX12_checkAll_92 : decode cX12_checkAll 92 = .ok (.aload_n 0, 1) := by decide +kernel
theorem dX12_checkAll_93 : decode cX12_checkAll 93 = .ok (.getfield 118, 3) := by decide +kernel
theorem dX12_checkAll_96 : decode cX12_checkAll 96 = .ok (.imul, 1) := by decide +kernel
theorem dX12_checkAll_97 : decode cX12_checkAll 97 = .ok (.iload_n 1, 1) := by decide +kernel
theorem dX12_checkAll_98 : decode cX12_checkAll 98 = .ok (.iadd, 1) := by decide +kernel
theorem dX12_checkAll_99 : decode cX12_checkAll 99 = .ok (.istore_n 2, 1) := by decide +kernel
theorem dX12_checkAll_100 : decode cX12_checkAll 100 = .ok (.iconst 0, 1) := by decide +kernel
theorem dX12_checkAll_101 : decode cX12_checkAll 101 = .ok (.istore_n 3, 1) := by decide +kernel
theorem dX12_checkAll_102 : decode cX12_checkAll 102 = .ok (.iload_n 3, 1) := by decide +kernel
theorem dX12_checkAll_103 : decode cX12_checkAll 103 = .ok (.aload_n 0, 1) := by decide +kernel
theorem dX12_checkAll_104 : decode cX12_checkAll 104 = .ok (.getfield 65, 3) := by decide +kernel
theorem dX12_checkAll_107 : decode cX12_checkAll 107 = .ok (.iload_n 2, 1) := by decide +kernel
theorem dX12_checkAll_108 : decode cX12_checkAll 108 = .ok (.iaload, 1) := by decide +kernel
theorem dX12_checkAll_109 : decode cX12_checkAll 109 = .ok (.if_icmp .ge 67, 3) := by decide +kernel
theorem dX12_checkAll_112 : decode cX12_checkAll 112 = .ok (.aload_n 0, 1) := by decide +kernel
theorem dX12_checkAll_113 : decode cX12_checkAll 113 = .ok (.getfield 71, 3) := by decide +kernel
theorem dX12_checkAll_116 : decode cX12_checkAll 116 = .ok (.bipush 8, 2) := by decide +kernel
theorem dX12_checkAll_118 : decode cX12_checkAll 118 = .ok (.iload_n 2, 1) := by decide +kernel
theorem dX12_checkAll_119 : decode cX12_checkAll 119 = .ok (.imul, 1) := by decide +kernel
theorem dX12_checkAll_120 : decode cX12_checkAll 120 = .ok (.iload_n 3, 1) := by decide +kernel
theorem dX12_checkAll_121 : decode cX12_checkAll 121 = .ok (.iadd, 1) := by decide +kernel
theorem dX12_checkAll_122 : decode cX12_checkAll 122 = .ok (.iaload, 1) := by decide +kernel
theorem dX12_checkAll_123 : decode cX12_checkAll 123 = .ok (.istore 4, 2) := by decide +kernel
theorem dX12_checkAll_125 : decode cX12_checkAll 125 = .ok (.aload_n 0, 1) := by decide +kernel
theorem dX12_checkAll_126 : decode cX12_checkAll 126 = .ok (.aload_n 0, 1) := by decide +kernel
theorem dX12_checkAll_127 : decode cX12_checkAll 127 = .ok (.getfield 118, 3) := by decide +kernel
theorem dX12_checkAll_130 : decode cX12_checkAll 130 = .ok (.iload_n 2, 1) := by decide +kernel
theorem dX12_checkAll_131 : decode cX12_checkAll 131 = .ok (.aload_n 0, 1) := by decide +kernel
theorem dX12_checkAll_132 : decode cX12_checkAll 132 = .ok (.getfield 68, 3) := by decide +kernel
theorem dX12_checkAll_135 : decode cX12_checkAll 135 = .ok (.bipush 8, 2) := by decide +kernel
theorem dX12_checkAll_137 : decode cX12_checkAll 137 = .ok (.iload_n 2, 1) := by decide +kernel
theorem dX12_checkAll_138 : decode cX12_checkAll 138 = .ok (.imul, 1) := by decide +kernel
theorem dX12_checkAll_139 : decode cX12_checkAll 139 = .ok (.iload_n 3, 1) := by decide +kernel
theorem dX12_checkAll_140 : decode cX12_checkAll 140 = .ok (.iadd, 1) := by decide +kernel
theorem dX12_checkAll_141 : decode cX12_checkAll 141 = .ok (.iaload, 1) := by decide +kernel
theorem dX12_checkAll_142 : decode cX12_checkAll 142 = .ok (.invokevirtual 277, 3) := by decide +kernel
theorem dX12_checkAll_145 : decode cX12_checkAll 145 = .ok (.aload_n 0, 1) := by decide +kernel
theorem dX12_checkAll_146 : decode cX12_checkAll 146 = .ok (.aload_n 0, 1) := by decide +kernel
theorem dX12_checkAll_147 : decode cX12_checkAll 147 = .ok (.getfield 118, 3) := by decide +kernel
theorem dX12_checkAll_150 : decode cX12_checkAll 150 = .ok (.iload_n 2, 1) := by decide +kernel
theorem dX12_checkAll_151 : decode cX12_checkAll 151 = .ok (.iload 4, 2) := by decide +kernel
theorem dX12_checkAll_153 : decode cX12_checkAll 153 = .ok (.invokevirtual 277, 3) := by decide +kernel
theorem dX12_checkAll_156 : decode cX12_checkAll 156 = .ok (.if_icmp .eq 14, 3) := by decide +kernel
theorem dX12_checkAll_159 : decode cX12_checkAll 159 = .ok (.aload_n 0, 1) := by decide +kernel
theorem dX12_checkAll_160 : decode cX12_checkAll 160 = .ok (.aload_n 0, 1) := by decide +kernel
theorem dX12_checkAll_161 : decode cX12_checkAll 161 = .ok (.getfield 50, 3) := by decide +kernel
theorem dX12_checkAll_164 : decode cX12_checkAll 164 = .ok (.iload 4, 2) := by decide +kernel
theorem dX12_checkAll_166 : decode cX12_checkAll 166 = .ok (.iaload, 1) := by decide +kernel
theorem dX12_checkAll_167 : decode cX12_checkAll 167 = .ok (.invokevirtual 271, 3) := by decide +kernel
theorem dX12_checkAll_170 : decode cX12_checkAll 170 = .ok (.iinc 3 1, 3) := by decide +kernel
theorem dX12_checkAll_173 : decode cX12_checkAll 173 = .ok (.goto (-71), 3) := by decide +kernel
theorem dX12_checkAll_176 : decode cX12_checkAll 176 = .ok (.iconst 0, 1) := by decide +kernel
theorem dX12_checkAll_177 : decode cX12_checkAll 177 = .ok (.istore_n 3, 1) := by decide +kernel
theorem dX12_checkAll_178 : decode cX12_checkAll 178 = .ok (.iload_n 3, 1) := by decide +kernel
theorem dX12_checkAll_179 : decode cX12_checkAll 179 = .ok (.aload_n 0, 1) := by decide +kernel
theorem dX12_checkAll_180 : decode cX12_checkAll 180 = .ok (.getfield 74, 3) := by decide +kernel
theorem dX12_checkAll_183 : decode cX12_checkAll 183 = .ok (.iload_n 2, 1) := by decide +kernel
theorem dX12_checkAll_184 : decode cX12_checkAll 184 = .ok (.iaload, 1) := by decide +kernel
theorem dX12_checkAll_185 : decode cX12_checkAll 185 = .ok (.if_icmp .ge 20, 3) := by decide +kernel
theorem dX12_checkAll_188 : decode cX12_checkAll 188 = .ok (.aload_n 0, 1) := by decide +kernel
theorem dX12_checkAll_189 : decode cX12_checkAll 189 = .ok (.iload_n 2, 1) := by decide +kernel
theorem dX12_checkAll_190 : decode cX12_checkAll 190 = .ok (.bipush 12, 2) := by decide +kernel
theorem dX12_checkAll_192 : decode cX12_checkAll 192 = .ok (.iload_n 2, 1) := by decide +kernel
theorem dX12_checkAll_193 : decode cX12_checkAll 193 = .ok (.imul, 1) := by decide +kernel
theorem dX12_checkAll_194 : decode cX12_checkAll 194 = .ok (.iload_n 3, 1) := by decide +kernel
theorem dX12_checkAll_195 : decode cX12_checkAll 195 = .ok (.iadd, 1) := by decide +kernel
theorem dX12_checkAll_196 : decode cX12_checkAll 196 = .ok (.invokevirtual 284, 3) := by decide +kernel
theorem dX12_checkAll_199 : decode cX12_checkAll 199 = .ok (.iinc 3 1, 3) := by decide +kernel
theorem dX12_checkAll_202 : decode cX12_checkAll 202 = .ok (.goto (-24), 3) := by decide +kernel
theorem dX12_checkAll_205 : decode cX12_checkAll 205 = .ok (.iinc 1 1, 3) := by decide +kernel
theorem dX12_checkAll_208 : decode cX12_checkAll 208 = .ok (.goto (-131), 3) := by decide +kernel
theorem dX12_checkAll_211 : decode cX12_checkAll 211 = .ok (.return_, 1) := by decide +kernel
theorem dX12_reached_0 : decode cX12_reached 0 = .ok (.iconst 0, 1) := by decide +kernel
theorem dX12_reached_1 : decode cX12_reached 1 = .ok (.istore_n 2, 1) := by decide +kernel
theorem dX12_reached_2 : decode cX12_reached 2 = .ok (.iconst 0, 1) := by decide +kernel
theorem dX12_reached_3 : decode cX12_reached 3 = .ok (.istore_n 3, 1) := by decide +kernel
theorem dX12_reached_4 : decode cX12_reached 4 = .ok (.iload_n 3, 1) := by decide +kernel
theorem dX12_reached_5 : decode cX12_reached 5 = .ok (.bipush 8, 2) := by decide +kernel
theorem dX12_reached_7 : decode cX12_reached 7 = .ok (.if_icmp .ge 122, 3) := by decide +kernel
theorem dX12_reached_10 : decode cX12_reached 10 = .ok (.iload_n 2, 1) := by decide +kernel
theorem dX12_reached_11 : decode cX12_reached 11 = .ok (.istore 4, 2) := by decide +kernel
theorem dX12_reached_13 : decode cX12_reached 13 = .ok (.iconst 0, 1) := by decide +kernel
theorem dX12_reached_14 : decode cX12_reached 14 = .ok (.istore 5, 2) := by decide +kernel
theorem dX12_reached_16 : decode cX12_reached 16 = .ok (.iload 5, 2) := by decide +kernel
theorem dX12_reached_18 : decode cX12_reached 18 = .ok (.aload_n 0, 1) := by decide +kernel
theorem dX12_reached_19 : decode cX12_reached 19 = .ok (.getfield 19, 3) := by decide +kernel
theorem dX12_reached_22 : decode cX12_reached 22 = .ok (.aload_n 0, 1) := by decide +kernel
theorem dX12_reached_23 : decode cX12_reached 23 = .ok (.getfield 118, 3) := by decide +kernel
theorem dX12_reached_26 : decode cX12_reached 26 = .ok (.iaload, 1) := by decide +kernel
theorem dX12_reached_27 : decode cX12_reached 27 = .ok (.if_icmp .ge 93, 3) := by decide +kernel
theorem dX12_reached_30 : decode cX12_reached 30 = .ok (.bipush 8, 2) := by decide +kernel
theorem dX12_reached_32 : decode cX12_reached 32 = .ok (.aload_n 0, 1) := by decide +kernel
theorem dX12_reached_33 : decode cX12_reached 33 = .ok (.getfield 118, 3) := by decide +kernel
theorem dX12_reached_36 : decode cX12_reached 36 = .ok (.imul, 1) := by decide +kernel
theorem dX12_reached_37 : decode cX12_reached 37 = .ok (.iload 5, 2) := by decide +kernel
theorem dX12_reached_39 : decode cX12_reached 39 = .ok (.iadd, 1) := by decide +kernel
theorem dX12_reached_40 : decode cX12_reached 40 = .ok (.istore 6, 2) := by decide +kernel
theorem dX12_reached_42 : decode cX12_reached 42 = .ok (.iconst 0, 1) := by decide +kernel
theorem dX12_reached_43 : decode cX12_reached 43 = .ok (.istore 7, 2) := by decide +kernel
theorem dX12_reached_45 : decode cX12_reached 45 = .ok (.iload 7, 2) := by decide +kernel
theorem dX12_reached_47 : decode cX12_reached 47 = .ok (.aload_n 0, 1) := by decide +kernel
theorem dX12_reached_48 : decode cX12_reached 48 = .ok (.getfield 74, 3) := by decide +kernel
theorem dX12_reached_51 : decode cX12_reached 51 = .ok (.iload 6, 2) := by decide +kernel
theorem dX12_reached_53 : decode cX12_reached 53 = .ok (.iaload, 1) := by decide +kernel
theorem dX12_reached_54 : decode cX12_reached 54 = .ok (.if_icmp .ge 60, 3) := by decide +kernel
theorem dX12_reached_57 : decode cX12_reached 57 = .ok (.iload 5, 2) := by decide +kernel
theorem dX12_reached_59 : decode cX12_reached 59 = .ok (.iload_n 1, 1) := by decide +kernel
theorem dX12_reached_60 : decode cX12_reached 60 = .ok (.if_icmp .eq 13, 3) := by decide +kernel
theorem dX12_reached_63 : decode cX12_reached 63 = .ok (.iload_n 2, 1) := by decide +kernel
theorem dX12_reached_64 : decode cX12_reached 64 = .ok (.iload 5, 2) := by decide +kernel
theorem dX12_reached_66 : decode cX12_reached 66 = .ok (.ishr, 1) := by decide +kernel
theorem dX12_reached_67 : decode cX12_reached 67 = .ok (.iconst 1, 1) := by decide +kernel
theorem dX12_reached_68 : decode cX12_reached 68 = .ok (.iand, 1) := by decide +kernel
theorem dX12_reached_69 : decode cX12_reached 69 = .ok (.iconst 1, 1) := by decide +kernel
theorem dX12_reached_70 : decode cX12_reached 70 = .ok (.if_icmp .ne 44, 3) := by decide +kernel
theorem dX12_reached_73 : decode cX12_reached 73 = .ok (.aload_n 0, 1) := by decide +kernel
theorem dX12_reached_74 : decode cX12_reached 74 = .ok (.getfield 86, 3) := by decide +kernel
theorem dX12_reached_77 : decode cX12_reached 77 = .ok (.bipush 12, 2) := by decide +kernel
theorem dX12_reached_79 : decode cX12_reached 79 = .ok (.iload 6, 2) := by decide +kernel
theorem dX12_reached_81 : decode cX12_reached 81 = .ok (.imul, 1) := by decide +kernel
theorem dX12_reached_82 : decode cX12_reached 82 = .ok (.iload 7, 2) := by decide +kernel
theorem dX12_reached_84 : decode cX12_reached 84 = .ok (.iadd, 1) := by decide +kernel
theorem dX12_reached_85 : decode cX12_reached 85 = .ok (.iaload, 1) := by decide +kernel
theorem dX12_reached_86 : decode cX12_reached 86 = .ok (.istore 8, 2) := by decide +kernel
theorem dX12_reached_88 : decode cX12_reached 88 = .ok (.iload 8, 2) := by decide +kernel
theorem dX12_reached_90 : decode cX12_reached 90 = .ok (.iconst (-1), 1) := by decide +kernel
theorem dX12_reached_91 : decode cX12_reached 91 = .ok (.if_icmp .ne 8, 3) := by decide +kernel
theorem dX12_reached_94 : decode cX12_reached 94 = .ok (.iload 4, 2) := by decide +kernel
theorem dX12_reached_96 : decode cX12_reached 96 = .ok (.goto 10, 3) := by decide +kernel
theorem dX12_reached_99 : decode cX12_reached 99 = .ok (.iload 4, 2) := by decide +kernel
theorem dX12_reached_101 : decode cX12_reached 101 = .ok (.iconst 1, 1) := by decide +kernel
theorem dX12_reached_102 : decode cX12_reached 102 = .ok (.iload 8, 2) := by decide +kernel
theorem dX12_reached_104 : decode cX12_reached 104 = .ok (.ishl, 1) := by decide +kernel
theorem dX12_reached_105 : decode cX12_reached 105 = .ok (.ior, 1) := by decide +kernel
theorem dX12_reached_106 : decode cX12_reached 106 = .ok (.istore 4, 2) := by decide +kernel
theorem dX12_reached_108 : decode cX12_reached 108 = .ok (.iinc 7 1, 3) := by decide +kernel
theorem dX12_reached_111 : decode cX12_reached 111 = .ok (.goto (-66), 3) := by decide +kernel
theorem dX12_reached_114 : decode cX12_reached 114 = .ok (.iinc 5 1, 3) := by decide +kernel
theorem dX12_reached_117 : decode cX12_reached 117 = .ok (.goto (-101), 3) := by decide +kernel
theorem dX12_reached_120 : decode cX12_reached 120 = .ok (.iload 4, 2) := by decide +kernel
theorem dX12_reached_122 : decode cX12_reached 122 = .ok (.istore_n 2, 1) := by decide +kernel
theorem dX12_reached_123 : decode cX12_reached 123 = .ok (.iinc 3 1, 3) := by decide +kernel
theorem dX12_reached_126 : decode cX12_reached 126 = .ok (.goto (-122), 3) := by decide +kernel
theorem dX12_reached_129 : decode cX12_reached 129 = .ok (.iload_n 2, 1) := by decide +kernel
theorem dX12_reached_130 : decode cX12_reached 130 = .ok (.ireturn, 1) := by decide +kernel
theorem dX12_checkRings_0 : decode cX12_checkRings 0 = .ok (.iconst 0, 1) := by decide +kernel
theorem dX12_checkRings_1 : decode cX12_checkRings 1 = .ok (.istore_n 1, 1) := by decide +kernel
theorem dX12_checkRings_2 : decode cX12_checkRings 2 = .ok (.iload_n 1, 1) := by decide +kernel
theorem dX12_checkRings_3 : decode cX12_checkRings 3 = .ok (.aload_n 0, 1) := by decide +kernel
theorem dX12_checkRings_4 : decode cX12_checkRings 4 = .ok (.getfield 19, 3) := by decide +kernel
theorem dX12_checkRings_7 : decode cX12_checkRings 7 = .ok (.aload_n 0, 1) := by decide +kernel
theorem dX12_checkRings_8 : decode cX12_checkRings 8 = .ok (.getfield 118, 3) := by decide +kernel
theorem dX12_checkRings_11 : decode cX12_checkRings 11 = .ok (.iaload, 1) := by decide +kernel
theorem dX12_checkRings_12 : decode cX12_checkRings 12 = .ok (.if_icmp .ge 47, 3) := by decide +kernel
theorem dX12_checkRings_15 : decode cX12_checkRings 15 = .ok (.aload_n 0, 1) := by decide +kernel
theorem dX12_checkRings_16 : decode cX12_checkRings 16 = .ok (.invokevirtual 121, 3) := by decide +kernel
theorem dX12_checkRings_19 : decode cX12_checkRings 19 = .ok (.ifCond .eq 40, 3) := by decide +kernel
theorem dX12_checkRings_22 : decode cX12_checkRings 22 = .ok (.aload_n 0, 1) := by decide +kernel
theorem dX12_checkRings_23 : decode cX12_checkRings 23 = .ok (.iload_n 1, 1) := by decide +kernel
theorem dX12_checkRings_24 : decode cX12_checkRings 24 = .ok (.invokevirtual 287, 3) := by decide +kernel
theorem dX12_checkRings_27 : decode cX12_checkRings 27 = .ok (.iload_n 1, 1) := by decide +kernel
theorem dX12_checkRings_28 : decode cX12_checkRings 28 = .ok (.ishr, 1) := by decide +kernel
theorem dX12_checkRings_29 : decode cX12_checkRings 29 = .ok (.iconst 1, 1) := by decide +kernel
theorem dX12_checkRings_30 : decode cX12_checkRings 30 = .ok (.iand, 1) := by decide +kernel
theorem dX12_checkRings_31 : decode cX12_checkRings 31 = .ok (.iconst 1, 1) := by decide +kernel
theorem dX12_checkRings_32 : decode cX12_checkRings 32 = .ok (.if_icmp .ne 21, 3) := by decide +kernel
theorem dX12_checkRings_35 : decode cX12_checkRings 35 = .ok (.aload_n 0, 1) := by decide +kernel
theorem dX12_checkRings_36 : decode cX12_checkRings 36 = .ok (.aload_n 0, 1) := by decide +kernel
theorem dX12_checkRings_37 : decode cX12_checkRings 37 = .ok (.getfield 22, 3) := by decide +kernel
theorem dX12_checkRings_40 : decode cX12_checkRings 40 = .ok (.bipush 8, 2) := by decide +kernel
theorem dX12_checkRings_42 : decode cX12_checkRings 42 = .ok (.aload_n 0, 1) := by decide +kernel
theorem dX12_checkRings_43 : decode cX12_checkRings 43 = .ok (.getfield 118, 3) := by decide +kernel
theorem dX12_checkRings_46 : decode cX12_checkRings 46 = .ok (.imul, 1) := by decide +kernel
theorem dX12_checkRings_47 : decode cX12_checkRings 47 = .ok (.iload_n 1, 1) := by decide +kernel
theorem dX12_checkRings_48 : decode cX12_checkRings 48 = .ok (.iadd, 1) := by decide +kernel
theorem dX12_checkRings_49 : decode cX12_checkRings 49 = .ok (.iaload, 1) := by decide +kernel
theorem dX12_checkRings_50 : decode cX12_checkRings 50 = .ok (.invokevirtual 150, 3) := by decide +kernel
theorem dX12_checkRings_53 : decode cX12_checkRings 53 = .ok (.iinc 1 1, 3) := by decide +kernel
theorem dX12_checkRings_56 : decode cX12_checkRings 56 = .ok (.goto (-54), 3) := by decide +kernel
theorem dX12_checkRings_59 : decode cX12_checkRings 59 = .ok (.return_, 1) := by decide +kernel
theorem dX12_finish_0 : decode cX12_finish 0 = .ok (.iconst 0, 1) := by decide +kernel
theorem dX12_finish_1 : decode cX12_finish 1 = .ok (.istore_n 1, 1) := by decide +kernel
theorem dX12_finish_2 : decode cX12_finish 2 = .ok (.iload_n 1, 1) := by decide +kernel
theorem dX12_finish_3 : decode cX12_finish 3 = .ok (.aload_n 0, 1) := by decide +kernel
theorem dX12_finish_4 : decode cX12_finish 4 = .ok (.getfield 19, 3) := by decide +kernel
theorem dX12_finish_7 : decode cX12_finish 7 = .ok (.aload_n 0, 1) := by decide +kernel
theorem dX12_finish_8 : decode cX12_finish 8 = .ok (.getfield 118, 3) := by decide +kernel
theorem dX12_finish_11 : decode cX12_finish 11 = .ok (.iaload, 1) := by decide +kernel
theorem dX12_finish_12 : decode cX12_finish 12 = .ok (.if_icmp .ge 94, 3) := by decide +kernel
theorem dX12_finish_15 : decode cX12_finish 15 = .ok (.iconst 0, 1) := by decide +kernel
theorem dX12_finish_16 : decode cX12_finish 16 = .ok (.istore_n 2, 1) := by decide +kernel
theorem dX12_finish_17 : decode cX12_finish 17 = .ok (.iconst 0, 1) := by decide +kernel
theorem dX12_finish_18 : decode cX12_finish 18 = .ok (.istore_n 3, 1) := by decide +kernel
theorem dX12_finish_19 : decode cX12_finish 19 = .ok (.iload_n 3, 1) := by decide +kernel
theorem dX12_finish_20 : decode cX12_finish 20 = .ok (.aload_n 0, 1) := by decide +kernel
theorem dX12_finish_21 : decode cX12_finish 21 = .ok (.getfield 28, 3) := by decide +kernel
theorem dX12_finish_24 : decode cX12_finish 24 = .ok (.bipush 8, 2) := by decide +kernel
theorem dX12_finish_26 : decode cX12_finish 26 = .ok (.aload_n 0, 1) := by decide +kernel
theorem dX12_finish_27 : decode cX12_finish 27 = .ok (.getfield 118, 3) := by decide +kernel
theorem dX12_finish_30 : decode cX12_finish 30 = .ok (.imul, 1) := by decide +kernel
theorem dX12_finish_31 : decode cX12_finish 31 = .ok (.iload_n 1, 1) := by decide +kernel
theorem dX12_finish_32 : decode cX12_finish 32 = .ok (.iadd, 1) := by decide +kernel
theorem dX12_finish_33 : decode cX12_finish 33 = .ok (.iaload, 1) := by decide +kernel
theorem dX12_finish_34 : decode cX12_finish 34 = .ok (.if_icmp .ge 51, 3) := by decide +kernel
theorem dX12_finish_37 : decode cX12_finish 37 = .ok (.aload_n 0, 1) := by decide +kernel
theorem dX12_finish_38 : decode cX12_finish 38 = .ok (.getfield 40, 3) := by decide +kernel
theorem dX12_finish_41 : decode cX12_finish 41 = .ok (.bipush 16, 2) := by decide +kernel
theorem dX12_finish_43 : decode cX12_finish 43 = .ok (.bipush 8, 2) := by decide +kernel
theorem dX12_finish_45 : decode cX12_finish 45 = .ok (.aload_n 0, 1) := by decide +kernel
theorem dX12_finish_46 : decode cX12_finish 46 = .ok (.getfield 118, 3) := by decide +kernel
theorem dX12_finish_49 : decode cX12_finish 49 = .ok (.imul, 1) := by decide +kernel
theorem dX12_finish_50 : decode cX12_finish 50 = .ok (.iload_n 1, 1) := by decide +kernel
theorem dX12_finish_51 : decode cX12_finish 51 = .ok (.iadd, 1) := by decide +kernel
theorem dX12_finish_52 : decode cX12_finish 52 = .ok (.imul, 1) := by decide +kernel
theorem dX12_finish_53 : decode cX12_finish 53 = .ok (.iload_n 3, 1) := by decide +kernel
theorem dX12_finish_54 : decode cX12_finish 54 = .ok (.iadd, 1) := by decide +kernel
theorem dX12_finish_55 : decode cX12_finish 55 = .ok (.iload_n 2, 1) := by decide +kernel
theorem dX12_finish_56 : decode cX12_finish 56 = .ok (.iastore, 1) := by decide +kernel
theorem dX12_finish_57 : decode cX12_finish 57 = .ok (.iload_n 2, 1) := by decide +kernel
theorem dX12_finish_58 : decode cX12_finish 58 = .ok (.aload_n 0, 1) := by decide +kernel
theorem dX12_finish_59 : decode cX12_finish 59 = .ok (.getfield 37, 3) := by decide +kernel
theorem dX12_finish_62 : decode cX12_finish 62 = .ok (.bipush 16, 2) := by decide +kernel
theorem dX12_finish_64 : decode cX12_finish 64 = .ok (.bipush 8, 2) := by decide +kernel
theorem dX12_finish_66 : decode cX12_finish 66 = .ok (.aload_n 0, 1) := by decide +kernel
theorem dX12_finish_67 : decode cX12_finish 67 = .ok (.getfield 118, 3) := by decide +kernel
theorem dX12_finish_70 : decode cX12_finish 70 = .ok (.imul, 1) := by decide +kernel
theorem dX12_finish_71 : decode cX12_finish 71 = .ok (.iload_n 1, 1) := by decide +kernel
theorem dX12_finish_72 : decode cX12_finish 72 = .ok (.iadd, 1) := by decide +kernel
theorem dX12_finish_73 : decode cX12_finish 73 = .ok (.imul, 1) := by decide +kernel
theorem dX12_finish_74 : decode cX12_finish 74 = .ok (.iload_n 3, 1) := by decide +kernel
theorem dX12_finish_75 : decode cX12_finish 75 = .ok (.iadd, 1) := by decide +kernel
theorem dX12_finish_76 : decode cX12_finish 76 = .ok (.iaload, 1) := by decide +kernel
theorem dX12_finish_77 : decode cX12_finish 77 = .ok (.iadd, 1) := by decide +kernel
theorem dX12_finish_78 : decode cX12_finish 78 = .ok (.istore_n 2, 1) := by decide +kernel
theorem dX12_finish_79 : decode cX12_finish 79 = .ok (.iinc 3 1, 3) := by decide +kernel
theorem dX12_finish_82 : decode cX12_finish 82 = .ok (.goto (-63), 3) := by decide +kernel
theorem dX12_finish_85 : decode cX12_finish 85 = .ok (.aload_n 0, 1) := by decide +kernel
theorem dX12_finish_86 : decode cX12_finish 86 = .ok (.getfield 101, 3) := by decide +kernel
theorem dX12_finish_89 : decode cX12_finish 89 = .ok (.bipush 8, 2) := by decide +kernel
theorem dX12_finish_91 : decode cX12_finish 91 = .ok (.aload_n 0, 1) := by decide +kernel
theorem dX12_finish_92 : decode cX12_finish 92 = .ok (.getfield 118, 3) := by decide +kernel
theorem dX12_finish_95 : decode cX12_finish 95 = .ok (.imul, 1) := by decide +kernel
theorem dX12_finish_96 : decode cX12_finish 96 = .ok (.iload_n 1, 1) := by decide +kernel
theorem dX12_finish_97 : decode cX12_finish 97 = .ok (.iadd, 1) := by decide +kernel
theorem dX12_finish_98 : decode cX12_finish 98 = .ok (.iconst 0, 1) := by decide +kernel
theorem dX12_finish_99 : decode cX12_finish 99 = .ok (.iastore, 1) := by decide +kernel
theorem dX12_finish_100 : decode cX12_finish 100 = .ok (.iinc 1 1, 3) := by decide +kernel
theorem dX12_finish_103 : decode cX12_finish 103 = .ok (.goto (-101), 3) := by decide +kernel
theorem dX12_finish_106 : decode cX12_finish 106 = .ok (.iconst 0, 1) := by decide +kernel
theorem dX12_finish_107 : decode cX12_finish 107 = .ok (.istore_n 1, 1) := by decide +kernel
theorem dX12_finish_108 : decode cX12_finish 108 = .ok (.iload_n 1, 1) := by decide +kernel
theorem dX12_finish_109 : decode cX12_finish 109 = .ok (.bipush 8, 2) := by decide +kernel
theorem dX12_finish_111 : decode cX12_finish 111 = .ok (.if_icmp .ge 131, 3) := by decide +kernel
theorem dX12_finish_114 : decode cX12_finish 114 = .ok (.iconst 0, 1) := by decide +kernel
theorem dX12_finish_115 : decode cX12_finish 115 = .ok (.istore_n 2, 1) := by decide +kernel
theorem dX12_finish_116 : decode cX12_finish 116 = .ok (.iload_n 2, 1) := by decide +kernel
theorem dX12_finish_117 : decode cX12_finish 117 = .ok (.aload_n 0, 1) := by decide +kernel
theorem dX12_finish_118 : decode cX12_finish 118 = .ok (.getfield 19, 3) := by decide +kernel
theorem dX12_finish_121 : decode cX12_finish 121 = .ok (.aload_n 0, 1) := by decide +kernel
theorem dX12_finish_122 : decode cX12_finish 122 = .ok (.getfield 118, 3) := by decide +kernel
theorem dX12_finish_125 : decode cX12_finish 125 = .ok (.iaload, 1) := by decide +kernel
theorem dX12_finish_126 : decode cX12_finish 126 = .ok (.if_icmp .ge 110, 3) := by decide +kernel
theorem dX12_finish_129 : decode cX12_finish 129 = .ok (.bipush 8, 2) := by decide +kernel
theorem dX12_finish_131 : decode cX12_finish 131 = .ok (.aload_n 0, 1) := by decide +kernel
theorem dX12_finish_132 : decode cX12_finish 132 = .ok (.getfield 118, 3) := by decide +kernel
theorem dX12_finish_135 : decode cX12_finish 135 = .ok (.imul, 1) := by decide +kernel
theorem dX12_finish_136 : decode cX12_finish 136 = .ok (.iload_n 2, 1) := by decide +kernel
theorem dX12_finish_137 : decode cX12_finish 137 = .ok (.iadd, 1) := by decide +kernel
theorem dX12_finish_138 : decode cX12_finish 138 = .ok (.istore_n 3, 1) := by decide +kernel
theorem dX12_finish_139 : decode cX12_finish 139 = .ok (.iconst 0, 1) := by decide +kernel
theorem dX12_finish_140 : decode cX12_finish 140 = .ok (.istore 4, 2) := by decide +kernel
theorem dX12_finish_142 : decode cX12_finish 142 = .ok (.iload 4, 2) := by decide +kernel
theorem dX12_finish_144 : decode cX12_finish 144 = .ok (.aload_n 0, 1) := by decide +kernel
theorem dX12_finish_145 : decode cX12_finish 145 = .ok (.getfield 74, 3) := by decide +kernel
theorem dX12_finish_148 : decode cX12_finish 148 = .ok (.iload_n 3, 1) := by decide +kernel
theorem dX12_finish_149 : decode cX12_finish 149 = .ok (.iaload, 1) := by decide +kernel
theorem dX12_finish_150 : decode cX12_finish 150 = .ok (.if_icmp .ge 80, 3) := by decide +kernel
theorem dX12_finish_153 : decode cX12_finish 153 = .ok (.aload_n 0, 1) := by decide +kernel
theorem dX12_finish_154 : decode cX12_finish 154 = .ok (.getfield 86, 3) := by decide +kernel
theorem dX12_finish_157 : decode cX12_finish 157 = .ok (.bipush 12, 2) := by decide +kernel
theorem dX12_finish_159 : decode cX12_finish 159 = .ok (.iload_n 3, 1) := by decide +kernel
theorem dX12_finish_160 : decode cX12_finish 160 = .ok (.imul, 1) := by decide +kernel
theorem dX12_finish_161 : decode cX12_finish 161 = .ok (.iload 4, 2) := by decide +kernel
theorem dX12_finish_163 : decode cX12_finish 163 = .ok (.iadd, 1) := by decide +kernel
theorem dX12_finish_164 : decode cX12_finish 164 = .ok (.iaload, 1) := by decide +kernel
theorem dX12_finish_165 : decode cX12_finish 165 = .ok (.istore 5, 2) := by decide +kernel
theorem dX12_finish_167 : decode cX12_finish 167 = .ok (.iload 5, 2) := by decide +kernel
theorem dX12_finish_169 : decode cX12_finish 169 = .ok (.iconst (-1), 1) := by decide +kernel
theorem dX12_finish_170 : decode cX12_finish 170 = .ok (.if_icmp .ne 7, 3) := by decide +kernel
theorem dX12_finish_173 : decode cX12_finish 173 = .ok (.iconst 0, 1) := by decide +kernel
theorem dX12_finish_174 : decode cX12_finish 174 = .ok (.goto 20, 3) := by decide +kernel
theorem dX12_finish_177 : decode cX12_finish 177 = .ok (.aload_n 0, 1) := by decide +kernel
theorem dX12_finish_178 : decode cX12_finish 178 = .ok (.getfield 101, 3) := by decide +kernel
theorem dX12_finish_181 : decode cX12_finish 181 = .ok (.bipush 8, 2) := by decide +kernel
theorem dX12_finish_183 : decode cX12_finish 183 = .ok (.aload_n 0, 1) := by decide +kernel
theorem dX12_finish_184 : decode cX12_finish 184 = .ok (.getfield 118, 3) := by decide +kernel
theorem dX12_finish_187 : decode cX12_finish 187 = .ok (.imul, 1) := by decide +kernel
theorem dX12_finish_188 : decode cX12_finish 188 = .ok (.iload 5, 2) := by decide +kernel
theorem dX12_finish_190 : decode cX12_finish 190 = .ok (.iadd, 1) := by decide +kernel
theorem dX12_finish_191 : decode cX12_finish 191 = .ok (.iaload, 1) := by decide +kernel
theorem dX12_finish_192 : decode cX12_finish 192 = .ok (.iconst 1, 1) := by decide +kernel
theorem dX12_finish_193 : decode cX12_finish 193 = .ok (.iadd, 1) := by decide +kernel
theorem dX12_finish_194 : decode cX12_finish 194 = .ok (.istore 6, 2) := by decide +kernel
theorem dX12_finish_196 : decode cX12_finish 196 = .ok (.aload_n 0, 1) := by decide +kernel
theorem dX12_finish_197 : decode cX12_finish 197 = .ok (.getfield 101, 3) := by decide +kernel
theorem dX12_finish_200 : decode cX12_finish 200 = .ok (.iload_n 3, 1) := by decide +kernel
theorem dX12_finish_201 : decode cX12_finish 201 = .ok (.iload 6, 2) := by decide +kernel
theorem dX12_finish_203 : decode cX12_finish 203 = .ok (.aload_n 0, 1) := by decide +kernel
theorem dX12_finish_204 : decode cX12_finish 204 = .ok (.getfield 101, 3) := by decide +kernel
theorem dX12_finish_207 : decode cX12_finish 207 = .ok (.iload_n 3, 1) := by decide +kernel
theorem dX12_finish_208 : decode cX12_finish 208 = .ok (.iaload, 1) := by decide +kernel
theorem dX12_finish_209 : decode cX12_finish 209 = .ok (.if_icmp .le 8, 3) := by decide +kernel
theorem dX12_finish_212 : decode cX12_finish 212 = .ok (.iload 6, 2) := by decide +kernel
theorem dX12_finish_214 : decode cX12_finish 214 = .ok (.goto 9, 3) := by decide +kernel
theorem dX12_finish_217 : decode cX12_finish 217 = .ok (.aload_n 0, 1) := by decide +kernel
theorem dX12_finish_218 : decode cX12_finish 218 = .ok (.getfield 101, 3) := by decide +kernel
theorem dX12_finish_221 : decode cX12_finish 221 = .ok (.iload_n 3, 1) := by decide +kernel
theorem dX12_finish_222 : decode cX12_finish 222 = .ok (.iaload, 1) := by decide +kernel
theorem dX12_finish_223 : decode cX12_finish 223 = .ok (.iastore, 1) := by decide +kernel
theorem dX12_finish_224 : decode cX12_finish 224 = .ok (.iinc 4 1, 3) := by decide +kernel
theorem dX12_finish_227 : decode cX12_finish 227 = .ok (.goto (-85), 3) := by decide +kernel
theorem dX12_finish_230 : decode cX12_finish 230 = .ok (.iinc 2 1, 3) := by decide +kernel
theorem dX12_finish_233 : decode cX12_finish 233 = .ok (.goto (-117), 3) := by decide +kernel
theorem dX12_finish_236 : decode cX12_finish 236 = .ok (.iinc 1 1, 3) := by decide +kernel
theorem dX12_finish_239 : decode cX12_finish 239 = .ok (.goto (-131), 3) := by decide +kernel
theorem dX12_finish_242 : decode cX12_finish 242 = .ok (.return_, 1) := by decide +kernel
theorem dX12_read_0 : decode cX12_read 0 = .ok (.aload_n 0, 1) := by decide +kernel
theorem dX12_read_1 : decode cX12_read 1 = .ok (.iload_n 1, 1) := by decide +kernel
theorem dX12_read_2 : decode cX12_read 2 = .ok (.ifCond .eq 8, 3) := by decide +kernel
theorem dX12_read_5 : decode cX12_read 5 = .ok (.iload_n 1, 1) := by decide +kernel
theorem dX12_read_6 : decode cX12_read 6 = .ok (.iconst 1, 1) := by decide +kernel
theorem dX12_read_7 : decode cX12_read 7 = .ok (.if_icmp .ne 7, 3) := by decide +kernel
theorem dX12_read_10 : decode cX12_read 10 = .ok (.iconst 0, 1) := by decide +kernel
theorem dX12_read_11 : decode cX12_read 11 = .ok (.goto 4, 3) := by decide +kernel
theorem dX12_read_14 : decode cX12_read 14 = .ok (.iconst 1, 1) := by decide +kernel
theorem dX12_read_15 : decode cX12_read 15 = .ok (.putfield 108, 3) := by decide +kernel
theorem dX12_read_18 : decode cX12_read 18 = .ok (.aload_n 0, 1) := by decide +kernel
theorem dX12_read_19 : decode cX12_read 19 = .ok (.getfield 108, 3) := by decide +kernel
theorem dX12_read_22 : decode cX12_read 22 = .ok (.ifCond .le 5, 3) := by decide +kernel
theorem dX12_read_25 : decode cX12_read 25 = .ok (.iconst 0, 1) := by decide +kernel
theorem dX12_read_26 : decode cX12_read 26 = .ok (.ireturn, 1) := by decide +kernel
theorem dX12_read_27 : decode cX12_read 27 = .ok (.aload_n 0, 1) := by decide +kernel
theorem dX12_read_28 : decode cX12_read 28 = .ok (.iconst 1, 1) := by decide +kernel
theorem dX12_read_29 : decode cX12_read 29 = .ok (.aload_n 0, 1) := by decide +kernel
theorem dX12_read_30 : decode cX12_read 30 = .ok (.getfield 290, 3) := by decide +kernel
theorem dX12_read_33 : decode cX12_read 33 = .ok (.isub, 1) := by decide +kernel
theorem dX12_read_34 : decode cX12_read 34 = .ok (.putfield 118, 3) := by decide +kernel
theorem dX12_read_37 : decode cX12_read 37 = .ok (.aload_n 0, 1) := by decide +kernel
theorem dX12_read_38 : decode cX12_read 38 = .ok (.getfield 16, 3) := by decide +kernel
theorem dX12_read_41 : decode cX12_read 41 = .ok (.aload_n 0, 1) := by decide +kernel
theorem dX12_read_42 : decode cX12_read 42 = .ok (.getfield 118, 3) := by decide +kernel
theorem dX12_read_45 : decode cX12_read 45 = .ok (.aload_n 0, 1) := by decide +kernel
theorem dX12_read_46 : decode cX12_read 46 = .ok (.getfield 115, 3) := by decide +kernel
theorem dX12_read_49 : decode cX12_read 49 = .ok (.iastore, 1) := by decide +kernel
theorem dX12_read_50 : decode cX12_read 50 = .ok (.iconst 0, 1) := by decide +kernel
theorem dX12_read_51 : decode cX12_read 51 = .ok (.istore_n 2, 1) := by decide +kernel
theorem dX12_read_52 : decode cX12_read 52 = .ok (.iload_n 2, 1) := by decide +kernel
theorem dX12_read_53 : decode cX12_read 53 = .ok (.aload_n 0, 1) := by decide +kernel
theorem dX12_read_54 : decode cX12_read 54 = .ok (.getfield 115, 3) := by decide +kernel
theorem dX12_read_57 : decode cX12_read 57 = .ok (.if_icmp .ge 30, 3) := by decide +kernel
theorem dX12_read_60 : decode cX12_read 60 = .ok (.aload_n 0, 1) := by decide +kernel
theorem dX12_read_61 : decode cX12_read 61 = .ok (.getfield 13, 3) := by decide +kernel
theorem dX12_read_64 : decode cX12_read 64 = .ok (.sipush 1000, 3) := by decide +kernel
theorem dX12_read_67 : decode cX12_read 67 = .ok (.aload_n 0, 1) := by decide +kernel
theorem dX12_read_68 : decode cX12_read 68 = .ok (.getfield 118, 3) := by decide +kernel
theorem dX12_read_71 : decode cX12_read 71 = .ok (.imul, 1) := by decide +kernel
theorem dX12_read_72 : decode cX12_read 72 = .ok (.iload_n 2, 1) := by decide +kernel
theorem dX12_read_73 : decode cX12_read 73 = .ok (.iadd, 1) := by decide +kernel
theorem dX12_read_74 : decode cX12_read 74 = .ok (.aload_n 0, 1) := by decide +kernel
theorem dX12_read_75 : decode cX12_read 75 = .ok (.getfield 7, 3) := by decide +kernel
theorem dX12_read_78 : decode cX12_read 78 = .ok (.iload_n 2, 1) := by decide +kernel
theorem dX12_read_79 : decode cX12_read 79 = .ok (.iaload, 1) := by decide +kernel
theorem dX12_read_80 : decode cX12_read 80 = .ok (.iastore, 1) := by decide +kernel
theorem dX12_read_81 : decode cX12_read 81 = .ok (.iinc 2 1, 3) := by decide +kernel
theorem dX12_read_84 : decode cX12_read 84 = .ok (.goto (-32), 3) := by decide +kernel
theorem dX12_read_87 : decode cX12_read 87 = .ok (.aload_n 0, 1) := by decide +kernel
theorem dX12_read_88 : decode cX12_read 88 = .ok (.iconst 0, 1) := by decide +kernel
theorem dX12_read_89 : decode cX12_read 89 = .ok (.putfield 115, 3) := by decide +kernel
theorem dX12_read_92 : decode cX12_read 92 = .ok (.aload_n 0, 1) := by decide +kernel
theorem dX12_read_93 : decode cX12_read 93 = .ok (.getfield 47, 3) := by decide +kernel
theorem dX12_read_96 : decode cX12_read 96 = .ok (.aload_n 0, 1) := by decide +kernel
theorem dX12_read_97 : decode cX12_read 97 = .ok (.getfield 118, 3) := by decide +kernel
theorem dX12_read_100 : decode cX12_read 100 = .ok (.iconst 0, 1) := by decide +kernel
theorem dX12_read_101 : decode cX12_read 101 = .ok (.iastore, 1) := by decide +kernel
theorem dX12_read_102 : decode cX12_read 102 = .ok (.aload_n 0, 1) := by decide +kernel
theorem dX12_read_103 : decode cX12_read 103 = .ok (.getfield 19, 3) := by decide +kernel
theorem dX12_read_106 : decode cX12_read 106 = .ok (.aload_n 0, 1) := by decide +kernel
theorem dX12_read_107 : decode cX12_read 107 = .ok (.getfield 118, 3) := by decide +kernel
theorem dX12_read_110 : decode cX12_read 110 = .ok (.iconst 0, 1) := by decide +kernel
theorem dX12_read_111 : decode cX12_read 111 = .ok (.iastore, 1) := by decide +kernel
theorem dX12_read_112 : decode cX12_read 112 = .ok (.aload_n 0, 1) := by decide +kernel
theorem dX12_read_113 : decode cX12_read 113 = .ok (.iconst 0, 1) := by decide +kernel
theorem dX12_read_114 : decode cX12_read 114 = .ok (.putfield 172, 3) := by decide +kernel
theorem dX12_read_117 : decode cX12_read 117 = .ok (.aload_n 0, 1) := by decide +kernel
theorem dX12_read_118 : decode cX12_read 118 = .ok (.iconst 0, 1) := by decide +kernel
theorem dX12_read_119 : decode cX12_read 119 = .ok (.putfield 125, 3) := by decide +kernel
theorem dX12_read_122 : decode cX12_read 122 = .ok (.aload_n 0, 1) := by decide +kernel
theorem dX12_read_123 : decode cX12_read 123 = .ok (.iconst (-1), 1) := by decide +kernel
theorem dX12_read_124 : decode cX12_read 124 = .ok (.putfield 104, 3) := by decide +kernel
theorem dX12_read_127 : decode cX12_read 127 = .ok (.aload_n 0, 1) := by decide +kernel
theorem dX12_read_128 : decode cX12_read 128 = .ok (.invokevirtual 169, 3) := by decide +kernel
theorem dX12_read_131 : decode cX12_read 131 = .ok (.aload_n 0, 1) := by decide +kernel
theorem dX12_read_132 : decode cX12_read 132 = .ok (.invokevirtual 121, 3) := by decide +kernel
theorem dX12_read_135 : decode cX12_read 135 = .ok (.ifCond .eq 51, 3) := by decide +kernel
theorem dX12_read_138 : decode cX12_read 138 = .ok (.aload_n 0, 1) := by decide +kernel
theorem dX12_read_139 : decode cX12_read 139 = .ok (.getfield 141, 3) := by decide +kernel
theorem dX12_read_142 : decode cX12_read 142 = .ok (.ifCond .eq 44, 3) := by decide +kernel
theorem dX12_read_145 : decode cX12_read 145 = .ok (.iload_n 1, 1) := by decide +kernel
theorem dX12_read_146 : decode cX12_read 146 = .ok (.ifCond .ne 10, 3) := by decide +kernel
theorem dX12_read_149 : decode cX12_read 149 = .ok (.aload_n 0, 1) := by decide +kernel
theorem dX12_read_150 : decode cX12_read 150 = .ok (.invokevirtual 293, 3) := by decide +kernel
theorem dX12_read_153 : decode cX12_read 153 = .ok (.goto 7, 3) := by decide +kernel
theorem dX12_read_156 : decode cX12_read 156 = .ok (.aload_n 0, 1) := by decide +kernel
theorem dX12_read_157 : decode cX12_read 157 = .ok (.invokevirtual 296, 3) := by decide +kernel
theorem dX12_read_160 : decode cX12_read 160 = .ok (.aload_n 0, 1) := by decide +kernel
theorem dX12_read_161 : decode cX12_read 161 = .ok (.dup, 1) := by decide +kernel
theorem dX12_read_162 : decode cX12_read 162 = .ok (.getfield 172, 3) := by decide +kernel
theorem dX12_read_165 : decode cX12_read 165 = .ok (.iconst 1, 1) := by decide +kernel
theorem dX12_read_166 : decode cX12_read 166 = .ok (.iadd, 1) := by decide +kernel
theorem dX12_read_167 : decode cX12_read 167 = .ok (.putfield 172, 3) := by decide +kernel
theorem dX12_read_170 : decode cX12_read 170 = .ok (.aload_n 0, 1) := by decide +kernel
theorem dX12_read_171 : decode cX12_read 171 = .ok (.getfield 19, 3) := by decide +kernel
theorem dX12_read_174 : decode cX12_read 174 = .ok (.aload_n 0, 1) := by decide +kernel
theorem dX12_read_175 : decode cX12_read 175 = .ok (.getfield 118, 3) := by decide +kernel
theorem dX12_read_178 : decode cX12_read 178 = .ok (.aload_n 0, 1) := by decide +kernel
theorem dX12_read_179 : decode cX12_read 179 = .ok (.getfield 172, 3) := by decide +kernel
theorem dX12_read_182 : decode cX12_read 182 = .ok (.iastore, 1) := by decide +kernel
theorem dX12_read_183 : decode cX12_read 183 = .ok (.goto (-52), 3) := by decide +kernel
theorem dX12_read_186 : decode cX12_read 186 = .ok (.aload_n 0, 1) := by decide +kernel
theorem dX12_read_187 : decode cX12_read 187 = .ok (.invokevirtual 121, 3) := by decide +kernel
theorem dX12_read_190 : decode cX12_read 190 = .ok (.ifCond .eq 7, 3) := by decide +kernel
theorem dX12_read_193 : decode cX12_read 193 = .ok (.aload_n 0, 1) := by decide +kernel
theorem dX12_read_194 : decode cX12_read 194 = .ok (.invokevirtual 299, 3) := by decide +kernel
theorem dX12_read_197 : decode cX12_read 197 = .ok (.aload_n 0, 1) := by decide +kernel
theorem dX12_read_198 : decode cX12_read 198 = .ok (.invokevirtual 121, 3) := by decide +kernel
theorem dX12_read_201 : decode cX12_read 201 = .ok (.ifCond .eq 7, 3) := by decide +kernel
theorem dX12_read_204 : decode cX12_read 204 = .ok (.aload_n 0, 1) := by decide +kernel
theorem dX12_read_205 : decode cX12_read 205 = .ok (.invokevirtual 302, 3) := by decide +kernel
theorem dX12_read_208 : decode cX12_read 208 = .ok (.aload_n 0, 1) := by decide +kernel
theorem dX12_read_209 : decode cX12_read 209 = .ok (.invokevirtual 121, 3) := by decide +kernel
theorem dX12_read_212 : decode cX12_read 212 = .ok (.ifCond .ne 17, 3) := by decide +kernel
theorem dX12_read_215 : decode cX12_read 215 = .ok (.aload_n 0, 1) := by decide +kernel
theorem dX12_read_216 : decode cX12_read 216 = .ok (.getfield 104, 3) := by decide +kernel
theorem dX12_read_219 : decode cX12_read 219 = .ok (.istore_n 2, 1) := by decide +kernel
theorem dX12_read_220 : decode cX12_read 220 = .ok (.aload_n 0, 1) := by decide +kernel
theorem dX12_read_221 : decode cX12_read 221 = .ok (.iconst (-1), 1) := by decide +kernel
theorem dX12_read_222 : decode cX12_read 222 = .ok (.putfield 104, 3) := by decide +kernel
theorem dX12_read_225 : decode cX12_read 225 = .ok (.iconst (-1), 1) := by decide +kernel
theorem dX12_read_226 : decode cX12_read 226 = .ok (.iload_n 2, 1) := by decide +kernel
theorem dX12_read_227 : decode cX12_read 227 = .ok (.isub, 1) := by decide +kernel
theorem dX12_read_228 : decode cX12_read 228 = .ok (.ireturn, 1) := by decide +kernel
theorem dX12_read_229 : decode cX12_read 229 = .ok (.aload_n 0, 1) := by decide +kernel
theorem dX12_read_230 : decode cX12_read 230 = .ok (.invokevirtual 305, 3) := by decide +kernel
theorem dX12_read_233 : decode cX12_read 233 = .ok (.aload_n 0, 1) := by decide +kernel
theorem dX12_read_234 : decode cX12_read 234 = .ok (.aload_n 0, 1) := by decide +kernel
theorem dX12_read_235 : decode cX12_read 235 = .ok (.getfield 118, 3) := by decide +kernel
theorem dX12_read_238 : decode cX12_read 238 = .ok (.putfield 290, 3) := by decide +kernel
theorem dX12_read_241 : decode cX12_read 241 = .ok (.aload_n 0, 1) := by decide +kernel
theorem dX12_read_242 : decode cX12_read 242 = .ok (.getfield 19, 3) := by decide +kernel
theorem dX12_read_245 : decode cX12_read 245 = .ok (.aload_n 0, 1) := by decide +kernel
theorem dX12_read_246 : decode cX12_read 246 = .ok (.getfield 290, 3) := by decide +kernel
theorem dX12_read_249 : decode cX12_read 249 = .ok (.iaload, 1) := by decide +kernel
theorem dX12_read_250 : decode cX12_read 250 = .ok (.ireturn, 1) := by decide +kernel
theorem dX12_isModule_0 : decode cX12_isModule 0 = .ok (.iload_n 1, 1) := by decide +kernel
theorem dX12_isModule_1 : decode cX12_isModule 1 = .ok (.ifCond .lt 20, 3) := by decide +kernel
theorem dX12_isModule_4 : decode cX12_isModule 4 = .ok (.iload_n 1, 1) := by decide +kernel
theorem dX12_isModule_5 : decode cX12_isModule 5 = .ok (.aload_n 0, 1) := by decide +kernel
theorem dX12_isModule_6 : decode cX12_isModule 6 = .ok (.getfield 19, 3) := by decide +kernel
theorem dX12_isModule_9 : decode cX12_isModule 9 = .ok (.aload_n 0, 1) := by decide +kernel
theorem dX12_isModule_10 : decode cX12_isModule 10 = .ok (.getfield 290, 3) := by decide +kernel
theorem dX12_isModule_13 : decode cX12_isModule 13 = .ok (.iaload, 1) := by decide +kernel
theorem dX12_isModule_14 : decode cX12_isModule 14 = .ok (.if_icmp .ge 7, 3) := by decide +kernel
theorem dX12_isModule_17 : decode cX12_isModule 17 = .ok (.iconst 1, 1) := by decide +kernel
theorem dX12_isModule_18 : decode cX12_isModule 18 = .ok (.goto 4, 3) := by decide +kernel
theorem dX12_isModule_21 : decode cX12_isModule 21 = .ok (.iconst 0, 1) := by decide +kernel
theorem dX12_isModule_22 : decode cX12_isModule 22 = .ok (.ireturn, 1) := by decide +kernel
theorem dX12_of_0 : decode cX12_of 0 = .ok (.bipush 8, 2) := by decide +kernel
theorem dX12_of_2 : decode cX12_of 2 = .ok (.aload_n 0, 1) := by decide +kernel
theorem dX12_of_3 : decode cX12_of 3 = .ok (.getfield 290, 3) := by decide +kernel
theorem dX12_of_6 : decode cX12_of 6 = .ok (.imul, 1) := by decide +kernel
theorem dX12_of_7 : decode cX12_of 7 = .ok (.iload_n 1, 1) := by decide +kernel
theorem dX12_of_8 : decode cX12_of 8 = .ok (.iadd, 1) := by decide +kernel
theorem dX12_of_9 : decode cX12_of 9 = .ok (.ireturn, 1) := by decide +kernel
theorem dX12_bitsOf_0 : decode cX12_bitsOf 0 = .ok (.iconst 0, 1) := by decide +kernel
theorem dX12_bitsOf_1 : decode cX12_bitsOf 1 = .ok (.istore_n 2, 1) := by decide +kernel
theorem dX12_bitsOf_2 : decode cX12_bitsOf 2 = .ok (.iconst 0, 1) := by decide +kernel
theorem dX12_bitsOf_3 : decode cX12_bitsOf 3 = .ok (.istore_n 3, 1) := by decide +kernel
theorem dX12_bitsOf_4 : decode cX12_bitsOf 4 = .ok (.iload_n 3, 1) := by decide +kernel
theorem dX12_bitsOf_5 : decode cX12_bitsOf 5 = .ok (.aload_n 0, 1) := by decide +kernel
theorem dX12_bitsOf_6 : decode cX12_bitsOf 6 = .ok (.getfield 28, 3) := by decide +kernel
theorem dX12_bitsOf_9 : decode cX12_bitsOf 9 = .ok (.iload_n 1, 1) := by decide +kernel
theorem dX12_bitsOf_10 : decode cX12_bitsOf 10 = .ok (.iaload, 1) := by decide +kernel
theorem dX12_bitsOf_11 : decode cX12_bitsOf 11 = .ok (.if_icmp .ge 23, 3) := by decide +kernel
theorem dX12_bitsOf_14 : decode cX12_bitsOf 14 = .ok (.iload_n 2, 1) := by decide +kernel
theorem dX12_bitsOf_15 : decode cX12_bitsOf 15 = .ok (.aload_n 0, 1) := by decide +kernel
theorem dX12_bitsOf_16 : decode cX12_bitsOf 16 = .ok (.getfield 37, 3) := by decide +kernel
theorem dX12_bitsOf_19 : decode cX12_bitsOf 19 = .ok (.bipush 16, 2) := by decide +kernel
theorem dX12_bitsOf_21 : decode cX12_bitsOf 21 = .ok (.iload_n 1, 1) := by decide +kernel
theorem dX12_bitsOf_22 : decode cX12_bitsOf 22 = .ok (.imul, 1) := by decide +kernel
theorem dX12_bitsOf_23 : decode cX12_bitsOf 23 = .ok (.iload_n 3, 1) := by decide +kernel
theorem dX12_bitsOf_24 : decode cX12_bitsOf 24 = .ok (.iadd, 1) := by decide +kernel
theorem dX12_bitsOf_25 : decode cX12_bitsOf 25 = .ok (.iaload, 1) := by decide +kernel
theorem dX12_bitsOf_26 : decode cX12_bitsOf 26 = .ok (.iadd, 1) := by decide +kernel
theorem dX12_bitsOf_27 : decode cX12_bitsOf 27 = .ok (.istore_n 2, 1) := by decide +kernel
theorem dX12_bitsOf_28 : decode cX12_bitsOf 28 = .ok (.iinc 3 1, 3) := by decide +kernel
theorem dX12_bitsOf_31 : decode cX12_bitsOf 31 = .ok (.goto (-27), 3) := by decide +kernel
theorem dX12_bitsOf_34 : decode cX12_bitsOf 34 = .ok (.iload_n 2, 1) := by decide +kernel
theorem dX12_bitsOf_35 : decode cX12_bitsOf 35 = .ok (.ireturn, 1) := by decide +kernel
theorem dX12_module_0 : decode cX12_module 0 = .ok (.aload_n 0, 1) := by decide +kernel
theorem dX12_module_1 : decode cX12_module 1 = .ok (.aload_n 0, 1) := by decide +kernel
theorem dX12_module_2 : decode cX12_module 2 = .ok (.iload_n 1, 1) := by decide +kernel
theorem dX12_module_3 : decode cX12_module 3 = .ok (.invokevirtual 308, 3) := by decide +kernel
theorem dX12_module_6 : decode cX12_module 6 = .ok (.ifCond .eq 16, 3) := by decide +kernel
theorem dX12_module_9 : decode cX12_module 9 = .ok (.iload_n 2, 1) := by decide +kernel
theorem dX12_module_10 : decode cX12_module 10 = .ok (.ifCond .lt 12, 3) := by decide +kernel
theorem dX12_module_13 : decode cX12_module 13 = .ok (.iload_n 2, 1) := by decide +kernel
theorem dX12_module_14 : decode cX12_module 14 = .ok (.iconst 5, 1) := by decide +kernel
theorem dX12_module_15 : decode cX12_module 15 = .ok (.if_icmp .gt 7, 3) := by decide +kernel
theorem dX12_module_18 : decode cX12_module 18 = .ok (.iconst 0, 1) := by decide +kernel
theorem dX12_module_19 : decode cX12_module 19 = .ok (.goto 4, 3) := by decide +kernel
theorem dX12_module_22 : decode cX12_module 22 = .ok (.iconst 1, 1) := by decide +kernel
theorem dX12_module_23 : decode cX12_module 23 = .ok (.putfield 108, 3) := by decide +kernel
theorem dX12_module_26 : decode cX12_module 26 = .ok (.aload_n 0, 1) := by decide +kernel
theorem dX12_module_27 : decode cX12_module 27 = .ok (.getfield 108, 3) := by decide +kernel
theorem dX12_module_30 : decode cX12_module 30 = .ok (.ifCond .le 5, 3) := by decide +kernel
theorem dX12_module_33 : decode cX12_module 33 = .ok (.iconst 0, 1) := by decide +kernel
theorem dX12_module_34 : decode cX12_module 34 = .ok (.ireturn, 1) := by decide +kernel
theorem dX12_module_35 : decode cX12_module 35 = .ok (.aload_n 0, 1) := by decide +kernel
theorem dX12_module_36 : decode cX12_module 36 = .ok (.iload_n 1, 1) := by decide +kernel
theorem dX12_module_37 : decode cX12_module 37 = .ok (.invokevirtual 311, 3) := by decide +kernel
theorem dX12_module_40 : decode cX12_module 40 = .ok (.istore_n 3, 1) := by decide +kernel
theorem dX12_module_41 : decode cX12_module 41 = .ok (.iload_n 2, 1) := by decide +kernel
theorem dX12_module_42 : decode cX12_module 42 = .ok (.tableswitch 68 0 4 #[34, 41, 48, 54, 61], 34) := by decide +kernel
theorem dX12_module_76 : decode cX12_module 76 = .ok (.aload_n 0, 1) := by decide +kernel
theorem dX12_module_77 : decode cX12_module 77 = .ok (.getfield 25, 3) := by decide +kernel
theorem dX12_module_80 : decode cX12_module 80 = .ok (.iload_n 3, 1) := by decide +kernel
theorem dX12_module_81 : decode cX12_module 81 = .ok (.iaload, 1) := by decide +kernel
theorem dX12_module_82 : decode cX12_module 82 = .ok (.ireturn, 1) := by decide +kernel
theorem dX12_module_83 : decode cX12_module 83 = .ok (.aload_n 0, 1) := by decide +kernel
theorem dX12_module_84 : decode cX12_module 84 = .ok (.getfield 28, 3) := by decide +kernel
theorem dX12_module_87 : decode cX12_module 87 = .ok (.iload_n 3, 1) := by decide +kernel
theorem dX12_module_88 : decode cX12_module 88 = .ok (.iaload, 1) := by decide +kernel
theorem dX12_module_89 : decode cX12_module 89 = .ok (.ireturn, 1) := by decide +kernel
theorem dX12_module_90 : decode cX12_module 90 = .ok (.aload_n 0, 1) := by decide +kernel
theorem dX12_module_91 : decode cX12_module 91 = .ok (.iload_n 3, 1) := by decide +kernel
theorem dX12_module_92 : decode cX12_module 92 = .ok (.invokevirtual 314, 3) := by decide +kernel
theorem dX12_module_95 : decode cX12_module 95 = .ok (.ireturn, 1) := by decide +kernel
theorem dX12_module_96 : decode cX12_module 96 = .ok (.aload_n 0, 1) := by decide +kernel
theorem dX12_module_97 : decode cX12_module 97 = .ok (.getfield 65, 3) := by decide +kernel
theorem dX12_module_100 : decode cX12_module 100 = .ok (.iload_n 3, 1) := by decide +kernel
theorem dX12_module_101 : decode cX12_module 101 = .ok (.iaload, 1) := by decide +kernel
theorem dX12_module_102 : decode cX12_module 102 = .ok (.ireturn, 1) := by decide +kernel
theorem dX12_module_103 : decode cX12_module 103 = .ok (.aload_n 0, 1) := by decide +kernel
theorem dX12_module_104 : decode cX12_module 104 = .ok (.getfield 74, 3) := by decide +kernel
theorem dX12_module_107 : decode cX12_module 107 = .ok (.iload_n 3, 1) := by decide +kernel
theorem dX12_module_108 : decode cX12_module 108 = .ok (.iaload, 1) := by decide +kernel
theorem dX12_module_109 : decode cX12_module 109 = .ok (.ireturn, 1) := by decide +kernel
theorem dX12_module_110 : decode cX12_module 110 = .ok (.aload_n 0, 1) := by decide +kernel
theorem dX12_module_111 : decode cX12_module 111 = .ok (.getfield 101, 3) := by decide +kernel
theorem dX12_module_114 : decode cX12_module 114 = .ok (.iload_n 3, 1) := by decide +kernel
theorem dX12_module_115 : decode cX12_module 115 = .ok (.iaload, 1) := by decide +kernel
theorem dX12_module_116 : decode cX12_module 116 = .ok (.ireturn, 1) := by decide +kernel
theorem dX12_net_0 : decode cX12_net 0 = .ok (.aload_n 0, 1) := by decide +kernel
theorem dX12_net_1 : decode cX12_net 1 = .ok (.iload_n 1, 1) := by decide +kernel
theorem dX12_net_2 : decode cX12_net 2 = .ok (.invokevirtual 308, 3) := by decide +kernel
theorem dX12_net_5 : decode cX12_net 5 = .ok (.ifCond .eq 37, 3) := by decide +kernel
theorem dX12_net_8 : decode cX12_net 8 = .ok (.iload_n 2, 1) := by decide +kernel
theorem dX12_net_9 : decode cX12_net 9 = .ok (.ifCond .lt 33, 3) := by decide +kernel
theorem dX12_net_12 : decode cX12_net 12 = .ok (.iload_n 2, 1) := by decide +kernel
theorem dX12_net_13 : decode cX12_net 13 = .ok (.aload_n 0, 1) := by decide +kernel
theorem dX12_net_14 : decode cX12_net 14 = .ok (.getfield 28, 3) := by decide +kernel
theorem dX12_net_17 : decode cX12_net 17 = .ok (.aload_n 0, 1) := by decide +kernel
theorem dX12_net_18 : decode cX12_net 18 = .ok (.aload_n 0, 1) := by decide +kernel
theorem dX12_net_19 : decode cX12_net 19 = .ok (.iload_n 1, 1) := by decide +kernel
theorem dX12_net_20 : decode cX12_net 20 = .ok (.invokevirtual 308, 3) := by decide +kernel
theorem dX12_net_23 : decode cX12_net 23 = .ok (.ifCond .eq 7, 3) := by decide +kernel
theorem dX12_net_26 : decode cX12_net 26 = .ok (.iload_n 1, 1) := by decide +kernel
theorem dX12_net_27 : decode cX12_net 27 = .ok (.goto 4, 3) := by decide +kernel
theorem dX12_net_30 : decode cX12_net 30 = .ok (.iconst 0, 1) := by decide +kernel
theorem dX12_net_31 : decode cX12_net 31 = .ok (.invokevirtual 311, 3) := by decide +kernel
theorem dX12_net_34 : decode cX12_net 34 = .ok (.iaload, 1) := by decide +kernel
theorem dX12_net_35 : decode cX12_net 35 = .ok (.if_icmp .ge 7, 3) := by decide +kernel
theorem dX12_net_38 : decode cX12_net 38 = .ok (.iconst 1, 1) := by decide +kernel
theorem dX12_net_39 : decode cX12_net 39 = .ok (.goto 4, 3) := by decide +kernel
theorem dX12_net_42 : decode cX12_net 42 = .ok (.iconst 0, 1) := by decide +kernel
theorem dX12_net_43 : decode cX12_net 43 = .ok (.istore 4, 2) := by decide +kernel
theorem dX12_net_45 : decode cX12_net 45 = .ok (.aload_n 0, 1) := by decide +kernel
theorem dX12_net_46 : decode cX12_net 46 = .ok (.iload 4, 2) := by decide +kernel
theorem dX12_net_48 : decode cX12_net 48 = .ok (.ifCond .eq 16, 3) := by decide +kernel
theorem dX12_net_51 : decode cX12_net 51 = .ok (.iload_n 3, 1) := by decide +kernel
theorem dX12_net_52 : decode cX12_net 52 = .ok (.ifCond .lt 12, 3) := by decide +kernel
theorem dX12_net_55 : decode cX12_net 55 = .ok (.iload_n 3, 1) := by decide +kernel
theorem dX12_net_56 : decode cX12_net 56 = .ok (.iconst 2, 1) := by decide +kernel
theorem dX12_net_57 : decode cX12_net 57 = .ok (.if_icmp .gt 7, 3) := by decide +kernel
theorem dX12_net_60 : decode cX12_net 60 = .ok (.iconst 0, 1) := by decide +kernel
theorem dX12_net_61 : decode cX12_net 61 = .ok (.goto 4, 3) := by decide +kernel
theorem dX12_net_64 : decode cX12_net 64 = .ok (.iconst 1, 1) := by decide +kernel
theorem dX12_net_65 : decode cX12_net 65 = .ok (.putfield 108, 3) := by decide +kernel
theorem dX12_net_68 : decode cX12_net 68 = .ok (.aload_n 0, 1) := by decide +kernel
theorem dX12_net_69 : decode cX12_net 69 = .ok (.getfield 108, 3) := by decide +kernel
theorem dX12_net_72 : decode cX12_net 72 = .ok (.ifCond .le 5, 3) := by decide +kernel
theorem dX12_net_75 : decode cX12_net 75 = .ok (.iconst 0, 1) := by decide +kernel
theorem dX12_net_76 : decode cX12_net 76 = .ok (.ireturn, 1) := by decide +kernel
theorem dX12_net_77 : decode cX12_net 77 = .ok (.bipush 16, 2) := by decide +kernel
theorem dX12_net_79 : decode cX12_net 79 = .ok (.aload_n 0, 1) := by decide +kernel
theorem dX12_net_80 : decode cX12_net 80 = .ok (.iload_n 1, 1) := by decide +kernel
theorem dX12_net_81 : decode cX12_net 81 = .ok (.invokevirtual 311, 3) := by decide +kernel
theorem dX12_net_84 : decode cX12_net 84 = .ok (.imul, 1) := by decide +kernel
theorem dX12_net_85 : decode cX12_net 85 = .ok (.iload_n 2, 1) := by decide +kernel
theorem dX12_net_86 : decode cX12_net 86 = .ok (.iadd, 1) := by decide +kernel
theorem dX12_net_87 : decode cX12_net 87 = .ok (.istore 5, 2) := by decide +kernel
theorem dX12_net_89 : decode cX12_net 89 = .ok (.iload_n 3, 1) := by decide +kernel
theorem dX12_net_90 : decode cX12_net 90 = .ok (.ifCond .ne 13, 3) := by decide +kernel
theorem dX12_net_93 : decode cX12_net 93 = .ok (.aload_n 0, 1) := by decide +kernel
theorem dX12_net_94 : decode cX12_net 94 = .ok (.getfield 34, 3) := by decide +kernel
theorem dX12_net_97 : decode cX12_net 97 = .ok (.iload 5, 2) := by decide +kernel
theorem dX12_net_99 : decode cX12_net 99 = .ok (.iaload, 1) := by decide +kernel
theorem dX12_net_100 : decode cX12_net 100 = .ok (.goto 25, 3) := by decide +kernel
theorem dX12_net_103 : decode cX12_net 103 = .ok (.iload_n 3, 1) := by decide +kernel
theorem dX12_net_104 : decode cX12_net 104 = .ok (.iconst 1, 1) := by decide +kernel
theorem dX12_net_105 : decode cX12_net 105 = .ok (.if_icmp .ne 13, 3) := by decide +kernel
theorem dX12_net_108 : decode cX12_net 108 = .ok (.aload_n 0, 1) := by decide +kernel
theorem dX12_net_109 : decode cX12_net 109 = .ok (.getfield 37, 3) := by decide +kernel
theorem dX12_net_112 : decode cX12_net 112 = .ok (.iload 5, 2) := by decide +kernel
theorem dX12_net_114 : decode cX12_net 114 = .ok (.iaload, 1) := by decide +kernel
theorem dX12_net_115 : decode cX12_net 115 = .ok (.goto 10, 3) := by decide +kernel
theorem dX12_net_118 : decode cX12_net 118 = .ok (.aload_n 0, 1) := by decide +kernel
theorem dX12_net_119 : decode cX12_net 119 = .ok (.getfield 40, 3) := by decide +kernel
theorem dX12_net_122 : decode cX12_net 122 = .ok (.iload 5, 2) := by decide +kernel
theorem dX12_net_124 : decode cX12_net 124 = .ok (.iaload, 1) := by decide +kernel
theorem dX12_net_125 : decode cX12_net 125 = .ok (.ireturn, 1) := by decide +kernel
theorem dX12_isInstance_0 : decode cX12_isInstance 0 = .ok (.aload_n 0, 1) := by decide +kernel
theorem dX12_isInstance_1 : decode cX12_isInstance 1 = .ok (.iload_n 1, 1) := by decide +kernel
theorem dX12_isInstance_2 : decode cX12_isInstance 2 = .ok (.invokevirtual 308, 3) := by decide +kernel
theorem dX12_isInstance_5 : decode cX12_isInstance 5 = .ok (.ifCond .eq 25, 3) := by decide +kernel
theorem dX12_isInstance_8 : decode cX12_isInstance 8 = .ok (.iload_n 2, 1) := by decide +kernel
theorem dX12_isInstance_9 : decode cX12_isInstance 9 = .ok (.ifCond .lt 21, 3) := by decide +kernel
theorem dX12_isInstance_12 : decode cX12_isInstance 12 = .ok (.iload_n 2, 1) := by decide +kernel
theorem dX12_isInstance_13 : decode cX12_isInstance 13 = .ok (.aload_n 0, 1) := by decide +kernel
theorem dX12_isInstance_14 : decode cX12_isInstance 14 = .ok (.getfield 74, 3) := by decide +kernel
theorem dX12_isInstance_17 : decode cX12_isInstance 17 = .ok (.aload_n 0, 1) := by decide +kernel
theorem dX12_isInstance_18 : decode cX12_isInstance 18 = .ok (.iload_n 1, 1) := by decide +kernel
theorem dX12_isInstance_19 : decode cX12_isInstance 19 = .ok (.invokevirtual 311, 3) := by decide +kernel
theorem dX12_isInstance_22 : decode cX12_isInstance 22 = .ok (.iaload, 1) := by decide +kernel
theorem dX12_isInstance_23 : decode cX12_isInstance 23 = .ok (.if_icmp .ge 7, 3) := by decide +kernel
theorem dX12_isInstance_26 : decode cX12_isInstance 26 = .ok (.iconst 1, 1) := by decide +kernel
theorem dX12_isInstance_27 : decode cX12_isInstance 27 = .ok (.goto 4, 3) := by decide +kernel
theorem dX12_isInstance_30 : decode cX12_isInstance 30 = .ok (.iconst 0, 1) := by decide +kernel
theorem dX12_isInstance_31 : decode cX12_isInstance 31 = .ok (.ireturn, 1) := by decide +kernel
theorem dX12_pins_0 : decode cX12_pins 0 = .ok (.aload_n 0, 1) := by decide +kernel
theorem dX12_pins_1 : decode cX12_pins 1 = .ok (.getfield 86, 3) := by decide +kernel
theorem dX12_pins_4 : decode cX12_pins 4 = .ok (.iload_n 1, 1) := by decide +kernel
theorem dX12_pins_5 : decode cX12_pins 5 = .ok (.iaload, 1) := by decide +kernel
theorem dX12_pins_6 : decode cX12_pins 6 = .ok (.iconst (-1), 1) := by decide +kernel
theorem dX12_pins_7 : decode cX12_pins 7 = .ok (.if_icmp .ne 12, 3) := by decide +kernel
theorem dX12_pins_10 : decode cX12_pins 10 = .ok (.aload_n 0, 1) := by decide +kernel
theorem dX12_pins_11 : decode cX12_pins 11 = .ok (.getfield 89, 3) := by decide +kernel
theorem dX12_pins_14 : decode cX12_pins 14 = .ok (.iload_n 1, 1) := by decide +kernel
theorem dX12_pins_15 : decode cX12_pins 15 = .ok (.iaload, 1) := by decide +kernel
theorem dX12_pins_16 : decode cX12_pins 16 = .ok (.goto 18, 3) := by decide +kernel
theorem dX12_pins_19 : decode cX12_pins 19 = .ok (.aload_n 0, 1) := by decide +kernel
theorem dX12_pins_20 : decode cX12_pins 20 = .ok (.getfield 25, 3) := by decide +kernel
theorem dX12_pins_23 : decode cX12_pins 23 = .ok (.aload_n 0, 1) := by decide +kernel
theorem dX12_pins_24 : decode cX12_pins 24 = .ok (.aload_n 0, 1) := by decide +kernel
theorem dX12_pins_25 : decode cX12_pins 25 = .ok (.getfield 86, 3) := by decide +kernel
theorem dX12_pins_28 : decode cX12_pins 28 = .ok (.iload_n 1, 1) := by decide +kernel
theorem dX12_pins_29 : decode cX12_pins 29 = .ok (.iaload, 1) := by decide +kernel
theorem dX12_pins_30 : decode cX12_pins 30 = .ok (.invokevirtual 311, 3) := by decide +kernel
theorem dX12_pins_33 : decode cX12_pins 33 = .ok (.iaload, 1) := by decide +kernel
theorem dX12_pins_34 : decode cX12_pins 34 = .ok (.ireturn, 1) := by decide +kernel
theorem dX12_instance_0 : decode cX12_instance 0 = .ok (.aload_n 0, 1) := by decide +kernel
theorem dX12_instance_1 : decode cX12_instance 1 = .ok (.aload_n 0, 1) := by decide +kernel
theorem dX12_instance_2 : decode cX12_instance 2 = .ok (.iload_n 1, 1) := by decide +kernel
theorem dX12_instance_3 : decode cX12_instance 3 = .ok (.iload_n 2, 1) := by decide +kernel
theorem dX12_instance_4 : decode cX12_instance 4 = .ok (.invokevirtual 317, 3) := by decide +kernel
theorem dX12_instance_7 : decode cX12_instance 7 = .ok (.ifCond .eq 16, 3) := by decide +kernel
theorem dX12_instance_10 : decode cX12_instance 10 = .ok (.iload_n 3, 1) := by decide +kernel
theorem dX12_instance_11 : decode cX12_instance 11 = .ok (.ifCond .lt 12, 3) := by decide +kernel
theorem dX12_instance_14 : decode cX12_instance 14 = .ok (.iload_n 3, 1) := by decide +kernel
theorem dX12_instance_15 : decode cX12_instance 15 = .ok (.iconst 3, 1) := by decide +kernel
theorem dX12_instance_16 : decode cX12_instance 16 = .ok (.if_icmp .gt 7, 3) := by decide +kernel
theorem dX12_instance_19 : decode cX12_instance 19 = .ok (.iconst 0, 1) := by decide +kernel
theorem dX12_instance_20 : decode cX12_instance 20 = .ok (.goto 4, 3) := by decide +kernel
theorem dX12_instance_23 : decode cX12_instance 23 = .ok (.iconst 1, 1) := by decide +kernel
theorem dX12_instance_24 : decode cX12_instance 24 = .ok (.putfield 108, 3) := by decide +kernel
theorem dX12_instance_27 : decode cX12_instance 27 = .ok (.aload_n 0, 1) := by decide +kernel
theorem dX12_instance_28 : decode cX12_instance 28 = .ok (.getfield 108, 3) := by decide +kernel
theorem dX12_instance_31 : decode cX12_instance 31 = .ok (.ifCond .le 5, 3) := by decide +kernel
theorem dX12_instance_34 : decode cX12_instance 34 = .ok (.iconst 0, 1) := by decide +kernel
theorem dX12_instance_35 : decode cX12_instance 35 = .ok (.ireturn, 1) := by decide +kernel
theorem dX12_instance_36 : decode cX12_instance 36 = .ok (.bipush 12, 2) := by decide +kernel
theorem dX12_instance_38 : decode cX12_instance 38 = .ok (.aload_n 0, 1) := by decide +kernel
theorem dX12_instance_39 : decode cX12_instance 39 = .ok (.iload_n 1, 1) := by decide +kernel
theorem dX12_instance_40 : decode cX12_instance 40 = .ok (.invokevirtual 311, 3) := by decide +kernel
theorem dX12_instance_43 : decode cX12_instance 43 = .ok (.imul, 1) := by decide +kernel
theorem dX12_instance_44 : decode cX12_instance 44 = .ok (.iload_n 2, 1) := by decide +kernel
theorem dX12_instance_45 : decode cX12_instance 45 = .ok (.iadd, 1) := by decide +kernel
theorem dX12_instance_46 : decode cX12_instance 46 = .ok (.istore 4, 2) := by decide +kernel
theorem dX12_instance_48 : decode cX12_instance 48 = .ok (.iload_n 3, 1) := by decide +kernel
theorem dX12_instance_49 : decode cX12_instance 49 = .ok (.ifCond .ne 13, 3) := by decide +kernel
theorem dX12_instance_52 : decode cX12_instance 52 = .ok (.aload_n 0, 1) := by decide +kernel
theorem dX12_instance_53 : decode cX12_instance 53 = .ok (.getfield 86, 3) := by decide +kernel
theorem dX12_instance_56 : decode cX12_instance 56 = .ok (.iload 4, 2) := by decide +kernel
theorem dX12_instance_58 : decode cX12_instance 58 = .ok (.iaload, 1) := by decide +kernel
theorem dX12_instance_59 : decode cX12_instance 59 = .ok (.goto 47, 3) := by decide +kernel
theorem dX12_instance_62 : decode cX12_instance 62 = .ok (.iload_n 3, 1) := by decide +kernel
theorem dX12_instance_63 : decode cX12_instance 63 = .ok (.iconst 1, 1) := by decide +kernel
theorem dX12_instance_64 : decode cX12_instance 64 = .ok (.if_icmp .ne 12, 3) := by decide +kernel
theorem dX12_instance_67 : decode cX12_instance 67 = .ok (.aload_n 0, 1) := by decide +kernel
theorem dX12_instance_68 : decode cX12_instance 68 = .ok (.iload 4, 2) := by decide +kernel
theorem dX12_instance_70 : decode cX12_instance 70 = .ok (.invokevirtual 320, 3) := by decide +kernel
theorem dX12_instance_73 : decode cX12_instance 73 = .ok (.goto 33, 3) := by decide +kernel
theorem dX12_instance_76 : decode cX12_instance 76 = .ok (.iload_n 3, 1) := by decide +kernel
theorem dX12_instance_77 : decode cX12_instance 77 = .ok (.iconst 2, 1) := by decide +kernel
theorem dX12_instance_78 : decode cX12_instance 78 = .ok (.if_icmp .ne 13, 3) := by decide +kernel
theorem dX12_instance_81 : decode cX12_instance 81 = .ok (.aload_n 0, 1) := by decide +kernel
theorem dX12_instance_82 : decode cX12_instance 82 = .ok (.getfield 80, 3) := by decide +kernel
theorem dX12_instance_85 : decode cX12_instance 85 = .ok (.iload 4, 2) := by decide +kernel
theorem dX12_instance_87 : decode cX12_instance 87 = .ok (.iaload, 1) := by decide +kernel
theorem dX12_instance_88 : decode cX12_instance 88 = .ok (.goto 18, 3) := by decide +kernel
theorem dX12_instance_91 : decode cX12_instance 91 = .ok (.aload_n 0, 1) := by decide +kernel
theorem dX12_instance_92 : decode cX12_instance 92 = .ok (.getfield 83, 3) := by decide +kernel
theorem dX12_instance_95 : decode cX12_instance 95 = .ok (.iload 4, 2) := by decide +kernel
theorem dX12_instance_97 : decode cX12_instance 97 = .ok (.baload, 1) := by decide +kernel
theorem dX12_instance_98 : decode cX12_instance 98 = .ok (.ifCond .eq 7, 3) := by decide +kernel
theorem dX12_instance_101 : decode cX12_instance 101 = .ok (.iconst 1, 1) := by decide +kernel
theorem dX12_instance_102 : decode cX12_instance 102 = .ok (.goto 4, 3) := by decide +kernel
theorem dX12_instance_105 : decode cX12_instance 105 = .ok (.iconst 0, 1) := by decide +kernel
theorem dX12_instance_106 : decode cX12_instance 106 = .ok (.ireturn, 1) := by decide +kernel
theorem dX12_linkOf_0 : decode cX12_linkOf 0 = .ok (.aload_n 0, 1) := by decide +kernel
theorem dX12_linkOf_1 : decode cX12_linkOf 1 = .ok (.getfield 86, 3) := by decide +kernel
theorem dX12_linkOf_4 : decode cX12_linkOf 4 = .ok (.iload_n 1, 1) := by decide +kernel
theorem dX12_linkOf_5 : decode cX12_linkOf 5 = .ok (.iaload, 1) := by decide +kernel
theorem dX12_linkOf_6 : decode cX12_linkOf 6 = .ok (.iconst (-1), 1) := by decide +kernel
theorem dX12_linkOf_7 : decode cX12_linkOf 7 = .ok (.if_icmp .eq 12, 3) := by decide +kernel
theorem dX12_linkOf_10 : decode cX12_linkOf 10 = .ok (.aload_n 0, 1) := by decide +kernel
theorem dX12_linkOf_11 : decode cX12_linkOf 11 = .ok (.getfield 83, 3) := by decide +kernel
theorem dX12_linkOf_14 : decode cX12_linkOf 14 = .ok (.iload_n 1, 1) := by decide +kernel
theorem dX12_linkOf_15 : decode cX12_linkOf 15 = .ok (.baload, 1) := by decide +kernel
theorem dX12_linkOf_16 : decode cX12_linkOf 16 = .ok (.ifCond .ne 15, 3) := by decide +kernel
theorem dX12_linkOf_19 : decode cX12_linkOf 19 = .ok (.aload_n 0, 1) := by decide +kernel
theorem dX12_linkOf_20 : decode cX12_linkOf 20 = .ok (.getfield 92, 3) := by decide +kernel
theorem dX12_linkOf_23 : decode cX12_linkOf 23 = .ok (.bipush 16, 2) := by decide +kernel
theorem dX12_linkOf_25 : decode cX12_linkOf 25 = .ok (.iload_n 1, 1) := by decide +kernel
theorem dX12_linkOf_26 : decode cX12_linkOf 26 = .ok (.imul, 1) := by decide +kernel
theorem dX12_linkOf_27 : decode cX12_linkOf 27 = .ok (.iload_n 2, 1) := by decide +kernel
theorem dX12_linkOf_28 : decode cX12_linkOf 28 = .ok (.iadd, 1) := by decide +kernel
theorem dX12_linkOf_29 : decode cX12_linkOf 29 = .ok (.iaload, 1) := by decide +kernel
theorem dX12_linkOf_30 : decode cX12_linkOf 30 = .ok (.ireturn, 1) := by decide +kernel
theorem dX12_linkOf_31 : decode cX12_linkOf 31 = .ok (.iconst (-1), 1) := by decide +kernel
theorem dX12_linkOf_32 : decode cX12_linkOf 32 = .ok (.istore_n 3, 1) := by decide +kernel
theorem dX12_linkOf_33 : decode cX12_linkOf 33 = .ok (.aload_n 0, 1) := by decide +kernel
theorem dX12_linkOf_34 : decode cX12_linkOf 34 = .ok (.getfield 31, 3) := by decide +kernel
theorem dX12_linkOf_37 : decode cX12_linkOf 37 = .ok (.bipush 16, 2) := by decide +kernel
theorem dX12_linkOf_39 : decode cX12_linkOf 39 = .ok (.aload_n 0, 1) := by decide +kernel
theorem dX12_linkOf_40 : decode cX12_linkOf 40 = .ok (.aload_n 0, 1) := by decide +kernel
theorem dX12_linkOf_41 : decode cX12_linkOf 41 = .ok (.getfield 86, 3) := by decide +kernel
theorem dX12_linkOf_44 : decode cX12_linkOf 44 = .ok (.iload_n 1, 1) := by decide +kernel
theorem dX12_linkOf_45 : decode cX12_linkOf 45 = .ok (.iaload, 1) := by decide +kernel
theorem dX12_linkOf_46 : decode cX12_linkOf 46 = .ok (.invokevirtual 311, 3) := by decide +kernel
theorem dX12_linkOf_49 : decode cX12_linkOf 49 = .ok (.imul, 1) := by decide +kernel
theorem dX12_linkOf_50 : decode cX12_linkOf 50 = .ok (.iload_n 2, 1) := by decide +kernel
theorem dX12_linkOf_51 : decode cX12_linkOf 51 = .ok (.iadd, 1) := by decide +kernel
theorem dX12_linkOf_52 : decode cX12_linkOf 52 = .ok (.iaload, 1) := by decide +kernel
theorem dX12_linkOf_53 : decode cX12_linkOf 53 = .ok (.istore 4, 2) := by decide +kernel
theorem dX12_linkOf_55 : decode cX12_linkOf 55 = .ok (.aload_n 0, 1) := by decide +kernel
theorem dX12_linkOf_56 : decode cX12_linkOf 56 = .ok (.getfield 118, 3) := by decide +kernel
theorem dX12_linkOf_59 : decode cX12_linkOf 59 = .ok (.istore 5, 2) := by decide +kernel
theorem dX12_linkOf_61 : decode cX12_linkOf 61 = .ok (.aload_n 0, 1) := by decide +kernel
theorem dX12_linkOf_62 : decode cX12_linkOf 62 = .ok (.aload_n 0, 1) := by decide +kernel
theorem dX12_linkOf_63 : decode cX12_linkOf 63 = .ok (.getfield 290, 3) := by decide +kernel
theorem dX12_linkOf_66 : decode cX12_linkOf 66 = .ok (.putfield 118, 3) := by decide +kernel
theorem dX12_linkOf_69 : decode cX12_linkOf 69 = .ok (.iconst 0, 1) := by decide +kernel
theorem dX12_linkOf_70 : decode cX12_linkOf 70 = .ok (.istore 6, 2) := by decide +kernel
theorem dX12_linkOf_72 : decode cX12_linkOf 72 = .ok (.iload 6, 2) := by decide +kernel
theorem dX12_linkOf_74 : decode cX12_linkOf 74 = .ok (.aload_n 0, 1) := by decide +kernel
theorem dX12_linkOf_75 : decode cX12_linkOf 75 = .ok (.getfield 89, 3) := by decide +kernel
theorem dX12_linkOf_78 : decode cX12_linkOf 78 = .ok (.iload_n 1, 1) := by decide +kernel
theorem dX12_linkOf_79 : decode cX12_linkOf 79 = .ok (.iaload, 1) := by decide +kernel
theorem dX12_linkOf_80 : decode cX12_linkOf 80 = .ok (.if_icmp .ge 47, 3) := by decide +kernel
theorem dX12_linkOf_83 : decode cX12_linkOf 83 = .ok (.aload_n 0, 1) := by decide +kernel
theorem dX12_linkOf_84 : decode cX12_linkOf 84 = .ok (.aload_n 0, 1) := by decide +kernel
theorem dX12_linkOf_85 : decode cX12_linkOf 85 = .ok (.getfield 95, 3) := by decide +kernel
theorem dX12_linkOf_88 : decode cX12_linkOf 88 = .ok (.bipush 16, 2) := by decide +kernel
theorem dX12_linkOf_90 : decode cX12_linkOf 90 = .ok (.iload_n 1, 1) := by decide +kernel
theorem dX12_linkOf_91 : decode cX12_linkOf 91 = .ok (.imul, 1) := by decide +kernel
theorem dX12_linkOf_92 : decode cX12_linkOf 92 = .ok (.iload 6, 2) := by decide +kernel
theorem dX12_linkOf_94 : decode cX12_linkOf 94 = .ok (.iadd, 1) := by decide +kernel
theorem dX12_linkOf_95 : decode cX12_linkOf 95 = .ok (.iaload, 1) := by decide +kernel
theorem dX12_linkOf_96 : decode cX12_linkOf 96 = .ok (.iload 4, 2) := by decide +kernel
theorem dX12_linkOf_98 : decode cX12_linkOf 98 = .ok (.invokevirtual 181, 3) := by decide +kernel
theorem dX12_linkOf_101 : decode cX12_linkOf 101 = .ok (.ifCond .eq 18, 3) := by decide +kernel
theorem dX12_linkOf_104 : decode cX12_linkOf 104 = .ok (.aload_n 0, 1) := by decide +kernel
theorem dX12_linkOf_105 : decode cX12_linkOf 105 = .ok (.getfield 92, 3) := by decide +kernel
theorem dX12_linkOf_108 : decode cX12_linkOf 108 = .ok (.bipush 16, 2) := by decide +kernel
theorem dX12_linkOf_110 : decode cX12_linkOf 110 = .ok (.iload_n 1, 1) := by decide +kernel
theorem dX12_linkOf_111 : decode cX12_linkOf 111 = .ok (.imul, 1) := by decide +kernel
theorem dX12_linkOf_112 : decode cX12_linkOf 112 = .ok (.iload 6, 2) := by decide +kernel
theorem dX12_linkOf_114 : decode cX12_linkOf 114 = .ok (.iadd, 1) := by decide +kernel
theorem dX12_linkOf_115 : decode cX12_linkOf 115 = .ok (.iaload, 1) := by decide +kernel
theorem dX12_linkOf_116 : decode cX12_linkOf 116 = .ok (.goto 4, 3) := by decide +kernel
theorem dX12_linkOf_119 : decode cX12_linkOf 119 = .ok (.iload_n 3, 1) := by decide +kernel
theorem dX12_linkOf_120 : decode cX12_linkOf 120 = .ok (.istore_n 3, 1) := by decide +kernel
theorem dX12_linkOf_121 : decode cX12_linkOf 121 = .ok (.iinc 6 1, 3) := by decide +kernel
theorem dX12_linkOf_124 : decode cX12_linkOf 124 = .ok (.goto (-52), 3) := by decide +kernel
theorem dX12_linkOf_127 : decode cX12_linkOf 127 = .ok (.aload_n 0, 1) := by decide +kernel
theorem dX12_linkOf_128 : decode cX12_linkOf 128 = .ok (.iload 5, 2) := by decide +kernel
theorem dX12_linkOf_130 : decode cX12_linkOf 130 = .ok (.putfield 118, 3) := by decide +kernel
theorem dX12_linkOf_133 : decode cX12_linkOf 133 = .ok (.iload_n 3, 1) := by decide +kernel
theorem dX12_linkOf_134 : decode cX12_linkOf 134 = .ok (.ireturn, 1) := by decide +kernel
theorem dX12_bitOf_0 : decode cX12_bitOf 0 = .ok (.iload_n 2, 1) := by decide +kernel
theorem dX12_bitOf_1 : decode cX12_bitOf 1 = .ok (.iconst (-1), 1) := by decide +kernel
theorem dX12_bitOf_2 : decode cX12_bitOf 2 = .ok (.if_icmp .ne 5, 3) := by decide +kernel
theorem dX12_bitOf_5 : decode cX12_bitOf 5 = .ok (.iconst (-1), 1) := by decide +kernel
theorem dX12_bitOf_6 : decode cX12_bitOf 6 = .ok (.ireturn, 1) := by decide +kernel
theorem dX12_bitOf_7 : decode cX12_bitOf 7 = .ok (.aload_n 0, 1) := by decide +kernel
theorem dX12_bitOf_8 : decode cX12_bitOf 8 = .ok (.getfield 53, 3) := by decide +kernel
theorem dX12_bitOf_11 : decode cX12_bitOf 11 = .ok (.iload_n 2, 1) := by decide +kernel
theorem dX12_bitOf_12 : decode cX12_bitOf 12 = .ok (.iaload, 1) := by decide +kernel
theorem dX12_bitOf_13 : decode cX12_bitOf 13 = .ok (.iconst 3, 1) := by decide +kernel
theorem dX12_bitOf_14 : decode cX12_bitOf 14 = .ok (.if_icmp .ne 44, 3) := by decide +kernel
theorem dX12_bitOf_17 : decode cX12_bitOf 17 = .ok (.aload_n 0, 1) := by decide +kernel
theorem dX12_bitOf_18 : decode cX12_bitOf 18 = .ok (.getfield 13, 3) := by decide +kernel
theorem dX12_bitOf_21 : decode cX12_bitOf 21 = .ok (.sipush 1000, 3) := by decide +kernel
theorem dX12_bitOf_24 : decode cX12_bitOf 24 = .ok (.aload_n 0, 1) := by decide +kernel
theorem dX12_bitOf_25 : decode cX12_bitOf 25 = .ok (.getfield 290, 3) := by decide +kernel
theorem dX12_bitOf_28 : decode cX12_bitOf 28 = .ok (.imul, 1) := by decide +kernel
theorem dX12_bitOf_29 : decode cX12_bitOf 29 = .ok (.aload_n 0, 1) := by decide +kernel
theorem dX12_bitOf_30 : decode cX12_bitOf 30 = .ok (.iload_n 2, 1) := by decide +kernel
theorem dX12_bitOf_31 : decode cX12_bitOf 31 = .ok (.invokevirtual 323, 3) := by decide +kernel
theorem dX12_bitOf_34 : decode cX12_bitOf 34 = .ok (.iadd, 1) := by decide +kernel
theorem dX12_bitOf_35 : decode cX12_bitOf 35 = .ok (.aload_n 0, 1) := by decide +kernel
theorem dX12_bitOf_36 : decode cX12_bitOf 36 = .ok (.getfield 62, 3) := by decide +kernel
theorem dX12_bitOf_39 : decode cX12_bitOf 39 = .ok (.iload_n 2, 1) := by decide +kernel
theorem dX12_bitOf_40 : decode cX12_bitOf 40 = .ok (.iaload, 1) := by decide +kernel
theorem dX12_bitOf_41 : decode cX12_bitOf 41 = .ok (.iadd, 1) := by decide +kernel
theorem dX12_bitOf_42 : decode cX12_bitOf 42 = .ok (.iload_n 3, 1) := by decide +kernel
theorem dX12_bitOf_43 : decode cX12_bitOf 43 = .ok (.isub, 1) := by decide +kernel
theorem dX12_bitOf_44 : decode cX12_bitOf 44 = .ok (.iaload, 1) := by decide +kernel
theorem dX12_bitOf_45 : decode cX12_bitOf 45 = .ok (.bipush 49, 2) := by decide +kernel
theorem dX12_bitOf_47 : decode cX12_bitOf 47 = .ok (.if_icmp .ne 8, 3) := by decide +kernel
theorem dX12_bitOf_50 : decode cX12_bitOf 50 = .ok (.bipush (-3), 2) := by decide +kernel
theorem dX12_bitOf_52 : decode cX12_bitOf 52 = .ok (.goto 5, 3) := by decide +kernel
theorem dX12_bitOf_55 : decode cX12_bitOf 55 = .ok (.bipush (-2), 2) := by decide +kernel
theorem dX12_bitOf_57 : decode cX12_bitOf 57 = .ok (.ireturn, 1) := by decide +kernel
theorem dX12_bitOf_58 : decode cX12_bitOf 58 = .ok (.aload_n 0, 1) := by decide +kernel
theorem dX12_bitOf_59 : decode cX12_bitOf 59 = .ok (.getfield 40, 3) := by decide +kernel
theorem dX12_bitOf_62 : decode cX12_bitOf 62 = .ok (.bipush 16, 2) := by decide +kernel
theorem dX12_bitOf_64 : decode cX12_bitOf 64 = .ok (.iload_n 1, 1) := by decide +kernel
theorem dX12_bitOf_65 : decode cX12_bitOf 65 = .ok (.imul, 1) := by decide +kernel
theorem dX12_bitOf_66 : decode cX12_bitOf 66 = .ok (.aload_n 0, 1) := by decide +kernel
theorem dX12_bitOf_67 : decode cX12_bitOf 67 = .ok (.getfield 56, 3) := by decide +kernel
theorem dX12_bitOf_70 : decode cX12_bitOf 70 = .ok (.iload_n 2, 1) := by decide +kernel
theorem dX12_bitOf_71 : decode cX12_bitOf 71 = .ok (.iaload, 1) := by decide +kernel
theorem dX12_bitOf_72 : decode cX12_bitOf 72 = .ok (.iadd, 1) := by decide +kernel
theorem dX12_bitOf_73 : decode cX12_bitOf 73 = .ok (.iaload, 1) := by decide +kernel
theorem dX12_bitOf_74 : decode cX12_bitOf 74 = .ok (.istore 4, 2) := by decide +kernel
theorem dX12_bitOf_76 : decode cX12_bitOf 76 = .ok (.iload 4, 2) := by decide +kernel
theorem dX12_bitOf_78 : decode cX12_bitOf 78 = .ok (.iload_n 3, 1) := by decide +kernel
theorem dX12_bitOf_79 : decode cX12_bitOf 79 = .ok (.iadd, 1) := by decide +kernel
theorem dX12_bitOf_80 : decode cX12_bitOf 80 = .ok (.aload_n 0, 1) := by decide +kernel
theorem dX12_bitOf_81 : decode cX12_bitOf 81 = .ok (.getfield 53, 3) := by decide +kernel
theorem dX12_bitOf_84 : decode cX12_bitOf 84 = .ok (.iload_n 2, 1) := by decide +kernel
theorem dX12_bitOf_85 : decode cX12_bitOf 85 = .ok (.iaload, 1) := by decide +kernel
theorem dX12_bitOf_86 : decode cX12_bitOf 86 = .ok (.ifCond .ne 7, 3) := by decide +kernel
theorem dX12_bitOf_89 : decode cX12_bitOf 89 = .ok (.iconst 0, 1) := by decide +kernel
theorem dX12_bitOf_90 : decode cX12_bitOf 90 = .ok (.goto 9, 3) := by decide +kernel
theorem dX12_bitOf_93 : decode cX12_bitOf 93 = .ok (.aload_n 0, 1) := by decide +kernel
theorem dX12_bitOf_94 : decode cX12_bitOf 94 = .ok (.getfield 62, 3) := by decide +kernel
theorem dX12_bitOf_97 : decode cX12_bitOf 97 = .ok (.iload_n 2, 1) := by decide +kernel
theorem dX12_bitOf_98 : decode cX12_bitOf 98 = .ok (.iaload, 1) := by decide +kernel
theorem dX12_bitOf_99 : decode cX12_bitOf 99 = .ok (.iadd, 1) := by decide +kernel
theorem dX12_bitOf_100 : decode cX12_bitOf 100 = .ok (.ireturn, 1) := by decide +kernel
theorem dX12_refPlaceOf_0 : decode cX12_refPlaceOf 0 = .ok (.aload_n 0, 1) := by decide +kernel
theorem dX12_refPlaceOf_1 : decode cX12_refPlaceOf 1 = .ok (.getfield 59, 3) := by decide +kernel
theorem dX12_refPlaceOf_4 : decode cX12_refPlaceOf 4 = .ok (.iload_n 1, 1) := by decide +kernel
theorem dX12_refPlaceOf_5 : decode cX12_refPlaceOf 5 = .ok (.iaload, 1) := by decide +kernel
theorem dX12_refPlaceOf_6 : decode cX12_refPlaceOf 6 = .ok (.ireturn, 1) := by decide +kernel
theorem dX12_pinWidth_0 : decode cX12_pinWidth 0 = .ok (.aload_n 0, 1) := by decide +kernel
theorem dX12_pinWidth_1 : decode cX12_pinWidth 1 = .ok (.getfield 86, 3) := by decide +kernel
theorem dX12_pinWidth_4 : decode cX12_pinWidth 4 = .ok (.iload_n 2, 1) := by decide +kernel
theorem dX12_pinWidth_5 : decode cX12_pinWidth 5 = .ok (.iaload, 1) := by decide +kernel
theorem dX12_pinWidth_6 : decode cX12_pinWidth 6 = .ok (.iconst (-1), 1) := by decide +kernel
theorem dX12_pinWidth_7 : decode cX12_pinWidth 7 = .ok (.if_icmp .eq 24, 3) := by decide +kernel
theorem dX12_pinWidth_10 : decode cX12_pinWidth 10 = .ok (.aload_n 0, 1) := by decide +kernel
theorem dX12_pinWidth_11 : decode cX12_pinWidth 11 = .ok (.getfield 37, 3) := by decide +kernel
theorem dX12_pinWidth_14 : decode cX12_pinWidth 14 = .ok (.bipush 16, 2) := by decide +kernel
theorem dX12_pinWidth_16 : decode cX12_pinWidth 16 = .ok (.aload_n 0, 1) := by decide +kernel
theorem dX12_pinWidth_17 : decode cX12_pinWidth 17 = .ok (.aload_n 0, 1) := by decide +kernel
theorem dX12_pinWidth_18 : decode cX12_pinWidth 18 = .ok (.getfield 86, 3) := by decide +kernel
theorem dX12_pinWidth_21 : decode cX12_pinWidth 21 = .ok (.iload_n 2, 1) := by decide +kernel
theorem dX12_pinWidth_22 : decode cX12_pinWidth 22 = .ok (.iaload, 1) := by decide +kernel
theorem dX12_pinWidth_23 : decode cX12_pinWidth 23 = .ok (.invokevirtual 311, 3) := by decide +kernel
theorem dX12_pinWidth_26 : decode cX12_pinWidth 26 = .ok (.imul, 1) := by decide +kernel
theorem dX12_pinWidth_27 : decode cX12_pinWidth 27 = .ok (.iload_n 3, 1) := by decide +kernel
theorem dX12_pinWidth_28 : decode cX12_pinWidth 28 = .ok (.iadd, 1) := by decide +kernel
theorem dX12_pinWidth_29 : decode cX12_pinWidth 29 = .ok (.iaload, 1) := by decide +kernel
theorem dX12_pinWidth_30 : decode cX12_pinWidth 30 = .ok (.ireturn, 1) := by decide +kernel
theorem dX12_pinWidth_31 : decode cX12_pinWidth 31 = .ok (.aload_n 0, 1) := by decide +kernel
theorem dX12_pinWidth_32 : decode cX12_pinWidth 32 = .ok (.getfield 92, 3) := by decide +kernel
theorem dX12_pinWidth_35 : decode cX12_pinWidth 35 = .ok (.bipush 16, 2) := by decide +kernel
theorem dX12_pinWidth_37 : decode cX12_pinWidth 37 = .ok (.iload_n 2, 1) := by decide +kernel
theorem dX12_pinWidth_38 : decode cX12_pinWidth 38 = .ok (.imul, 1) := by decide +kernel
theorem dX12_pinWidth_39 : decode cX12_pinWidth 39 = .ok (.iload_n 3, 1) := by decide +kernel
theorem dX12_pinWidth_40 : decode cX12_pinWidth 40 = .ok (.iadd, 1) := by decide +kernel
theorem dX12_pinWidth_41 : decode cX12_pinWidth 41 = .ok (.iaload, 1) := by decide +kernel
theorem dX12_pinWidth_42 : decode cX12_pinWidth 42 = .ok (.istore 4, 2) := by decide +kernel
theorem dX12_pinWidth_44 : decode cX12_pinWidth 44 = .ok (.iload 4, 2) := by decide +kernel
theorem dX12_pinWidth_46 : decode cX12_pinWidth 46 = .ok (.iconst (-1), 1) := by decide +kernel
theorem dX12_pinWidth_47 : decode cX12_pinWidth 47 = .ok (.if_icmp .ne 7, 3) := by decide +kernel
theorem dX12_pinWidth_50 : decode cX12_pinWidth 50 = .ok (.iconst 1, 1) := by decide +kernel
theorem dX12_pinWidth_51 : decode cX12_pinWidth 51 = .ok (.goto 14, 3) := by decide +kernel
theorem dX12_pinWidth_54 : decode cX12_pinWidth 54 = .ok (.aload_n 0, 1) := by decide +kernel
theorem dX12_pinWidth_55 : decode cX12_pinWidth 55 = .ok (.aload_n 0, 1) := by decide +kernel
theorem dX12_pinWidth_56 : decode cX12_pinWidth 56 = .ok (.getfield 290, 3) := by decide +kernel
theorem dX12_pinWidth_59 : decode cX12_pinWidth 59 = .ok (.iload_n 1, 1) := by decide +kernel
theorem dX12_pinWidth_60 : decode cX12_pinWidth 60 = .ok (.iload 4, 2) := by decide +kernel
theorem dX12_pinWidth_62 : decode cX12_pinWidth 62 = .ok (.invokevirtual 277, 3) := by decide +kernel
theorem dX12_pinWidth_65 : decode cX12_pinWidth 65 = .ok (.ireturn, 1) := by decide +kernel
theorem dX12_joined_0 : decode cX12_joined 0 = .ok (.aload_n 0, 1) := by decide +kernel
theorem dX12_joined_1 : decode cX12_joined 1 = .ok (.iload_n 1, 1) := by decide +kernel
theorem dX12_joined_2 : decode cX12_joined 2 = .ok (.iload_n 2, 1) := by decide +kernel
theorem dX12_joined_3 : decode cX12_joined 3 = .ok (.invokevirtual 317, 3) := by decide +kernel
theorem dX12_joined_6 : decode cX12_joined 6 = .ok (.istore 5, 2) := by decide +kernel
theorem dX12_joined_8 : decode cX12_joined 8 = .ok (.iload 5, 2) := by decide +kernel
theorem dX12_joined_10 : decode cX12_joined 10 = .ok (.ifCond .eq 16, 3) := by decide +kernel
theorem dX12_joined_13 : decode cX12_joined 13 = .ok (.bipush 12, 2) := by decide +kernel
theorem dX12_joined_15 : decode cX12_joined 15 = .ok (.aload_n 0, 1) := by decide +kernel
theorem dX12_joined_16 : decode cX12_joined 16 = .ok (.iload_n 1, 1) := by decide +kernel
theorem dX12_joined_17 : decode cX12_joined 17 = .ok (.invokevirtual 311, 3) := by decide +kernel
theorem dX12_joined_20 : decode cX12_joined 20 = .ok (.imul, 1) := by decide +kernel
theorem dX12_joined_21 : decode cX12_joined 21 = .ok (.iload_n 2, 1) := by decide +kernel
theorem dX12_joined_22 : decode cX12_joined 22 = .ok (.iadd, 1) := by decide +kernel
theorem dX12_joined_23 : decode cX12_joined 23 = .ok (.goto 4, 3) := by decide +kernel
theorem dX12_joined_26 : decode cX12_joined 26 = .ok (.iconst 0, 1) := by decide +kernel
theorem dX12_joined_27 : decode cX12_joined 27 = .ok (.istore 6, 2) := by decide +kernel
theorem dX12_joined_29 : decode cX12_joined 29 = .ok (.iload 5, 2) := by decide +kernel
theorem dX12_joined_31 : decode cX12_joined 31 = .ok (.ifCond .eq 21, 3) := by decide +kernel
theorem dX12_joined_34 : decode cX12_joined 34 = .ok (.iload_n 3, 1) := by decide +kernel
theorem dX12_joined_35 : decode cX12_joined 35 = .ok (.ifCond .lt 17, 3) := by decide +kernel
theorem dX12_joined_38 : decode cX12_joined 38 = .ok (.iload_n 3, 1) := by decide +kernel
theorem dX12_joined_39 : decode cX12_joined 39 = .ok (.aload_n 0, 1) := by decide +kernel
theorem dX12_joined_40 : decode cX12_joined 40 = .ok (.iload 6, 2) := by decide +kernel
theorem dX12_joined_42 : decode cX12_joined 42 = .ok (.invokevirtual 320, 3) := by decide +kernel
theorem dX12_joined_45 : decode cX12_joined 45 = .ok (.if_icmp .ge 7, 3) := by decide +kernel
theorem dX12_joined_48 : decode cX12_joined 48 = .ok (.iconst 1, 1) := by decide +kernel
theorem dX12_joined_49 : decode cX12_joined 49 = .ok (.goto 4, 3) := by decide +kernel
theorem dX12_joined_52 : decode cX12_joined 52 = .ok (.iconst 0, 1) := by decide +kernel
theorem dX12_joined_53 : decode cX12_joined 53 = .ok (.istore 5, 2) := by decide +kernel
theorem dX12_joined_55 : decode cX12_joined 55 = .ok (.aload_n 0, 1) := by decide +kernel
theorem dX12_joined_56 : decode cX12_joined 56 = .ok (.iload 5, 2) := by decide +kernel
theorem dX12_joined_58 : decode cX12_joined 58 = .ok (.ifCond .eq 29, 3) := by decide +kernel
theorem dX12_joined_61 : decode cX12_joined 61 = .ok (.iload 4, 2) := by decide +kernel
theorem dX12_joined_63 : decode cX12_joined 63 = .ok (.ifCond .lt 24, 3) := by decide +kernel
theorem dX12_joined_66 : decode cX12_joined 66 = .ok (.iload 4, 2) := by decide +kernel
theorem dX12_joined_68 : decode cX12_joined 68 = .ok (.aload_n 0, 1) := by decide +kernel
theorem dX12_joined_69 : decode cX12_joined 69 = .ok (.aload_n 0, 1) := by decide +kernel
theorem dX12_joined_70 : decode cX12_joined 70 = .ok (.iload_n 1, 1) := by decide +kernel
theorem dX12_joined_71 : decode cX12_joined 71 = .ok (.invokevirtual 311, 3) := by decide +kernel
theorem dX12_joined_74 : decode cX12_joined 74 = .ok (.iload 6, 2) := by decide +kernel
theorem dX12_joined_76 : decode cX12_joined 76 = .ok (.iload_n 3, 1) := by decide +kernel
theorem dX12_joined_77 : decode cX12_joined 77 = .ok (.invokevirtual 326, 3) := by decide +kernel
theorem dX12_joined_80 : decode cX12_joined 80 = .ok (.if_icmp .ge 7, 3) := by decide +kernel
theorem dX12_joined_83 : decode cX12_joined 83 = .ok (.iconst 0, 1) := by decide +kernel
theorem dX12_joined_84 : decode cX12_joined 84 = .ok (.goto 4, 3) := by decide +kernel
theorem dX12_joined_87 : decode cX12_joined 87 = .ok (.iconst 1, 1) := by decide +kernel
theorem dX12_joined_88 : decode cX12_joined 88 = .ok (.putfield 108, 3) := by decide +kernel
theorem dX12_joined_91 : decode cX12_joined 91 = .ok (.aload_n 0, 1) := by decide +kernel
theorem dX12_joined_92 : decode cX12_joined 92 = .ok (.getfield 108, 3) := by decide +kernel
theorem dX12_joined_95 : decode cX12_joined 95 = .ok (.ifCond .le 7, 3) := by decide +kernel
theorem dX12_joined_98 : decode cX12_joined 98 = .ok (.iconst 0, 1) := by decide +kernel
theorem dX12_joined_99 : decode cX12_joined 99 = .ok (.goto 21, 3) := by decide +kernel
theorem dX12_joined_102 : decode cX12_joined 102 = .ok (.aload_n 0, 1) := by decide +kernel
theorem dX12_joined_103 : decode cX12_joined 103 = .ok (.aload_n 0, 1) := by decide +kernel
theorem dX12_joined_104 : decode cX12_joined 104 = .ok (.iload_n 1, 1) := by decide +kernel
theorem dX12_joined_105 : decode cX12_joined 105 = .ok (.invokevirtual 311, 3) := by decide +kernel
theorem dX12_joined_108 : decode cX12_joined 108 = .ok (.aload_n 0, 1) := by decide +kernel
theorem dX12_joined_109 : decode cX12_joined 109 = .ok (.iload 6, 2) := by decide +kernel
theorem dX12_joined_111 : decode cX12_joined 111 = .ok (.iload_n 3, 1) := by decide +kernel
theorem dX12_joined_112 : decode cX12_joined 112 = .ok (.invokevirtual 329, 3) := by decide +kernel
theorem dX12_joined_115 : decode cX12_joined 115 = .ok (.iload 4, 2) := by decide +kernel
theorem dX12_joined_117 : decode cX12_joined 117 = .ok (.invokevirtual 332, 3) := by decide +kernel
theorem dX12_joined_120 : decode cX12_joined 120 = .ok (.ireturn, 1) := by decide +kernel
theorem dX12_assign_0 : decode cX12_assign 0 = .ok (.aload_n 0, 1) := by decide +kernel
theorem dX12_assign_1 : decode cX12_assign 1 = .ok (.iload_n 1, 1) := by decide +kernel
theorem dX12_assign_2 : decode cX12_assign 2 = .ok (.invokevirtual 308, 3) := by decide +kernel
theorem dX12_assign_5 : decode cX12_assign 5 = .ok (.ifCond .eq 46, 3) := by decide +kernel
theorem dX12_assign_8 : decode cX12_assign 8 = .ok (.iload_n 2, 1) := by decide +kernel
theorem dX12_assign_9 : decode cX12_assign 9 = .ok (.ifCond .lt 42, 3) := by decide +kernel
theorem dX12_assign_12 : decode cX12_assign 12 = .ok (.iload_n 2, 1) := by decide +kernel
theorem dX12_assign_13 : decode cX12_assign 13 = .ok (.aload_n 0, 1) := by decide +kernel
theorem dX12_assign_14 : decode cX12_assign 14 = .ok (.getfield 65, 3) := by decide +kernel
theorem dX12_assign_17 : decode cX12_assign 17 = .ok (.aload_n 0, 1) := by decide +kernel
theorem dX12_assign_18 : decode cX12_assign 18 = .ok (.aload_n 0, 1) := by decide +kernel
theorem dX12_assign_19 : decode cX12_assign 19 = .ok (.iload_n 1, 1) := by decide +kernel
theorem dX12_assign_20 : decode cX12_assign 20 = .ok (.invokevirtual 308, 3) := by decide +kernel
theorem dX12_assign_23 : decode cX12_assign 23 = .ok (.ifCond .eq 7, 3) := by decide +kernel
theorem dX12_assign_26 : decode cX12_assign 26 = .ok (.iload_n 1, 1) := by decide +kernel
theorem dX12_assign_27 : decode cX12_assign 27 = .ok (.goto 4, 3) := by decide +kernel
theorem dX12_assign_30 : decode cX12_assign 30 = .ok (.iconst 0, 1) := by decide +kernel
theorem dX12_assign_31 : decode cX12_assign 31 = .ok (.invokevirtual 311, 3) := by decide +kernel
theorem dX12_assign_34 : decode cX12_assign 34 = .ok (.iaload, 1) := by decide +kernel
theorem dX12_assign_35 : decode cX12_assign 35 = .ok (.if_icmp .ge 16, 3) := by decide +kernel
theorem dX12_assign_38 : decode cX12_assign 38 = .ok (.iload_n 3, 1) := by decide +kernel
theorem dX12_assign_39 : decode cX12_assign 39 = .ok (.ifCond .eq 8, 3) := by decide +kernel
theorem dX12_assign_42 : decode cX12_assign 42 = .ok (.iload_n 3, 1) := by decide +kernel
theorem dX12_assign_43 : decode cX12_assign 43 = .ok (.iconst 1, 1) := by decide +kernel
theorem dX12_assign_44 : decode cX12_assign 44 = .ok (.if_icmp .ne 7, 3) := by decide +kernel
theorem dX12_assign_47 : decode cX12_assign 47 = .ok (.iconst 1, 1) := by decide +kernel
theorem dX12_assign_48 : decode cX12_assign 48 = .ok (.goto 4, 3) := by decide +kernel
theorem dX12_assign_51 : decode cX12_assign 51 = .ok (.iconst 0, 1) := by decide +kernel
theorem dX12_assign_52 : decode cX12_assign 52 = .ok (.istore 5, 2) := by decide +kernel
theorem dX12_assign_54 : decode cX12_assign 54 = .ok (.iload 5, 2) := by decide +kernel
theorem dX12_assign_56 : decode cX12_assign 56 = .ok (.ifCond .ne 7, 3) := by decide +kernel
theorem dX12_assign_59 : decode cX12_assign 59 = .ok (.iconst 0, 1) := by decide +kernel
theorem dX12_assign_60 : decode cX12_assign 60 = .ok (.goto 40, 3) := by decide +kernel
theorem dX12_assign_63 : decode cX12_assign 63 = .ok (.iload_n 3, 1) := by decide +kernel
theorem dX12_assign_64 : decode cX12_assign 64 = .ok (.ifCond .ne 21, 3) := by decide +kernel
theorem dX12_assign_67 : decode cX12_assign 67 = .ok (.aload_n 0, 1) := by decide +kernel
theorem dX12_assign_68 : decode cX12_assign 68 = .ok (.getfield 68, 3) := by decide +kernel
theorem dX12_assign_71 : decode cX12_assign 71 = .ok (.bipush 8, 2) := by decide +kernel
theorem dX12_assign_73 : decode cX12_assign 73 = .ok (.aload_n 0, 1) := by decide +kernel
theorem dX12_assign_74 : decode cX12_assign 74 = .ok (.iload_n 1, 1) := by decide +kernel
theorem dX12_assign_75 : decode cX12_assign 75 = .ok (.invokevirtual 311, 3) := by decide +kernel
theorem dX12_assign_78 : decode cX12_assign 78 = .ok (.imul, 1) := by decide +kernel
theorem dX12_assign_79 : decode cX12_assign 79 = .ok (.iload_n 2, 1) := by decide +kernel
theorem dX12_assign_80 : decode cX12_assign 80 = .ok (.iadd, 1) := by decide +kernel
theorem dX12_assign_81 : decode cX12_assign 81 = .ok (.iaload, 1) := by decide +kernel
theorem dX12_assign_82 : decode cX12_assign 82 = .ok (.goto 18, 3) := by decide +kernel
theorem dX12_assign_85 : decode cX12_assign 85 = .ok (.aload_n 0, 1) := by decide +kernel
theorem dX12_assign_86 : decode cX12_assign 86 = .ok (.getfield 71, 3) := by decide +kernel
theorem dX12_assign_89 : decode cX12_assign 89 = .ok (.bipush 8, 2) := by decide +kernel
theorem dX12_assign_91 : decode cX12_assign 91 = .ok (.aload_n 0, 1) := by decide +kernel
theorem dX12_assign_92 : decode cX12_assign 92 = .ok (.iload_n 1, 1) := by decide +kernel
theorem dX12_assign_93 : decode cX12_assign 93 = .ok (.invokevirtual 311, 3) := by decide +kernel
theorem dX12_assign_96 : decode cX12_assign 96 = .ok (.imul, 1) := by decide +kernel
theorem dX12_assign_97 : decode cX12_assign 97 = .ok (.iload_n 2, 1) := by decide +kernel
theorem dX12_assign_98 : decode cX12_assign 98 = .ok (.iadd, 1) := by decide +kernel
theorem dX12_assign_99 : decode cX12_assign 99 = .ok (.iaload, 1) := by decide +kernel
theorem dX12_assign_100 : decode cX12_assign 100 = .ok (.istore 6, 2) := by decide +kernel
theorem dX12_assign_102 : decode cX12_assign 102 = .ok (.aload_n 0, 1) := by decide +kernel
theorem dX12_assign_103 : decode cX12_assign 103 = .ok (.iload 5, 2) := by decide +kernel
theorem dX12_assign_105 : decode cX12_assign 105 = .ok (.ifCond .eq 32, 3) := by decide +kernel
theorem dX12_assign_108 : decode cX12_assign 108 = .ok (.iload 4, 2) := by decide +kernel
theorem dX12_assign_110 : decode cX12_assign 110 = .ok (.ifCond .lt 27, 3) := by decide +kernel
theorem dX12_assign_113 : decode cX12_assign 113 = .ok (.iload 4, 2) := by decide +kernel
theorem dX12_assign_115 : decode cX12_assign 115 = .ok (.aload_n 0, 1) := by decide +kernel
theorem dX12_assign_116 : decode cX12_assign 116 = .ok (.aload_n 0, 1) := by decide +kernel
theorem dX12_assign_117 : decode cX12_assign 117 = .ok (.getfield 290, 3) := by decide +kernel
theorem dX12_assign_120 : decode cX12_assign 120 = .ok (.aload_n 0, 1) := by decide +kernel
theorem dX12_assign_121 : decode cX12_assign 121 = .ok (.iload_n 1, 1) := by decide +kernel
theorem dX12_assign_122 : decode cX12_assign 122 = .ok (.invokevirtual 311, 3) := by decide +kernel
theorem dX12_assign_125 : decode cX12_assign 125 = .ok (.iload 6, 2) := by decide +kernel
theorem dX12_assign_127 : decode cX12_assign 127 = .ok (.invokevirtual 277, 3) := by decide +kernel
theorem dX12_assign_130 : decode cX12_assign 130 = .ok (.if_icmp .ge 7, 3) := by decide +kernel
theorem dX12_assign_133 : decode cX12_assign 133 = .ok (.iconst 0, 1) := by decide +kernel
theorem dX12_assign_134 : decode cX12_assign 134 = .ok (.goto 4, 3) := by decide +kernel
theorem dX12_assign_137 : decode cX12_assign 137 = .ok (.iconst 1, 1) := by decide +kernel
theorem dX12_assign_138 : decode cX12_assign 138 = .ok (.putfield 108, 3) := by decide +kernel
theorem dX12_assign_141 : decode cX12_assign 141 = .ok (.aload_n 0, 1) := by decide +kernel
theorem dX12_assign_142 : decode cX12_assign 142 = .ok (.getfield 108, 3) := by decide +kernel
theorem dX12_assign_145 : decode cX12_assign 145 = .ok (.ifCond .le 7, 3) := by decide +kernel
theorem dX12_assign_148 : decode cX12_assign 148 = .ok (.iconst 0, 1) := by decide +kernel
theorem dX12_assign_149 : decode cX12_assign 149 = .ok (.goto 16, 3) := by decide +kernel
theorem dX12_assign_152 : decode cX12_assign 152 = .ok (.aload_n 0, 1) := by decide +kernel
theorem dX12_assign_153 : decode cX12_assign 153 = .ok (.aload_n 0, 1) := by decide +kernel
theorem dX12_assign_154 : decode cX12_assign 154 = .ok (.iload_n 1, 1) := by decide +kernel
theorem dX12_assign_155 : decode cX12_assign 155 = .ok (.invokevirtual 311, 3) := by decide +kernel
theorem dX12_assign_158 : decode cX12_assign 158 = .ok (.iload 6, 2) := by decide +kernel
theorem dX12_assign_160 : decode cX12_assign 160 = .ok (.iload 4, 2) := by decide +kernel
theorem dX12_assign_162 : decode cX12_assign 162 = .ok (.invokevirtual 332, 3) := by decide +kernel
theorem dX12_assign_165 : decode cX12_assign 165 = .ok (.ireturn, 1) := by decide +kernel
theorem dX12_letter_0 : decode cX12_letter 0 = .ok (.aload_n 0, 1) := by decide +kernel
theorem dX12_letter_1 : decode cX12_letter 1 = .ok (.iload_n 2, 1) := by decide +kernel
theorem dX12_letter_2 : decode cX12_letter 2 = .ok (.invokevirtual 308, 3) := by decide +kernel
theorem dX12_letter_5 : decode cX12_letter 5 = .ok (.ifCond .eq 21, 3) := by decide +kernel
theorem dX12_letter_8 : decode cX12_letter 8 = .ok (.iload 4, 2) := by decide +kernel
theorem dX12_letter_10 : decode cX12_letter 10 = .ok (.ifCond .lt 16, 3) := by decide +kernel
theorem dX12_letter_13 : decode cX12_letter 13 = .ok (.iload_n 1, 1) := by decide +kernel
theorem dX12_letter_14 : decode cX12_letter 14 = .ok (.ifCond .lt 12, 3) := by decide +kernel
theorem dX12_letter_17 : decode cX12_letter 17 = .ok (.iload_n 1, 1) := by decide +kernel
theorem dX12_letter_18 : decode cX12_letter 18 = .ok (.iconst 3, 1) := by decide +kernel
theorem dX12_letter_19 : decode cX12_letter 19 = .ok (.if_icmp .gt 7, 3) := by decide +kernel
theorem dX12_letter_22 : decode cX12_letter 22 = .ok (.iconst 1, 1) := by decide +kernel
theorem dX12_letter_23 : decode cX12_letter 23 = .ok (.goto 4, 3) := by decide +kernel
theorem dX12_letter_26 : decode cX12_letter 26 = .ok (.iconst 0, 1) := by decide +kernel
theorem dX12_letter_27 : decode cX12_letter 27 = .ok (.istore 5, 2) := by decide +kernel
theorem dX12_letter_29 : decode cX12_letter 29 = .ok (.iload 5, 2) := by decide +kernel
theorem dX12_letter_31 : decode cX12_letter 31 = .ok (.ifCond .eq 44, 3) := by decide +kernel
theorem dX12_letter_34 : decode cX12_letter 34 = .ok (.iload_n 1, 1) := by decide +kernel
theorem dX12_letter_35 : decode cX12_letter 35 = .ok (.iconst 1, 1) := by decide +kernel
theorem dX12_letter_36 : decode cX12_letter 36 = .ok (.if_icmp .ne 21, 3) := by decide +kernel
theorem dX12_letter_39 : decode cX12_letter 39 = .ok (.iload_n 3, 1) := by decide +kernel
theorem dX12_letter_40 : decode cX12_letter 40 = .ok (.ifCond .lt 35, 3) := by decide +kernel
theorem dX12_letter_43 : decode cX12_letter 43 = .ok (.iload_n 3, 1) := by decide +kernel
theorem dX12_letter_44 : decode cX12_letter 44 = .ok (.aload_n 0, 1) := by decide +kernel
theorem dX12_letter_45 : decode cX12_letter 45 = .ok (.getfield 28, 3) := by decide +kernel
theorem dX12_letter_48 : decode cX12_letter 48 = .ok (.aload_n 0, 1) := by decide +kernel
theorem dX12_letter_49 : decode cX12_letter 49 = .ok (.iload_n 2, 1) := by decide +kernel
theorem dX12_letter_50 : decode cX12_letter 50 = .ok (.invokevirtual 311, 3) := by decide +kernel
theorem dX12_letter_53 : decode cX12_letter 53 = .ok (.iaload, 1) := by decide +kernel
theorem dX12_letter_54 : decode cX12_letter 54 = .ok (.if_icmp .ge 21, 3) := by decide +kernel
theorem dX12_letter_57 : decode cX12_letter 57 = .ok (.iload_n 1, 1) := by decide +kernel
theorem dX12_letter_58 : decode cX12_letter 58 = .ok (.iconst 2, 1) := by decide +kernel
theorem dX12_letter_59 : decode cX12_letter 59 = .ok (.if_icmp .lt 12, 3) := by decide +kernel
theorem dX12_letter_62 : decode cX12_letter 62 = .ok (.aload_n 0, 1) := by decide +kernel
theorem dX12_letter_63 : decode cX12_letter 63 = .ok (.iload_n 2, 1) := by decide +kernel
theorem dX12_letter_64 : decode cX12_letter 64 = .ok (.iload_n 3, 1) := by decide +kernel
theorem dX12_letter_65 : decode cX12_letter 65 = .ok (.invokevirtual 317, 3) := by decide +kernel
theorem dX12_letter_68 : decode cX12_letter 68 = .ok (.ifCond .eq 7, 3) := by decide +kernel
theorem dX12_letter_71 : decode cX12_letter 71 = .ok (.iconst 1, 1) := by decide +kernel
theorem dX12_letter_72 : decode cX12_letter 72 = .ok (.goto 4, 3) := by decide +kernel
theorem dX12_letter_75 : decode cX12_letter 75 = .ok (.iconst 0, 1) := by decide +kernel
theorem dX12_letter_76 : decode cX12_letter 76 = .ok (.istore 5, 2) := by decide +kernel
theorem dX12_letter_78 : decode cX12_letter 78 = .ok (.aload_n 0, 1) := by decide +kernel
theorem dX12_letter_79 : decode cX12_letter 79 = .ok (.iload 5, 2) := by decide +kernel
theorem dX12_letter_81 : decode cX12_letter 81 = .ok (.ifCond .eq 7, 3) := by decide +kernel
theorem dX12_letter_84 : decode cX12_letter 84 = .ok (.iconst 0, 1) := by decide +kernel
theorem dX12_letter_85 : decode cX12_letter 85 = .ok (.goto 4, 3) := by decide +kernel
theorem dX12_letter_88 : decode cX12_letter 88 = .ok (.iconst 1, 1) := by decide +kernel
theorem dX12_letter_89 : decode cX12_letter 89 = .ok (.putfield 108, 3) := by decide +kernel
theorem dX12_letter_92 : decode cX12_letter 92 = .ok (.aload_n 0, 1) := by decide +kernel
theorem dX12_letter_93 : decode cX12_letter 93 = .ok (.getfield 108, 3) := by decide +kernel
theorem dX12_letter_96 : decode cX12_letter 96 = .ok (.ifCond .le 5, 3) := by decide +kernel
theorem dX12_letter_99 : decode cX12_letter 99 = .ok (.iconst 0, 1) := by decide +kernel
theorem dX12_letter_100 : decode cX12_letter 100 = .ok (.ireturn, 1) := by decide +kernel
theorem dX12_letter_101 : decode cX12_letter 101 = .ok (.iload_n 1, 1) := by decide +kernel
theorem dX12_letter_102 : decode cX12_letter 102 = .ok (.ifCond .ne 16, 3) := by decide +kernel
theorem dX12_letter_105 : decode cX12_letter 105 = .ok (.aload_n 0, 1) := by decide +kernel
theorem dX12_letter_106 : decode cX12_letter 106 = .ok (.getfield 22, 3) := by decide +kernel
theorem dX12_letter_109 : decode cX12_letter 109 = .ok (.aload_n 0, 1) := by decide +kernel
theorem dX12_letter_110 : decode cX12_letter 110 = .ok (.iload_n 2, 1) := by decide +kernel
theorem dX12_letter_111 : decode cX12_letter 111 = .ok (.invokevirtual 311, 3) := by decide +kernel
theorem dX12_letter_114 : decode cX12_letter 114 = .ok (.iaload, 1) := by decide +kernel
theorem dX12_letter_115 : decode cX12_letter 115 = .ok (.goto 64, 3) := by decide +kernel
theorem dX12_letter_118 : decode cX12_letter 118 = .ok (.iload_n 1, 1) := by decide +kernel
theorem dX12_letter_119 : decode cX12_letter 119 = .ok (.iconst 1, 1) := by decide +kernel
theorem dX12_letter_120 : decode cX12_letter 120 = .ok (.if_icmp .ne 21, 3) := by decide +kernel
theorem dX12_letter_123 : decode cX12_letter 123 = .ok (.aload_n 0, 1) := by decide +kernel
theorem dX12_letter_124 : decode cX12_letter 124 = .ok (.getfield 31, 3) := by decide +kernel
theorem dX12_letter_127 : decode cX12_letter 127 = .ok (.bipush 16, 2) := by decide +kernel
theorem dX12_letter_129 : decode cX12_letter 129 = .ok (.aload_n 0, 1) := by decide +kernel
theorem dX12_letter_130 : decode cX12_letter 130 = .ok (.iload_n 2, 1) := by decide +kernel
theorem dX12_letter_131 : decode cX12_letter 131 = .ok (.invokevirtual 311, 3) := by decide +kernel
theorem dX12_letter_134 : decode cX12_letter 134 = .ok (.imul, 1) := by decide +kernel
theorem dX12_letter_135 : decode cX12_letter 135 = .ok (.iload_n 3, 1) := by decide +kernel
theorem dX12_letter_136 : decode cX12_letter 136 = .ok (.iadd, 1) := by decide +kernel
theorem dX12_letter_137 : decode cX12_letter 137 = .ok (.iaload, 1) := by decide +kernel
theorem dX12_letter_138 : decode cX12_letter 138 = .ok (.goto 41, 3) := by decide +kernel
theorem dX12_letter_141 : decode cX12_letter 141 = .ok (.iload_n 1, 1) := by decide +kernel
theorem dX12_letter_142 : decode cX12_letter 142 = .ok (.iconst 2, 1) := by decide +kernel
theorem dX12_letter_143 : decode cX12_letter 143 = .ok (.if_icmp .ne 21, 3) := by decide +kernel
theorem dX12_letter_146 : decode cX12_letter 146 = .ok (.aload_n 0, 1) := by decide +kernel
theorem dX12_letter_147 : decode cX12_letter 147 = .ok (.getfield 80, 3) := by decide +kernel
theorem dX12_letter_150 : decode cX12_letter 150 = .ok (.bipush 12, 2) := by decide +kernel
theorem dX12_letter_152 : decode cX12_letter 152 = .ok (.aload_n 0, 1) := by decide +kernel
theorem dX12_letter_153 : decode cX12_letter 153 = .ok (.iload_n 2, 1) := by decide +kernel
theorem dX12_letter_154 : decode cX12_letter 154 = .ok (.invokevirtual 311, 3) := by decide +kernel
theorem dX12_letter_157 : decode cX12_letter 157 = .ok (.imul, 1) := by decide +kernel
theorem dX12_letter_158 : decode cX12_letter 158 = .ok (.iload_n 3, 1) := by decide +kernel
theorem dX12_letter_159 : decode cX12_letter 159 = .ok (.iadd, 1) := by decide +kernel
theorem dX12_letter_160 : decode cX12_letter 160 = .ok (.iaload, 1) := by decide +kernel
theorem dX12_letter_161 : decode cX12_letter 161 = .ok (.goto 18, 3) := by decide +kernel
theorem dX12_letter_164 : decode cX12_letter 164 = .ok (.aload_n 0, 1) := by decide +kernel
theorem dX12_letter_165 : decode cX12_letter 165 = .ok (.getfield 77, 3) := by decide +kernel
theorem dX12_letter_168 : decode cX12_letter 168 = .ok (.bipush 12, 2) := by decide +kernel
theorem dX12_letter_170 : decode cX12_letter 170 = .ok (.aload_n 0, 1) := by decide +kernel
theorem dX12_letter_171 : decode cX12_letter 171 = .ok (.iload_n 2, 1) := by decide +kernel
theorem dX12_letter_172 : decode cX12_letter 172 = .ok (.invokevirtual 311, 3) := by decide +kernel
theorem dX12_letter_175 : decode cX12_letter 175 = .ok (.imul, 1) := by decide +kernel
theorem dX12_letter_176 : decode cX12_letter 176 = .ok (.iload_n 3, 1) := by decide +kernel
theorem dX12_letter_177 : decode cX12_letter 177 = .ok (.iadd, 1) := by decide +kernel
theorem dX12_letter_178 : decode cX12_letter 178 = .ok (.iaload, 1) := by decide +kernel
theorem dX12_letter_179 : decode cX12_letter 179 = .ok (.istore 6, 2) := by decide +kernel
theorem dX12_letter_181 : decode cX12_letter 181 = .ok (.iload 4, 2) := by decide +kernel
theorem dX12_letter_183 : decode cX12_letter 183 = .ok (.aload_n 0, 1) := by decide +kernel
theorem dX12_letter_184 : decode cX12_letter 184 = .ok (.aload_n 0, 1) := by decide +kernel
theorem dX12_letter_185 : decode cX12_letter 185 = .ok (.getfield 290, 3) := by decide +kernel
theorem dX12_letter_188 : decode cX12_letter 188 = .ok (.iload 6, 2) := by decide +kernel
theorem dX12_letter_190 : decode cX12_letter 190 = .ok (.invokevirtual 154, 3) := by decide +kernel
theorem dX12_letter_193 : decode cX12_letter 193 = .ok (.if_icmp .ge 25, 3) := by decide +kernel
theorem dX12_letter_196 : decode cX12_letter 196 = .ok (.aload_n 0, 1) := by decide +kernel
theorem dX12_letter_197 : decode cX12_letter 197 = .ok (.getfield 13, 3) := by decide +kernel
theorem dX12_letter_200 : decode cX12_letter 200 = .ok (.sipush 1000, 3) := by decide +kernel
theorem dX12_letter_203 : decode cX12_letter 203 = .ok (.aload_n 0, 1) := by decide +kernel
theorem dX12_letter_204 : decode cX12_letter 204 = .ok (.getfield 290, 3) := by decide +kernel
theorem dX12_letter_207 : decode cX12_letter 207 = .ok (.imul, 1) := by decide +kernel
theorem dX12_letter_208 : decode cX12_letter 208 = .ok (.iload 6, 2) := by decide +kernel
theorem dX12_letter_210 : decode cX12_letter 210 = .ok (.iadd, 1) := by decide +kernel
theorem dX12_letter_211 : decode cX12_letter 211 = .ok (.iload 4, 2) := by decide +kernel
theorem dX12_letter_213 : decode cX12_letter 213 = .ok (.iadd, 1) := by decide +kernel
theorem dX12_letter_214 : decode cX12_letter 214 = .ok (.iaload, 1) := by decide +kernel
theorem dX12_letter_215 : decode cX12_letter 215 = .ok (.goto 4, 3) := by decide +kernel
theorem dX12_letter_218 : decode cX12_letter 218 = .ok (.iconst (-1), 1) := by decide +kernel
theorem dX12_letter_219 : decode cX12_letter 219 = .ok (.ireturn, 1) := by decide +kernel
theorem dX12_print_0 : decode cX12_print 0 = .ok (.aload_n 0, 1) := by decide +kernel
theorem dX12_print_1 : decode cX12_print 1 = .ok (.aload_n 0, 1) := by decide +kernel
theorem dX12_print_2 : decode cX12_print 2 = .ok (.getfield 335, 3) := by decide +kernel
theorem dX12_print_5 : decode cX12_print 5 = .ok (.aload_n 0, 1) := by decide +kernel
theorem dX12_print_6 : decode cX12_print 6 = .ok (.getfield 338, 3) := by decide +kernel
theorem dX12_print_9 : decode cX12_print 9 = .ok (.if_icmp .ne 7, 3) := by decide +kernel
theorem dX12_print_12 : decode cX12_print 12 = .ok (.iload_n 1, 1) := by decide +kernel
theorem dX12_print_13 : decode cX12_print 13 = .ok (.goto 7, 3) := by decide +kernel
theorem dX12_print_16 : decode cX12_print 16 = .ok (.aload_n 0, 1) := by decide +kernel
theorem dX12_print_17 : decode cX12_print 17 = .ok (.getfield 341, 3) := by decide +kernel
theorem dX12_print_20 : decode cX12_print 20 = .ok (.putfield 341, 3) := by decide +kernel
theorem dX12_print_23 : decode cX12_print 23 = .ok (.aload_n 0, 1) := by decide +kernel
theorem dX12_print_24 : decode cX12_print 24 = .ok (.dup, 1) := by decide +kernel
theorem dX12_print_25 : decode cX12_print 25 = .ok (.getfield 335, 3) := by decide +kernel
theorem dX12_print_28 : decode cX12_print 28 = .ok (.iconst 1, 1) := by decide +kernel
theorem dX12_print_29 : decode cX12_print 29 = .ok (.iadd, 1) := by decide +kernel
theorem dX12_print_30 : decode cX12_print 30 = .ok (.putfield 335, 3) := by decide +kernel
theorem dX12_print_33 : decode cX12_print 33 = .ok (.return_, 1) := by decide +kernel
theorem dX12_printName_0 : decode cX12_printName 0 = .ok (.iconst 0, 1) := by decide +kernel
theorem dX12_printName_1 : decode cX12_printName 1 = .ok (.istore_n 2, 1) := by decide +kernel
theorem dX12_printName_2 : decode cX12_printName 2 = .ok (.iload_n 2, 1) := by decide +kernel
theorem dX12_printName_3 : decode cX12_printName 3 = .ok (.aload_n 0, 1) := by decide +kernel
theorem dX12_printName_4 : decode cX12_printName 4 = .ok (.aload_n 0, 1) := by decide +kernel
theorem dX12_printName_5 : decode cX12_printName 5 = .ok (.getfield 290, 3) := by decide +kernel
theorem dX12_printName_8 : decode cX12_printName 8 = .ok (.iload_n 1, 1) := by decide +kernel
theorem dX12_printName_9 : decode cX12_printName 9 = .ok (.invokevirtual 154, 3) := by decide +kernel
theorem dX12_printName_12 : decode cX12_printName 12 = .ok (.if_icmp .ge 30, 3) := by decide +kernel
theorem dX12_printName_15 : decode cX12_printName 15 = .ok (.aload_n 0, 1) := by decide +kernel
theorem dX12_printName_16 : decode cX12_printName 16 = .ok (.aload_n 0, 1) := by decide +kernel
theorem dX12_printName_17 : decode cX12_printName 17 = .ok (.getfield 13, 3) := by decide +kernel
theorem dX12_printName_20 : decode cX12_printName 20 = .ok (.sipush 1000, 3) := by decide +kernel
theorem dX12_printName_23 : decode cX12_printName 23 = .ok (.aload_n 0, 1) := by decide +kernel
theorem dX12_printName_24 : decode cX12_printName 24 = .ok (.getfield 290, 3) := by decide +kernel
theorem dX12_printName_27 : decode cX12_printName 27 = .ok (.imul, 1) := by decide +kernel
theorem dX12_printName_28 : decode cX12_printName 28 = .ok (.iload_n 1, 1) := by decide +kernel
theorem dX12_printName_29 : decode cX12_printName 29 = .ok (.iadd, 1) := by decide +kernel
theorem dX12_printName_30 : decode cX12_printName 30 = .ok (.iload_n 2, 1) := by decide +kernel
theorem dX12_printName_31 : decode cX12_printName 31 = .ok (.iadd, 1) := by decide +kernel
theorem dX12_printName_32 : decode cX12_printName 32 = .ok (.iaload, 1) := by decide +kernel
theorem dX12_printName_33 : decode cX12_printName 33 = .ok (.invokevirtual 344, 3) := by decide +kernel
theorem dX12_printName_36 : decode cX12_printName 36 = .ok (.iinc 2 1, 3) := by decide +kernel
theorem dX12_printName_39 : decode cX12_printName 39 = .ok (.goto (-37), 3) := by decide +kernel
theorem dX12_printName_42 : decode cX12_printName 42 = .ok (.return_, 1) := by decide +kernel
theorem dX12_printNumber_0 : decode cX12_printNumber 0 = .ok (.iload_n 1, 1) := by decide +kernel
theorem dX12_printNumber_1 : decode cX12_printNumber 1 = .ok (.bipush 9, 2) := by decide +kernel
theorem dX12_printNumber_3 : decode cX12_printNumber 3 = .ok (.if_icmp .le 14, 3) := by decide +kernel
theorem dX12_printNumber_6 : decode cX12_printNumber 6 = .ok (.aload_n 0, 1) := by decide +kernel
theorem dX12_printNumber_7 : decode cX12_printNumber 7 = .ok (.bipush 48, 2) := by decide +kernel
theorem dX12_printNumber_9 : decode cX12_printNumber 9 = .ok (.iload_n 1, 1) := by decide +kernel
theorem dX12_printNumber_10 : decode cX12_printNumber 10 = .ok (.bipush 10, 2) := by decide +kernel
theorem dX12_printNumber_12 : decode cX12_printNumber 12 = .ok (.idiv, 1) := by decide +kernel
theorem dX12_printNumber_13 : decode cX12_printNumber 13 = .ok (.iadd, 1) := by decide +kernel
theorem dX12_printNumber_14 : decode cX12_printNumber 14 = .ok (.invokevirtual 344, 3) := by decide +kernel
theorem dX12_printNumber_17 : decode cX12_printNumber 17 = .ok (.aload_n 0, 1) := by decide +kernel
theorem dX12_printNumber_18 : decode cX12_printNumber 18 = .ok (.bipush 48, 2) := by decide +kernel
theorem dX12_printNumber_20 : decode cX12_printNumber 20 = .ok (.iload_n 1, 1) := by decide +kernel
theorem dX12_printNumber_21 : decode cX12_printNumber 21 = .ok (.bipush 10, 2) := by decide +kernel
theorem dX12_printNumber_23 : decode cX12_printNumber 23 = .ok (.irem, 1) := by decide +kernel
theorem dX12_printNumber_24 : decode cX12_printNumber 24 = .ok (.iadd, 1) := by decide +kernel
theorem dX12_printNumber_25 : decode cX12_printNumber 25 = .ok (.invokevirtual 344, 3) := by decide +kernel
theorem dX12_printNumber_28 : decode cX12_printNumber 28 = .ok (.return_, 1) := by decide +kernel
theorem dX12_printFour_0 : decode cX12_printFour 0 = .ok (.aload_n 0, 1) := by decide +kernel
theorem dX12_printFour_1 : decode cX12_printFour 1 = .ok (.iload_n 1, 1) := by decide +kernel
theorem dX12_printFour_2 : decode cX12_printFour 2 = .ok (.invokevirtual 344, 3) := by decide +kernel
theorem dX12_printFour_5 : decode cX12_printFour 5 = .ok (.aload_n 0, 1) := by decide +kernel
theorem dX12_printFour_6 : decode cX12_printFour 6 = .ok (.iload_n 2, 1) := by decide +kernel
theorem dX12_printFour_7 : decode cX12_printFour 7 = .ok (.invokevirtual 344, 3) := by decide +kernel
theorem dX12_printFour_10 : decode cX12_printFour 10 = .ok (.aload_n 0, 1) := by decide +kernel
theorem dX12_printFour_11 : decode cX12_printFour 11 = .ok (.iload_n 3, 1) := by decide +kernel
theorem dX12_printFour_12 : decode cX12_printFour 12 = .ok (.invokevirtual 344, 3) := by decide +kernel
theorem dX12_printFour_15 : decode cX12_printFour 15 = .ok (.iload 4, 2) := by decide +kernel
theorem dX12_printFour_17 : decode cX12_printFour 17 = .ok (.ifCond .le 9, 3) := by decide +kernel
theorem dX12_printFour_20 : decode cX12_printFour 20 = .ok (.aload_n 0, 1) := by decide +kernel
theorem dX12_printFour_21 : decode cX12_printFour 21 = .ok (.iload 4, 2) := by decide +kernel
theorem dX12_printFour_23 : decode cX12_printFour 23 = .ok (.invokevirtual 344, 3) := by decide +kernel
theorem dX12_printFour_26 : decode cX12_printFour 26 = .ok (.return_, 1) := by decide +kernel
theorem dX12_printRef_0 : decode cX12_printRef 0 = .ok (.aload_n 0, 1) := by decide +kernel
theorem dX12_printRef_1 : decode cX12_printRef 1 = .ok (.getfield 53, 3) := by decide +kernel
theorem dX12_printRef_4 : decode cX12_printRef 4 = .ok (.iload_n 2, 1) := by decide +kernel
theorem dX12_printRef_5 : decode cX12_printRef 5 = .ok (.iaload, 1) := by decide +kernel
theorem dX12_printRef_6 : decode cX12_printRef 6 = .ok (.iconst 3, 1) := by decide +kernel
theorem dX12_printRef_7 : decode cX12_printRef 7 = .ok (.if_icmp .ne 34, 3) := by decide +kernel
theorem dX12_printRef_10 : decode cX12_printRef 10 = .ok (.iload_n 3, 1) := by decide +kernel
theorem dX12_printRef_11 : decode cX12_printRef 11 = .ok (.ifCond .eq 13, 3) := by decide +kernel
theorem dX12_printRef_14 : decode cX12_printRef 14 = .ok (.aload_n 0, 1) := by decide +kernel
theorem dX12_printRef_15 : decode cX12_printRef 15 = .ok (.aload_n 0, 1) := by decide +kernel
theorem dX12_printRef_16 : decode cX12_printRef 16 = .ok (.getfield 62, 3) := by decide +kernel
theorem dX12_printRef_19 : decode cX12_printRef 19 = .ok (.iload_n 2, 1) := by decide +kernel
theorem dX12_printRef_20 : decode cX12_printRef 20 = .ok (.iaload, 1) := by decide +kernel
theorem dX12_printRef_21 : decode cX12_printRef 21 = .ok (.invokevirtual 347, 3) := by decide +kernel
theorem dX12_printRef_24 : decode cX12_printRef 24 = .ok (.aload_n 0, 1) := by decide +kernel
theorem dX12_printRef_25 : decode cX12_printRef 25 = .ok (.bipush 39, 2) := by decide +kernel
theorem dX12_printRef_27 : decode cX12_printRef 27 = .ok (.invokevirtual 344, 3) := by decide +kernel
theorem dX12_printRef_30 : decode cX12_printRef 30 = .ok (.aload_n 0, 1) := by decide +kernel
theorem dX12_printRef_31 : decode cX12_printRef 31 = .ok (.aload_n 0, 1) := by decide +kernel
theorem dX12_printRef_32 : decode cX12_printRef 32 = .ok (.getfield 59, 3) := by decide +kernel
theorem dX12_printRef_35 : decode cX12_printRef 35 = .ok (.iload_n 2, 1) := by decide +kernel
theorem dX12_printRef_36 : decode cX12_printRef 36 = .ok (.iaload, 1) := by decide +kernel
theorem dX12_printRef_37 : decode cX12_printRef 37 = .ok (.invokevirtual 350, 3) := by decide +kernel
theorem dX12_printRef_40 : decode cX12_printRef 40 = .ok (.return_, 1) := by decide +kernel
theorem dX12_printRef_41 : decode cX12_printRef 41 = .ok (.aload_n 0, 1) := by decide +kernel
theorem dX12_printRef_42 : decode cX12_printRef 42 = .ok (.aload_n 0, 1) := by decide +kernel
theorem dX12_printRef_43 : decode cX12_printRef 43 = .ok (.getfield 31, 3) := by decide +kernel
theorem dX12_printRef_46 : decode cX12_printRef 46 = .ok (.bipush 16, 2) := by decide +kernel
theorem dX12_printRef_48 : decode cX12_printRef 48 = .ok (.iload_n 1, 1) := by decide +kernel
theorem dX12_printRef_49 : decode cX12_printRef 49 = .ok (.imul, 1) := by decide +kernel
theorem dX12_printRef_50 : decode cX12_printRef 50 = .ok (.aload_n 0, 1) := by decide +kernel
theorem dX12_printRef_51 : decode cX12_printRef 51 = .ok (.getfield 56, 3) := by decide +kernel
theorem dX12_printRef_54 : decode cX12_printRef 54 = .ok (.iload_n 2, 1) := by decide +kernel
theorem dX12_printRef_55 : decode cX12_printRef 55 = .ok (.iaload, 1) := by decide +kernel
theorem dX12_printRef_56 : decode cX12_printRef 56 = .ok (.iadd, 1) := by decide +kernel
theorem dX12_printRef_57 : decode cX12_printRef 57 = .ok (.iaload, 1) := by decide +kernel
theorem dX12_printRef_58 : decode cX12_printRef 58 = .ok (.invokevirtual 350, 3) := by decide +kernel
theorem dX12_printRef_61 : decode cX12_printRef 61 = .ok (.aload_n 0, 1) := by decide +kernel
theorem dX12_printRef_62 : decode cX12_printRef 62 = .ok (.getfield 53, 3) := by decide +kernel
theorem dX12_printRef_65 : decode cX12_printRef 65 = .ok (.iload_n 2, 1) := by decide +kernel
theorem dX12_printRef_66 : decode cX12_printRef 66 = .ok (.iaload, 1) := by decide +kernel
theorem dX12_printRef_67 : decode cX12_printRef 67 = .ok (.ifCond .ne 4, 3) := by decide +kernel
theorem dX12_printRef_70 : decode cX12_printRef 70 = .ok (.return_, 1) := by decide +kernel
theorem dX12_printRef_71 : decode cX12_printRef 71 = .ok (.aload_n 0, 1) := by decide +kernel
theorem dX12_printRef_72 : decode cX12_printRef 72 = .ok (.iload_n 3, 1) := by decide +kernel
theorem dX12_printRef_73 : decode cX12_printRef 73 = .ok (.ifCond .eq 8, 3) := by decide +kernel
theorem dX12_printRef_76 : decode cX12_printRef 76 = .ok (.bipush 91, 2) := by decide +kernel
theorem dX12_printRef_78 : decode cX12_printRef 78 = .ok (.goto 5, 3) := by decide +kernel
theorem dX12_printRef_81 : decode cX12_printRef 81 = .ok (.bipush 46, 2) := by decide +kernel
theorem dX12_printRef_83 : decode cX12_printRef 83 = .ok (.invokevirtual 344, 3) := by decide +kernel
theorem dX12_printRef_86 : decode cX12_printRef 86 = .ok (.aload_n 0, 1) := by decide +kernel
theorem dX12_printRef_87 : decode cX12_printRef 87 = .ok (.aload_n 0, 1) := by decide +kernel
theorem dX12_printRef_88 : decode cX12_printRef 88 = .ok (.getfield 59, 3) := by decide +kernel
theorem dX12_printRef_91 : decode cX12_printRef 91 = .ok (.iload_n 2, 1) := by decide +kernel
theorem dX12_printRef_92 : decode cX12_printRef 92 = .ok (.iaload, 1) := by decide +kernel
theorem dX12_printRef_93 : decode cX12_printRef 93 = .ok (.invokevirtual 347, 3) := by decide +kernel
theorem dX12_printRef_96 : decode cX12_printRef 96 = .ok (.aload_n 0, 1) := by decide +kernel
theorem dX12_printRef_97 : decode cX12_printRef 97 = .ok (.getfield 53, 3) := by decide +kernel
theorem dX12_printRef_100 : decode cX12_printRef 100 = .ok (.iload_n 2, 1) := by decide +kernel
theorem dX12_printRef_101 : decode cX12_printRef 101 = .ok (.iaload, 1) := by decide +kernel
theorem dX12_printRef_102 : decode cX12_printRef 102 = .ok (.iconst 2, 1) := by decide +kernel
theorem dX12_printRef_103 : decode cX12_printRef 103 = .ok (.if_icmp .ne 28, 3) := by decide +kernel
theorem dX12_printRef_106 : decode cX12_printRef 106 = .ok (.aload_n 0, 1) := by decide +kernel
theorem dX12_printRef_107 : decode cX12_printRef 107 = .ok (.iload_n 3, 1) := by decide +kernel
theorem dX12_printRef_108 : decode cX12_printRef 108 = .ok (.ifCond .eq 8, 3) := by decide +kernel
theorem dX12_printRef_111 : decode cX12_printRef 111 = .ok (.bipush 58, 2) := by decide +kernel
theorem dX12_printRef_113 : decode cX12_printRef 113 = .ok (.goto 5, 3) := by decide +kernel
theorem dX12_printRef_116 : decode cX12_printRef 116 = .ok (.bipush 46, 2) := by decide +kernel
theorem dX12_printRef_118 : decode cX12_printRef 118 = .ok (.invokevirtual 344, 3) := by decide +kernel
theorem dX12_printRef_121 : decode cX12_printRef 121 = .ok (.aload_n 0, 1) := by decide +kernel
theorem dX12_printRef_122 : decode cX12_printRef 122 = .ok (.aload_n 0, 1) := by decide +kernel
theorem dX12_printRef_123 : decode cX12_printRef 123 = .ok (.getfield 62, 3) := by decide +kernel
theorem dX12_printRef_126 : decode cX12_printRef 126 = .ok (.iload_n 2, 1) := by decide +kernel
theorem dX12_printRef_127 : decode cX12_printRef 127 = .ok (.iaload, 1) := by decide +kernel
theorem dX12_printRef_128 : decode cX12_printRef 128 = .ok (.invokevirtual 347, 3) := by decide +kernel
theorem dX12_printRef_131 : decode cX12_printRef 131 = .ok (.iload_n 3, 1) := by decide +kernel
theorem dX12_printRef_132 : decode cX12_printRef 132 = .ok (.ifCond .eq 9, 3) := by decide +kernel
theorem dX12_printRef_135 : decode cX12_printRef 135 = .ok (.aload_n 0, 1) := by decide +kernel
theorem dX12_printRef_136 : decode cX12_printRef 136 = .ok (.bipush 93, 2) := by decide +kernel
theorem dX12_printRef_138 : decode cX12_printRef 138 = .ok (.invokevirtual 344, 3) := by decide +kernel
theorem dX12_printRef_141 : decode cX12_printRef 141 = .ok (.return_, 1) := by decide +kernel
theorem dX12_printEnd_0 : decode cX12_printEnd 0 = .ok (.aload_n 0, 1) := by decide +kernel
theorem dX12_printEnd_1 : decode cX12_printEnd 1 = .ok (.bipush 59, 2) := by decide +kernel
theorem dX12_printEnd_3 : decode cX12_printEnd 3 = .ok (.invokevirtual 344, 3) := by decide +kernel
theorem dX12_printEnd_6 : decode cX12_printEnd 6 = .ok (.aload_n 0, 1) := by decide +kernel
theorem dX12_printEnd_7 : decode cX12_printEnd 7 = .ok (.bipush 10, 2) := by decide +kernel
theorem dX12_printEnd_9 : decode cX12_printEnd 9 = .ok (.invokevirtual 344, 3) := by decide +kernel
theorem dX12_printEnd_12 : decode cX12_printEnd 12 = .ok (.return_, 1) := by decide +kernel
theorem dX12_printLink_0 : decode cX12_printLink 0 = .ok (.iload_n 2, 1) := by decide +kernel
theorem dX12_printLink_1 : decode cX12_printLink 1 = .ok (.iconst (-1), 1) := by decide +kernel
theorem dX12_printLink_2 : decode cX12_printLink 2 = .ok (.if_icmp .ne 12, 3) := by decide +kernel
theorem dX12_printLink_5 : decode cX12_printLink 5 = .ok (.aload_n 0, 1) := by decide +kernel
theorem dX12_printLink_6 : decode cX12_printLink 6 = .ok (.bipush 45, 2) := by decide +kernel
theorem dX12_printLink_8 : decode cX12_printLink 8 = .ok (.invokevirtual 344, 3) := by decide +kernel
theorem dX12_printLink_11 : decode cX12_printLink 11 = .ok (.goto 10, 3) := by decide +kernel
theorem dX12_printLink_14 : decode cX12_printLink 14 = .ok (.aload_n 0, 1) := by decide +kernel
theorem dX12_printLink_15 : decode cX12_printLink 15 = .ok (.iload_n 1, 1) := by decide +kernel
theorem dX12_printLink_16 : decode cX12_printLink 16 = .ok (.iload_n 2, 1) := by decide +kernel
theorem dX12_printLink_17 : decode cX12_printLink 17 = .ok (.iload_n 3, 1) := by decide +kernel
theorem dX12_printLink_18 : decode cX12_printLink 18 = .ok (.invokevirtual 353, 3) := by decide +kernel
theorem dX12_printLink_21 : decode cX12_printLink 21 = .ok (.return_, 1) := by decide +kernel
theorem dX12_printNamed_0 : decode cX12_printNamed 0 = .ok (.aload_n 0, 1) := by decide +kernel
theorem dX12_printNamed_1 : decode cX12_printNamed 1 = .ok (.bipush 46, 2) := by decide +kernel
theorem dX12_printNamed_3 : decode cX12_printNamed 3 = .ok (.invokevirtual 344, 3) := by decide +kernel
theorem dX12_printNamed_6 : decode cX12_printNamed 6 = .ok (.aload_n 0, 1) := by decide +kernel
theorem dX12_printNamed_7 : decode cX12_printNamed 7 = .ok (.iload_n 2, 1) := by decide +kernel
theorem dX12_printNamed_8 : decode cX12_printNamed 8 = .ok (.invokevirtual 350, 3) := by decide +kernel
theorem dX12_printNamed_11 : decode cX12_printNamed 11 = .ok (.aload_n 0, 1) := by decide +kernel
theorem dX12_printNamed_12 : decode cX12_printNamed 12 = .ok (.bipush 40, 2) := by decide +kernel
theorem dX12_printNamed_14 : decode cX12_printNamed 14 = .ok (.invokevirtual 344, 3) := by decide +kernel
theorem dX12_printNamed_17 : decode cX12_printNamed 17 = .ok (.iload_n 3, 1) := by decide +kernel
theorem dX12_printNamed_18 : decode cX12_printNamed 18 = .ok (.iconst (-1), 1) := by decide +kernel
theorem dX12_printNamed_19 : decode cX12_printNamed 19 = .ok (.if_icmp .eq 10, 3) := by decide +kernel
theorem dX12_printNamed_22 : decode cX12_printNamed 22 = .ok (.aload_n 0, 1) := by decide +kernel
theorem dX12_printNamed_23 : decode cX12_printNamed 23 = .ok (.iload_n 1, 1) := by decide +kernel
theorem dX12_printNamed_24 : decode cX12_printNamed 24 = .ok (.iload_n 3, 1) := by decide +kernel
theorem dX12_printNamed_25 : decode cX12_printNamed 25 = .ok (.iconst 1, 1) := by decide +kernel
theorem dX12_printNamed_26 : decode cX12_printNamed 26 = .ok (.invokevirtual 353, 3) := by decide +kernel
theorem dX12_printNamed_29 : decode cX12_printNamed 29 = .ok (.aload_n 0, 1) := by decide +kernel
theorem dX12_printNamed_30 : decode cX12_printNamed 30 = .ok (.bipush 41, 2) := by decide +kernel
theorem dX12_printNamed_32 : decode cX12_printNamed 32 = .ok (.invokevirtual 344, 3) := by decide +kernel
theorem dX12_printNamed_35 : decode cX12_printNamed 35 = .ok (.return_, 1) := by decide +kernel
theorem dX12_longInstanceOut_0 : decode cX12_longInstanceOut 0 = .ok (.aload_n 0, 1) := by decide +kernel
theorem dX12_longInstanceOut_1 : decode cX12_longInstanceOut 1 = .ok (.aload_n 0, 1) := by decide +kernel
theorem dX12_longInstanceOut_2 : decode cX12_longInstanceOut 2 = .ok (.getfield 77, 3) := by decide +kernel
theorem dX12_longInstanceOut_5 : decode cX12_longInstanceOut 5 = .ok (.iload_n 2, 1) := by decide +kernel
theorem dX12_longInstanceOut_6 : decode cX12_longInstanceOut 6 = .ok (.iaload, 1) := by decide +kernel
theorem dX12_longInstanceOut_7 : decode cX12_longInstanceOut 7 = .ok (.invokevirtual 350, 3) := by decide +kernel
theorem dX12_longInstanceOut_10 : decode cX12_longInstanceOut 10 = .ok (.aload_n 0, 1) := by decide +kernel
theorem dX12_longInstanceOut_11 : decode cX12_longInstanceOut 11 = .ok (.bipush 32, 2) := by decide +kernel
theorem dX12_longInstanceOut_13 : decode cX12_longInstanceOut 13 = .ok (.invokevirtual 344, 3) := by decide +kernel
theorem dX12_longInstanceOut_16 : decode cX12_longInstanceOut 16 = .ok (.aload_n 0, 1) := by decide +kernel
theorem dX12_longInstanceOut_17 : decode cX12_longInstanceOut 17 = .ok (.aload_n 0, 1) := by decide +kernel
theorem dX12_longInstanceOut_18 : decode cX12_longInstanceOut 18 = .ok (.getfield 80, 3) := by decide +kernel
theorem dX12_longInstanceOut_21 : decode cX12_longInstanceOut 21 = .ok (.iload_n 2, 1) := by decide +kernel
theorem dX12_longInstanceOut_22 : decode cX12_longInstanceOut 22 = .ok (.iaload, 1) := by decide +kernel
theorem dX12_longInstanceOut_23 : decode cX12_longInstanceOut 23 = .ok (.invokevirtual 350, 3) := by decide +kernel
theorem dX12_longInstanceOut_26 : decode cX12_longInstanceOut 26 = .ok (.aload_n 0, 1) := by decide +kernel
theorem dX12_longInstanceOut_27 : decode cX12_longInstanceOut 27 = .ok (.bipush 40, 2) := by decide +kernel
theorem dX12_longInstanceOut_29 : decode cX12_longInstanceOut 29 = .ok (.invokevirtual 344, 3) := by decide +kernel
theorem dX12_longInstanceOut_32 : decode cX12_longInstanceOut 32 = .ok (.iconst 0, 1) := by decide +kernel
theorem dX12_longInstanceOut_33 : decode cX12_longInstanceOut 33 = .ok (.istore_n 3, 1) := by decide +kernel
theorem dX12_longInstanceOut_34 : decode cX12_longInstanceOut 34 = .ok (.iload_n 3, 1) := by decide +kernel
theorem dX12_longInstanceOut_35 : decode cX12_longInstanceOut 35 = .ok (.aload_n 0, 1) := by decide +kernel
theorem dX12_longInstanceOut_36 : decode cX12_longInstanceOut 36 = .ok (.iload_n 2, 1) := by decide +kernel
theorem dX12_longInstanceOut_37 : decode cX12_longInstanceOut 37 = .ok (.invokevirtual 320, 3) := by decide +kernel
theorem dX12_longInstanceOut_40 : decode cX12_longInstanceOut 40 = .ok (.if_icmp .ge 119, 3) := by decide +kernel
theorem dX12_longInstanceOut_43 : decode cX12_longInstanceOut 43 = .ok (.iload_n 3, 1) := by decide +kernel
theorem dX12_longInstanceOut_44 : decode cX12_longInstanceOut 44 = .ok (.ifCond .le 9, 3) := by decide +kernel
theorem dX12_longInstanceOut_47 : decode cX12_longInstanceOut 47 = .ok (.aload_n 0, 1) := by decide +kernel
theorem dX12_longInstanceOut_48 : decode cX12_longInstanceOut 48 = .ok (.bipush 44, 2) := by decide +kernel
theorem dX12_longInstanceOut_50 : decode cX12_longInstanceOut 50 = .ok (.invokevirtual 344, 3) := by decide +kernel
theorem dX12_longInstanceOut_53 : decode cX12_longInstanceOut 53 = .ok (.aload_n 0, 1) := by decide +kernel
theorem dX12_longInstanceOut_54 : decode cX12_longInstanceOut 54 = .ok (.getfield 86, 3) := by decide +kernel
theorem dX12_longInstanceOut_57 : decode cX12_longInstanceOut 57 = .ok (.iload_n 2, 1) := by decide +kernel
theorem dX12_longInstanceOut_58 : decode cX12_longInstanceOut 58 = .ok (.iaload, 1) := by decide +kernel
theorem dX12_longInstanceOut_59 : decode cX12_longInstanceOut 59 = .ok (.iconst (-1), 1) := by decide +kernel
theorem dX12_longInstanceOut_60 : decode cX12_longInstanceOut 60 = .ok (.if_icmp .eq 37, 3) := by decide +kernel
theorem dX12_longInstanceOut_63 : decode cX12_longInstanceOut 63 = .ok (.aload_n 0, 1) := by decide +kernel
theorem dX12_longInstanceOut_64 : decode cX12_longInstanceOut 64 = .ok (.iload_n 1, 1) := by decide +kernel
theorem dX12_longInstanceOut_65 : decode cX12_longInstanceOut 65 = .ok (.aload_n 0, 1) := by decide +kernel
theorem dX12_longInstanceOut_66 : decode cX12_longInstanceOut 66 = .ok (.getfield 31, 3) := by decide +kernel
theorem dX12_longInstanceOut_69 : decode cX12_longInstanceOut 69 = .ok (.bipush 16, 2) := by decide +kernel
theorem dX12_longInstanceOut_71 : decode cX12_longInstanceOut 71 = .ok (.aload_n 0, 1) := by decide +kernel
theorem dX12_longInstanceOut_72 : decode cX12_longInstanceOut 72 = .ok (.aload_n 0, 1) := by decide +kernel
theorem dX12_longInstanceOut_73 : decode cX12_longInstanceOut 73 = .ok (.getfield 86, 3) := by decide +kernel
theorem dX12_longInstanceOut_76 : decode cX12_longInstanceOut 76 = .ok (.iload_n 2, 1) := by decide +kernel
theorem dX12_longInstanceOut_77 : decode cX12_longInstanceOut 77 = .ok (.iaload, 1) := by decide +kernel
theorem dX12_longInstanceOut_78 : decode cX12_longInstanceOut 78 = .ok (.invokevirtual 311, 3) := by decide +kernel
theorem dX12_longInstanceOut_81 : decode cX12_longInstanceOut 81 = .ok (.imul, 1) := by decide +kernel
theorem dX12_longInstanceOut_82 : decode cX12_longInstanceOut 82 = .ok (.iload_n 3, 1) := by decide +kernel
theorem dX12_longInstanceOut_83 : decode cX12_longInstanceOut 83 = .ok (.iadd, 1) := by decide +kernel
theorem dX12_longInstanceOut_84 : decode cX12_longInstanceOut 84 = .ok (.iaload, 1) := by decide +kernel
theorem dX12_longInstanceOut_85 : decode cX12_longInstanceOut 85 = .ok (.aload_n 0, 1) := by decide +kernel
theorem dX12_longInstanceOut_86 : decode cX12_longInstanceOut 86 = .ok (.iload_n 2, 1) := by decide +kernel
theorem dX12_longInstanceOut_87 : decode cX12_longInstanceOut 87 = .ok (.iload_n 3, 1) := by decide +kernel
theorem dX12_longInstanceOut_88 : decode cX12_longInstanceOut 88 = .ok (.invokevirtual 329, 3) := by decide +kernel
theorem dX12_longInstanceOut_91 : decode cX12_longInstanceOut 91 = .ok (.invokevirtual 356, 3) := by decide +kernel
theorem dX12_longInstanceOut_94 : decode cX12_longInstanceOut 94 = .ok (.goto 59, 3) := by decide +kernel
theorem dX12_longInstanceOut_97 : decode cX12_longInstanceOut 97 = .ok (.aload_n 0, 1) := by decide +kernel
theorem dX12_longInstanceOut_98 : decode cX12_longInstanceOut 98 = .ok (.getfield 83, 3) := by decide +kernel
theorem dX12_longInstanceOut_101 : decode cX12_longInstanceOut 101 = .ok (.iload_n 2, 1) := by decide +kernel
theorem dX12_longInstanceOut_102 : decode cX12_longInstanceOut 102 = .ok (.baload, 1) := by decide +kernel
theorem dX12_longInstanceOut_103 : decode cX12_longInstanceOut 103 = .ok (.ifCond .eq 33, 3) := by decide +kernel
theorem dX12_longInstanceOut_106 : decode cX12_longInstanceOut 106 = .ok (.aload_n 0, 1) := by decide +kernel
theorem dX12_longInstanceOut_107 : decode cX12_longInstanceOut 107 = .ok (.iload_n 1, 1) := by decide +kernel
theorem dX12_longInstanceOut_108 : decode cX12_longInstanceOut 108 = .ok (.aload_n 0, 1) := by decide +kernel
theorem dX12_longInstanceOut_109 : decode cX12_longInstanceOut 109 = .ok (.getfield 95, 3) := by decide +kernel
theorem dX12_longInstanceOut_112 : decode cX12_longInstanceOut 112 = .ok (.bipush 16, 2) := by decide +kernel
theorem dX12_longInstanceOut_114 : decode cX12_longInstanceOut 114 = .ok (.iload_n 2, 1) := by decide +kernel
theorem dX12_longInstanceOut_115 : decode cX12_longInstanceOut 115 = .ok (.imul, 1) := by decide +kernel
theorem dX12_longInstanceOut_116 : decode cX12_longInstanceOut 116 = .ok (.iload_n 3, 1) := by decide +kernel
theorem dX12_longInstanceOut_117 : decode cX12_longInstanceOut 117 = .ok (.iadd, 1) := by decide +kernel
theorem dX12_longInstanceOut_118 : decode cX12_longInstanceOut 118 = .ok (.iaload, 1) := by decide +kernel
theorem dX12_longInstanceOut_119 : decode cX12_longInstanceOut 119 = .ok (.aload_n 0, 1) := by decide +kernel
theorem dX12_longInstanceOut_120 : decode cX12_longInstanceOut 120 = .ok (.getfield 92, 3) := by decide +kernel
theorem dX12_longInstanceOut_123 : decode cX12_longInstanceOut 123 = .ok (.bipush 16, 2) := by decide +kernel
theorem dX12_longInstanceOut_125 : decode cX12_longInstanceOut 125 = .ok (.iload_n 2, 1) := by decide +kernel
theorem dX12_longInstanceOut_126 : decode cX12_longInstanceOut 126 = .ok (.imul, 1) := by decide +kernel
theorem dX12_longInstanceOut_127 : decode cX12_longInstanceOut 127 = .ok (.iload_n 3, 1) := by decide +kernel
theorem dX12_longInstanceOut_128 : decode cX12_longInstanceOut 128 = .ok (.iadd, 1) := by decide +kernel
theorem dX12_longInstanceOut_129 : decode cX12_longInstanceOut 129 = .ok (.iaload, 1) := by decide +kernel
theorem dX12_longInstanceOut_130 : decode cX12_longInstanceOut 130 = .ok (.invokevirtual 356, 3) := by decide +kernel
theorem dX12_longInstanceOut_133 : decode cX12_longInstanceOut 133 = .ok (.goto 20, 3) := by decide +kernel
theorem dX12_longInstanceOut_136 : decode cX12_longInstanceOut 136 = .ok (.aload_n 0, 1) := by decide +kernel
theorem dX12_longInstanceOut_137 : decode cX12_longInstanceOut 137 = .ok (.iload_n 1, 1) := by decide +kernel
theorem dX12_longInstanceOut_138 : decode cX12_longInstanceOut 138 = .ok (.aload_n 0, 1) := by decide +kernel
theorem dX12_longInstanceOut_139 : decode cX12_longInstanceOut 139 = .ok (.getfield 92, 3) := by decide +kernel
theorem dX12_longInstanceOut_142 : decode cX12_longInstanceOut 142 = .ok (.bipush 16, 2) := by decide +kernel
theorem dX12_longInstanceOut_144 : decode cX12_longInstanceOut 144 = .ok (.iload_n 2, 1) := by decide +kernel
theorem dX12_longInstanceOut_145 : decode cX12_longInstanceOut 145 = .ok (.imul, 1) := by decide +kernel
theorem dX12_longInstanceOut_146 : decode cX12_longInstanceOut 146 = .ok (.iload_n 3, 1) := by decide +kernel
theorem dX12_longInstanceOut_147 : decode cX12_longInstanceOut 147 = .ok (.iadd, 1) := by decide +kernel
theorem dX12_longInstanceOut_148 : decode cX12_longInstanceOut 148 = .ok (.iaload, 1) := by decide +kernel
theorem dX12_longInstanceOut_149 : decode cX12_longInstanceOut 149 = .ok (.iconst 1, 1) := by decide +kernel
theorem dX12_longInstanceOut_150 : decode cX12_longInstanceOut 150 = .ok (.invokevirtual 360, 3) := by decide +kernel
theorem dX12_longInstanceOut_153 : decode cX12_longInstanceOut 153 = .ok (.iinc 3 1, 3) := by decide +kernel
theorem dX12_longInstanceOut_156 : decode cX12_longInstanceOut 156 = .ok (.goto (-122), 3) := by decide +kernel
theorem dX12_longInstanceOut_159 : decode cX12_longInstanceOut 159 = .ok (.aload_n 0, 1) := by decide +kernel
theorem dX12_longInstanceOut_160 : decode cX12_longInstanceOut 160 = .ok (.bipush 41, 2) := by decide +kernel
theorem dX12_longInstanceOut_162 : decode cX12_longInstanceOut 162 = .ok (.invokevirtual 344, 3) := by decide +kernel
theorem dX12_longInstanceOut_165 : decode cX12_longInstanceOut 165 = .ok (.aload_n 0, 1) := by decide +kernel
theorem dX12_longInstanceOut_166 : decode cX12_longInstanceOut 166 = .ok (.invokevirtual 363, 3) := by decide +kernel
theorem dX12_longInstanceOut_169 : decode cX12_longInstanceOut 169 = .ok (.return_, 1) := by decide +kernel
theorem dX12_longOut_0 : decode cX12_longOut 0 = .ok (.aload_n 0, 1) := by decide +kernel
theorem dX12_longOut_1 : decode cX12_longOut 1 = .ok (.bipush 109, 2) := by decide +kernel
theorem dX12_longOut_3 : decode cX12_longOut 3 = .ok (.bipush 111, 2) := by decide +kernel
theorem dX12_longOut_5 : decode cX12_longOut 5 = .ok (.bipush 100, 2) := by decide +kernel
theorem dX12_longOut_7 : decode cX12_longOut 7 = .ok (.bipush 117, 2) := by decide +kernel
theorem dX12_longOut_9 : decode cX12_longOut 9 = .ok (.invokevirtual 366, 3) := by decide +kernel
theorem dX12_longOut_12 : decode cX12_longOut 12 = .ok (.aload_n 0, 1) := by decide +kernel
theorem dX12_longOut_13 : decode cX12_longOut 13 = .ok (.bipush 108, 2) := by decide +kernel
theorem dX12_longOut_15 : decode cX12_longOut 15 = .ok (.bipush 101, 2) := by decide +kernel
theorem dX12_longOut_17 : decode cX12_longOut 17 = .ok (.bipush 32, 2) := by decide +kernel
theorem dX12_longOut_19 : decode cX12_longOut 19 = .ok (.iconst 0, 1) := by decide +kernel
theorem dX12_longOut_20 : decode cX12_longOut 20 = .ok (.invokevirtual 366, 3) := by decide +kernel
theorem dX12_longOut_23 : decode cX12_longOut 23 = .ok (.aload_n 0, 1) := by decide +kernel
theorem dX12_longOut_24 : decode cX12_longOut 24 = .ok (.aload_n 0, 1) := by decide +kernel
theorem dX12_longOut_25 : decode cX12_longOut 25 = .ok (.getfield 22, 3) := by decide +kernel
theorem dX12_longOut_28 : decode cX12_longOut 28 = .ok (.iload_n 1, 1) := by decide +kernel
theorem dX12_longOut_29 : decode cX12_longOut 29 = .ok (.iaload, 1) := by decide +kernel
theorem dX12_longOut_30 : decode cX12_longOut 30 = .ok (.invokevirtual 350, 3) := by decide +kernel
theorem dX12_longOut_33 : decode cX12_longOut 33 = .ok (.aload_n 0, 1) := by decide +kernel
theorem dX12_longOut_34 : decode cX12_longOut 34 = .ok (.bipush 40, 2) := by decide +kernel
theorem dX12_longOut_36 : decode cX12_longOut 36 = .ok (.invokevirtual 344, 3) := by decide +kernel
theorem dX12_longOut_39 : decode cX12_longOut 39 = .ok (.iconst 0, 1) := by decide +kernel
theorem dX12_longOut_40 : decode cX12_longOut 40 = .ok (.istore_n 2, 1) := by decide +kernel
theorem dX12_longOut_41 : decode cX12_longOut 41 = .ok (.iload_n 2, 1) := by decide +kernel
theorem dX12_longOut_42 : decode cX12_longOut 42 = .ok (.aload_n 0, 1) := by decide +kernel
theorem dX12_longOut_43 : decode cX12_longOut 43 = .ok (.getfield 25, 3) := by decide +kernel
theorem dX12_longOut_46 : decode cX12_longOut 46 = .ok (.iload_n 1, 1) := by decide +kernel
theorem dX12_longOut_47 : decode cX12_longOut 47 = .ok (.iaload, 1) := by decide +kernel
theorem dX12_longOut_48 : decode cX12_longOut 48 = .ok (.if_icmp .ge 34, 3) := by decide +kernel
theorem dX12_longOut_51 : decode cX12_longOut 51 = .ok (.iload_n 2, 1) := by decide +kernel
theorem dX12_longOut_52 : decode cX12_longOut 52 = .ok (.ifCond .le 9, 3) := by decide +kernel
theorem dX12_longOut_55 : decode cX12_longOut 55 = .ok (.aload_n 0, 1) := by decide +kernel
theorem dX12_longOut_56 : decode cX12_longOut 56 = .ok (.bipush 44, 2) := by decide +kernel
theorem dX12_longOut_58 : decode cX12_longOut 58 = .ok (.invokevirtual 344, 3) := by decide +kernel
theorem dX12_longOut_61 : decode cX12_longOut 61 = .ok (.aload_n 0, 1) := by decide +kernel
theorem dX12_longOut_62 : decode cX12_longOut 62 = .ok (.aload_n 0, 1) := by decide +kernel
theorem dX12_longOut_63 : decode cX12_longOut 63 = .ok (.getfield 31, 3) := by decide +kernel
theorem dX12_longOut_66 : decode cX12_longOut 66 = .ok (.bipush 16, 2) := by decide +kernel
theorem dX12_longOut_68 : decode cX12_longOut 68 = .ok (.iload_n 1, 1) := by decide +kernel
theorem dX12_longOut_69 : decode cX12_longOut 69 = .ok (.imul, 1) := by decide +kernel
theorem dX12_longOut_70 : decode cX12_longOut 70 = .ok (.iload_n 2, 1) := by decide +kernel
theorem dX12_longOut_71 : decode cX12_longOut 71 = .ok (.iadd, 1) := by decide +kernel
theorem dX12_longOut_72 : decode cX12_longOut 72 = .ok (.iaload, 1) := by decide +kernel
theorem dX12_longOut_73 : decode cX12_longOut 73 = .ok (.invokevirtual 350, 3) := by decide +kernel
theorem dX12_longOut_76 : decode cX12_longOut 76 = .ok (.iinc 2 1, 3) := by decide +kernel
theorem dX12_longOut_79 : decode cX12_longOut 79 = .ok (.goto (-38), 3) := by decide +kernel
theorem dX12_longOut_82 : decode cX12_longOut 82 = .ok (.aload_n 0, 1) := by decide +kernel
theorem dX12_longOut_83 : decode cX12_longOut 83 = .ok (.bipush 41, 2) := by decide +kernel
theorem dX12_longOut_85 : decode cX12_longOut 85 = .ok (.invokevirtual 344, 3) := by decide +kernel
theorem dX12_longOut_88 : decode cX12_longOut 88 = .ok (.aload_n 0, 1) := by decide +kernel
theorem dX12_longOut_89 : decode cX12_longOut 89 = .ok (.invokevirtual 363, 3) := by decide +kernel
theorem dX12_longOut_92 : decode cX12_longOut 92 = .ok (.iconst 0, 1) := by decide +kernel
theorem dX12_longOut_93 : decode cX12_longOut 93 = .ok (.istore_n 2, 1) := by decide +kernel
theorem dX12_longOut_94 : decode cX12_longOut 94 = .ok (.iload_n 2, 1) := by decide +kernel
theorem dX12_longOut_95 : decode cX12_longOut 95 = .ok (.aload_n 0, 1) := by decide +kernel
theorem dX12_longOut_96 : decode cX12_longOut 96 = .ok (.getfield 28, 3) := by decide +kernel
theorem dX12_longOut_99 : decode cX12_longOut 99 = .ok (.iload_n 1, 1) := by decide +kernel
theorem dX12_longOut_100 : decode cX12_longOut 100 = .ok (.iaload, 1) := by decide +kernel
theorem dX12_longOut_101 : decode cX12_longOut 101 = .ok (.if_icmp .ge 160, 3) := by decide +kernel
theorem dX12_longOut_104 : decode cX12_longOut 104 = .ok (.bipush 16, 2) := by decide +kernel
theorem dX12_longOut_106 : decode cX12_longOut 106 = .ok (.iload_n 1, 1) := by decide +kernel
theorem dX12_longOut_107 : decode cX12_longOut 107 = .ok (.imul, 1) := by decide +kernel
theorem dX12_longOut_108 : decode cX12_longOut 108 = .ok (.iload_n 2, 1) := by decide +kernel
theorem dX12_longOut_109 : decode cX12_longOut 109 = .ok (.iadd, 1) := by decide +kernel
theorem dX12_longOut_110 : decode cX12_longOut 110 = .ok (.istore_n 3, 1) := by decide +kernel
theorem dX12_longOut_111 : decode cX12_longOut 111 = .ok (.aload_n 0, 1) := by decide +kernel
theorem dX12_longOut_112 : decode cX12_longOut 112 = .ok (.getfield 34, 3) := by decide +kernel
theorem dX12_longOut_115 : decode cX12_longOut 115 = .ok (.iload_n 3, 1) := by decide +kernel
theorem dX12_longOut_116 : decode cX12_longOut 116 = .ok (.iaload, 1) := by decide +kernel
theorem dX12_longOut_117 : decode cX12_longOut 117 = .ok (.ifCond .ne 30, 3) := by decide +kernel
theorem dX12_longOut_120 : decode cX12_longOut 120 = .ok (.aload_n 0, 1) := by decide +kernel
theorem dX12_longOut_121 : decode cX12_longOut 121 = .ok (.bipush 105, 2) := by decide +kernel
theorem dX12_longOut_123 : decode cX12_longOut 123 = .ok (.bipush 110, 2) := by decide +kernel
theorem dX12_longOut_125 : decode cX12_longOut 125 = .ok (.bipush 112, 2) := by decide +kernel
theorem dX12_longOut_127 : decode cX12_longOut 127 = .ok (.bipush 117, 2) := by decide +kernel
theorem dX12_longOut_129 : decode cX12_longOut 129 = .ok (.invokevirtual 366, 3) := by decide +kernel
theorem dX12_longOut_132 : decode cX12_longOut 132 = .ok (.aload_n 0, 1) := by decide +kernel
theorem dX12_longOut_133 : decode cX12_longOut 133 = .ok (.bipush 116, 2) := by decide +kernel
theorem dX12_longOut_135 : decode cX12_longOut 135 = .ok (.invokevirtual 344, 3) := by decide +kernel
theorem dX12_longOut_138 : decode cX12_longOut 138 = .ok (.aload_n 0, 1) := by decide +kernel
theorem dX12_longOut_139 : decode cX12_longOut 139 = .ok (.bipush 32, 2) := by decide +kernel
theorem dX12_longOut_141 : decode cX12_longOut 141 = .ok (.invokevirtual 344, 3) := by decide +kernel
theorem dX12_longOut_144 : decode cX12_longOut 144 = .ok (.goto 57, 3) := by decide +kernel
theorem dX12_longOut_147 : decode cX12_longOut 147 = .ok (.aload_n 0, 1) := by decide +kernel
theorem dX12_longOut_148 : decode cX12_longOut 148 = .ok (.getfield 34, 3) := by decide +kernel
theorem dX12_longOut_151 : decode cX12_longOut 151 = .ok (.iload_n 3, 1) := by decide +kernel
theorem dX12_longOut_152 : decode cX12_longOut 152 = .ok (.iaload, 1) := by decide +kernel
theorem dX12_longOut_153 : decode cX12_longOut 153 = .ok (.iconst 1, 1) := by decide +kernel
theorem dX12_longOut_154 : decode cX12_longOut 154 = .ok (.if_icmp .ne 29, 3) := by decide +kernel
theorem dX12_longOut_157 : decode cX12_longOut 157 = .ok (.aload_n 0, 1) := by decide +kernel
theorem dX12_longOut_158 : decode cX12_longOut 158 = .ok (.bipush 111, 2) := by decide +kernel
theorem dX12_longOut_160 : decode cX12_longOut 160 = .ok (.bipush 117, 2) := by decide +kernel
theorem dX12_longOut_162 : decode cX12_longOut 162 = .ok (.bipush 116, 2) := by decide +kernel
theorem dX12_longOut_164 : decode cX12_longOut 164 = .ok (.bipush 112, 2) := by decide +kernel
theorem dX12_longOut_166 : decode cX12_longOut 166 = .ok (.invokevirtual 366, 3) := by decide +kernel
theorem dX12_longOut_169 : decode cX12_longOut 169 = .ok (.aload_n 0, 1) := by decide +kernel
theorem dX12_longOut_170 : decode cX12_longOut 170 = .ok (.bipush 117, 2) := by decide +kernel
theorem dX12_longOut_172 : decode cX12_longOut 172 = .ok (.bipush 116, 2) := by decide +kernel
theorem dX12_longOut_174 : decode cX12_longOut 174 = .ok (.bipush 32, 2) := by decide +kernel
theorem dX12_longOut_176 : decode cX12_longOut 176 = .ok (.iconst 0, 1) := by decide +kernel
theorem dX12_longOut_177 : decode cX12_longOut 177 = .ok (.invokevirtual 366, 3) := by decide +kernel
theorem dX12_longOut_180 : decode cX12_longOut 180 = .ok (.goto 21, 3) := by decide +kernel
theorem dX12_longOut_183 : decode cX12_longOut 183 = .ok (.aload_n 0, 1) := by decide +kernel
theorem dX12_longOut_184 : decode cX12_longOut 184 = .ok (.bipush 119, 2) := by decide +kernel
theorem dX12_longOut_186 : decode cX12_longOut 186 = .ok (.bipush 105, 2) := by decide +kernel
theorem dX12_longOut_188 : decode cX12_longOut 188 = .ok (.bipush 114, 2) := by decide +kernel
theorem dX12_longOut_190 : decode cX12_longOut 190 = .ok (.bipush 101, 2) := by decide +kernel
theorem dX12_longOut_192 : decode cX12_longOut 192 = .ok (.invokevirtual 366, 3) := by decide +kernel
theorem dX12_longOut_195 : decode cX12_longOut 195 = .ok (.aload_n 0, 1) := by decide +kernel
theorem dX12_longOut_196 : decode cX12_longOut 196 = .ok (.bipush 32, 2) := by decide +kernel
theorem dX12_longOut_198 : decode cX12_longOut 198 = .ok (.invokevirtual 344, 3) := by decide +kernel
theorem dX12_longOut_201 : decode cX12_longOut 201 = .ok (.aload_n 0, 1) := by decide +kernel
theorem dX12_longOut_202 : decode cX12_longOut 202 = .ok (.getfield 37, 3) := by decide +kernel
theorem dX12_longOut_205 : decode cX12_longOut 205 = .ok (.iload_n 3, 1) := by decide +kernel
theorem dX12_longOut_206 : decode cX12_longOut 206 = .ok (.iaload, 1) := by decide +kernel
theorem dX12_longOut_207 : decode cX12_longOut 207 = .ok (.iconst 1, 1) := by decide +kernel
theorem dX12_longOut_208 : decode cX12_longOut 208 = .ok (.if_icmp .le 33, 3) := by decide +kernel
theorem dX12_longOut_211 : decode cX12_longOut 211 = .ok (.aload_n 0, 1) := by decide +kernel
theorem dX12_longOut_212 : decode cX12_longOut 212 = .ok (.bipush 91, 2) := by decide +kernel
theorem dX12_longOut_214 : decode cX12_longOut 214 = .ok (.invokevirtual 344, 3) := by decide +kernel
theorem dX12_longOut_217 : decode cX12_longOut 217 = .ok (.aload_n 0, 1) := by decide +kernel
theorem dX12_longOut_218 : decode cX12_longOut 218 = .ok (.aload_n 0, 1) := by decide +kernel
theorem dX12_longOut_219 : decode cX12_longOut 219 = .ok (.getfield 37, 3) := by decide +kernel
theorem dX12_longOut_222 : decode cX12_longOut 222 = .ok (.iload_n 3, 1) := by decide +kernel
theorem dX12_longOut_223 : decode cX12_longOut 223 = .ok (.iaload, 1) := by decide +kernel
theorem dX12_longOut_224 : decode cX12_longOut 224 = .ok (.iconst 1, 1) := by decide +kernel
theorem dX12_longOut_225 : decode cX12_longOut 225 = .ok (.isub, 1) := by decide +kernel
theorem dX12_longOut_226 : decode cX12_longOut 226 = .ok (.invokevirtual 347, 3) := by decide +kernel
theorem dX12_longOut_229 : decode cX12_longOut 229 = .ok (.aload_n 0, 1) := by decide +kernel
theorem dX12_longOut_230 : decode cX12_longOut 230 = .ok (.bipush 58, 2) := by decide +kernel
theorem dX12_longOut_232 : decode cX12_longOut 232 = .ok (.bipush 48, 2) := by decide +kernel
theorem dX12_longOut_234 : decode cX12_longOut 234 = .ok (.bipush 93, 2) := by decide +kernel
theorem dX12_longOut_236 : decode cX12_longOut 236 = .ok (.bipush 32, 2) := by decide +kernel
theorem dX12_longOut_238 : decode cX12_longOut 238 = .ok (.invokevirtual 366, 3) := by decide +kernel
theorem dX12_longOut_241 : decode cX12_longOut 241 = .ok (.aload_n 0, 1) := by decide +kernel
theorem dX12_longOut_242 : decode cX12_longOut 242 = .ok (.aload_n 0, 1) := by decide +kernel
theorem dX12_longOut_243 : decode cX12_longOut 243 = .ok (.getfield 31, 3) := by decide +kernel
theorem dX12_longOut_246 : decode cX12_longOut 246 = .ok (.iload_n 3, 1) := by decide +kernel
theorem dX12_longOut_247 : decode cX12_longOut 247 = .ok (.iaload, 1) := by decide +kernel
theorem dX12_longOut_248 : decode cX12_longOut 248 = .ok (.invokevirtual 350, 3) := by decide +kernel
theorem dX12_longOut_251 : decode cX12_longOut 251 = .ok (.aload_n 0, 1) := by decide +kernel
theorem dX12_longOut_252 : decode cX12_longOut 252 = .ok (.invokevirtual 363, 3) := by decide +kernel
theorem dX12_longOut_255 : decode cX12_longOut 255 = .ok (.iinc 2 1, 3) := by decide +kernel
theorem dX12_longOut_258 : decode cX12_longOut 258 = .ok (.goto (-164), 3) := by decide +kernel
theorem dX12_longOut_261 : decode cX12_longOut 261 = .ok (.iconst 0, 1) := by decide +kernel
theorem dX12_longOut_262 : decode cX12_longOut 262 = .ok (.istore_n 2, 1) := by decide +kernel
theorem dX12_longOut_263 : decode cX12_longOut 263 = .ok (.iload_n 2, 1) := by decide +kernel
theorem dX12_longOut_264 : decode cX12_longOut 264 = .ok (.aload_n 0, 1) := by decide +kernel
theorem dX12_longOut_265 : decode cX12_longOut 265 = .ok (.getfield 65, 3) := by decide +kernel
theorem dX12_longOut_268 : decode cX12_longOut 268 = .ok (.iload_n 1, 1) := by decide +kernel
theorem dX12_longOut_269 : decode cX12_longOut 269 = .ok (.iaload, 1) := by decide +kernel
theorem dX12_longOut_270 : decode cX12_longOut 270 = .ok (.if_icmp .ge 76, 3) := by decide +kernel
theorem dX12_longOut_273 : decode cX12_longOut 273 = .ok (.aload_n 0, 1) := by decide +kernel
theorem dX12_longOut_274 : decode cX12_longOut 274 = .ok (.bipush 97, 2) := by decide +kernel
theorem dX12_longOut_276 : decode cX12_longOut 276 = .ok (.bipush 115, 2) := by decide +kernel
theorem dX12_longOut_278 : decode cX12_longOut 278 = .ok (.bipush 115, 2) := by decide +kernel
theorem dX12_longOut_280 : decode cX12_longOut 280 = .ok (.bipush 105, 2) := by decide +kernel
theorem dX12_longOut_282 : decode cX12_longOut 282 = .ok (.invokevirtual 366, 3) := by decide +kernel
theorem dX12_longOut_285 : decode cX12_longOut 285 = .ok (.aload_n 0, 1) := by decide +kernel
theorem dX12_longOut_286 : decode cX12_longOut 286 = .ok (.bipush 103, 2) := by decide +kernel
theorem dX12_longOut_288 : decode cX12_longOut 288 = .ok (.bipush 110, 2) := by decide +kernel
theorem dX12_longOut_290 : decode cX12_longOut 290 = .ok (.bipush 32, 2) := by decide +kernel
theorem dX12_longOut_292 : decode cX12_longOut 292 = .ok (.iconst 0, 1) := by decide +kernel
theorem dX12_longOut_293 : decode cX12_longOut 293 = .ok (.invokevirtual 366, 3) := by decide +kernel
theorem dX12_longOut_296 : decode cX12_longOut 296 = .ok (.aload_n 0, 1) := by decide +kernel
theorem dX12_longOut_297 : decode cX12_longOut 297 = .ok (.iload_n 1, 1) := by decide +kernel
theorem dX12_longOut_298 : decode cX12_longOut 298 = .ok (.aload_n 0, 1) := by decide +kernel
theorem dX12_longOut_299 : decode cX12_longOut 299 = .ok (.getfield 68, 3) := by decide +kernel
theorem dX12_longOut_302 : decode cX12_longOut 302 = .ok (.bipush 8, 2) := by decide +kernel
theorem dX12_longOut_304 : decode cX12_longOut 304 = .ok (.iload_n 1, 1) := by decide +kernel
theorem dX12_longOut_305 : decode cX12_longOut 305 = .ok (.imul, 1) := by decide +kernel
theorem dX12_longOut_306 : decode cX12_longOut 306 = .ok (.iload_n 2, 1) := by decide +kernel
theorem dX12_longOut_307 : decode cX12_longOut 307 = .ok (.iadd, 1) := by decide +kernel
theorem dX12_longOut_308 : decode cX12_longOut 308 = .ok (.iaload, 1) := by decide +kernel
theorem dX12_longOut_309 : decode cX12_longOut 309 = .ok (.iconst 1, 1) := by decide +kernel
theorem dX12_longOut_310 : decode cX12_longOut 310 = .ok (.invokevirtual 353, 3) := by decide +kernel
theorem dX12_longOut_313 : decode cX12_longOut 313 = .ok (.aload_n 0, 1) := by decide +kernel
theorem dX12_longOut_314 : decode cX12_longOut 314 = .ok (.bipush 61, 2) := by decide +kernel
theorem dX12_longOut_316 : decode cX12_longOut 316 = .ok (.invokevirtual 344, 3) := by decide +kernel
theorem dX12_longOut_319 : decode cX12_longOut 319 = .ok (.aload_n 0, 1) := by decide +kernel
theorem dX12_longOut_320 : decode cX12_longOut 320 = .ok (.iload_n 1, 1) := by decide +kernel
theorem dX12_longOut_321 : decode cX12_longOut 321 = .ok (.aload_n 0, 1) := by decide +kernel
theorem dX12_longOut_322 : decode cX12_longOut 322 = .ok (.getfield 71, 3) := by decide +kernel
theorem dX12_longOut_325 : decode cX12_longOut 325 = .ok (.bipush 8, 2) := by decide +kernel
theorem dX12_longOut_327 : decode cX12_longOut 327 = .ok (.iload_n 1, 1) := by decide +kernel
theorem dX12_longOut_328 : decode cX12_longOut 328 = .ok (.imul, 1) := by decide +kernel
theorem dX12_longOut_329 : decode cX12_longOut 329 = .ok (.iload_n 2, 1) := by decide +kernel
theorem dX12_longOut_330 : decode cX12_longOut 330 = .ok (.iadd, 1) := by decide +kernel
theorem dX12_longOut_331 : decode cX12_longOut 331 = .ok (.iaload, 1) := by decide +kernel
theorem dX12_longOut_332 : decode cX12_longOut 332 = .ok (.iconst 1, 1) := by decide +kernel
theorem dX12_longOut_333 : decode cX12_longOut 333 = .ok (.invokevirtual 353, 3) := by decide +kernel
theorem dX12_longOut_336 : decode cX12_longOut 336 = .ok (.aload_n 0, 1) := by decide +kernel
theorem dX12_longOut_337 : decode cX12_longOut 337 = .ok (.invokevirtual 363, 3) := by decide +kernel
theorem dX12_longOut_340 : decode cX12_longOut 340 = .ok (.iinc 2 1, 3) := by decide +kernel
theorem dX12_longOut_343 : decode cX12_longOut 343 = .ok (.goto (-80), 3) := by decide +kernel
theorem dX12_longOut_346 : decode cX12_longOut 346 = .ok (.iconst 0, 1) := by decide +kernel
theorem dX12_longOut_347 : decode cX12_longOut 347 = .ok (.istore_n 2, 1) := by decide +kernel
theorem dX12_longOut_348 : decode cX12_longOut 348 = .ok (.iload_n 2, 1) := by decide +kernel
theorem dX12_longOut_349 : decode cX12_longOut 349 = .ok (.aload_n 0, 1) := by decide +kernel
theorem dX12_longOut_350 : decode cX12_longOut 350 = .ok (.getfield 74, 3) := by decide +kernel
theorem dX12_longOut_353 : decode cX12_longOut 353 = .ok (.iload_n 1, 1) := by decide +kernel
theorem dX12_longOut_354 : decode cX12_longOut 354 = .ok (.iaload, 1) := by decide +kernel
theorem dX12_longOut_355 : decode cX12_longOut 355 = .ok (.if_icmp .ge 20, 3) := by decide +kernel
theorem dX12_longOut_358 : decode cX12_longOut 358 = .ok (.aload_n 0, 1) := by decide +kernel
theorem dX12_longOut_359 : decode cX12_longOut 359 = .ok (.iload_n 1, 1) := by decide +kernel
theorem dX12_longOut_360 : decode cX12_longOut 360 = .ok (.bipush 12, 2) := by decide +kernel
theorem dX12_longOut_362 : decode cX12_longOut 362 = .ok (.iload_n 1, 1) := by decide +kernel
theorem dX12_longOut_363 : decode cX12_longOut 363 = .ok (.imul, 1) := by decide +kernel
theorem dX12_longOut_364 : decode cX12_longOut 364 = .ok (.iload_n 2, 1) := by decide +kernel
theorem dX12_longOut_365 : decode cX12_longOut 365 = .ok (.iadd, 1) := by decide +kernel
theorem dX12_longOut_366 : decode cX12_longOut 366 = .ok (.invokevirtual 370, 3) := by decide +kernel
theorem dX12_longOut_369 : decode cX12_longOut 369 = .ok (.iinc 2 1, 3) := by decide +kernel
theorem dX12_longOut_372 : decode cX12_longOut 372 = .ok (.goto (-24), 3) := by decide +kernel
theorem dX12_longOut_375 : decode cX12_longOut 375 = .ok (.aload_n 0, 1) := by decide +kernel
theorem dX12_longOut_376 : decode cX12_longOut 376 = .ok (.bipush 101, 2) := by decide +kernel
theorem dX12_longOut_378 : decode cX12_longOut 378 = .ok (.bipush 110, 2) := by decide +kernel
theorem dX12_longOut_380 : decode cX12_longOut 380 = .ok (.bipush 100, 2) := by decide +kernel
theorem dX12_longOut_382 : decode cX12_longOut 382 = .ok (.bipush 10, 2) := by decide +kernel
theorem dX12_longOut_384 : decode cX12_longOut 384 = .ok (.invokevirtual 366, 3) := by decide +kernel
theorem dX12_longOut_387 : decode cX12_longOut 387 = .ok (.return_, 1) := by decide +kernel
theorem dX12_shortOut_0 : decode cX12_shortOut 0 = .ok (.aload_n 0, 1) := by decide +kernel
theorem dX12_shortOut_1 : decode cX12_shortOut 1 = .ok (.bipush 109, 2) := by decide +kernel
theorem dX12_shortOut_3 : decode cX12_shortOut 3 = .ok (.invokevirtual 344, 3) := by decide +kernel
theorem dX12_shortOut_6 : decode cX12_shortOut 6 = .ok (.aload_n 0, 1) := by decide +kernel
theorem dX12_shortOut_7 : decode cX12_shortOut 7 = .ok (.bipush 32, 2) := by decide +kernel
theorem dX12_shortOut_9 : decode cX12_shortOut 9 = .ok (.invokevirtual 344, 3) := by decide +kernel
theorem dX12_shortOut_12 : decode cX12_shortOut 12 = .ok (.aload_n 0, 1) := by decide +kernel
theorem dX12_shortOut_13 : decode cX12_shortOut 13 = .ok (.aload_n 0, 1) := by decide +kernel
theorem dX12_shortOut_14 : decode cX12_shortOut 14 = .ok (.getfield 22, 3) := by decide +kernel
theorem dX12_shortOut_17 : decode cX12_shortOut 17 = .ok (.iload_n 1, 1) := by decide +kernel
theorem dX12_shortOut_18 : decode cX12_shortOut 18 = .ok (.iaload, 1) := by decide +kernel
theorem dX12_shortOut_19 : decode cX12_shortOut 19 = .ok (.invokevirtual 350, 3) := by decide +kernel
theorem dX12_shortOut_22 : decode cX12_shortOut 22 = .ok (.aload_n 0, 1) := by decide +kernel
theorem dX12_shortOut_23 : decode cX12_shortOut 23 = .ok (.invokevirtual 363, 3) := by decide +kernel
theorem dX12_shortOut_26 : decode cX12_shortOut 26 = .ok (.iconst 0, 1) := by decide +kernel
theorem dX12_shortOut_27 : decode cX12_shortOut 27 = .ok (.istore_n 2, 1) := by decide +kernel
theorem dX12_shortOut_28 : decode cX12_shortOut 28 = .ok (.iload_n 2, 1) := by decide +kernel
theorem dX12_shortOut_29 : decode cX12_shortOut 29 = .ok (.aload_n 0, 1) := by decide +kernel
theorem dX12_shortOut_30 : decode cX12_shortOut 30 = .ok (.getfield 28, 3) := by decide +kernel
theorem dX12_shortOut_33 : decode cX12_shortOut 33 = .ok (.iload_n 1, 1) := by decide +kernel
theorem dX12_shortOut_34 : decode cX12_shortOut 34 = .ok (.iaload, 1) := by decide +kernel
theorem dX12_shortOut_35 : decode cX12_shortOut 35 = .ok (.if_icmp .ge 87, 3) := by decide +kernel
theorem dX12_shortOut_38 : decode cX12_shortOut 38 = .ok (.bipush 16, 2) := by decide +kernel
theorem dX12_shortOut_40 : decode cX12_shortOut 40 = .ok (.iload_n 1, 1) := by decide +kernel
theorem dX12_shortOut_41 : decode cX12_shortOut 41 = .ok (.imul, 1) := by decide +kernel
theorem dX12_shortOut_42 : decode cX12_shortOut 42 = .ok (.iload_n 2, 1) := by decide +kernel
theorem dX12_shortOut_43 : decode cX12_shortOut 43 = .ok (.iadd, 1) := by decide +kernel
theorem dX12_shortOut_44 : decode cX12_shortOut 44 = .ok (.istore_n 3, 1) := by decide +kernel
theorem dX12_shortOut_45 : decode cX12_shortOut 45 = .ok (.aload_n 0, 1) := by decide +kernel
theorem dX12_shortOut_46 : decode cX12_shortOut 46 = .ok (.aload_n 0, 1) := by decide +kernel
theorem dX12_shortOut_47 : decode cX12_shortOut 47 = .ok (.getfield 34, 3) := by decide +kernel
theorem dX12_shortOut_50 : decode cX12_shortOut 50 = .ok (.iload_n 3, 1) := by decide +kernel
theorem dX12_shortOut_51 : decode cX12_shortOut 51 = .ok (.iaload, 1) := by decide +kernel
theorem dX12_shortOut_52 : decode cX12_shortOut 52 = .ok (.ifCond .ne 8, 3) := by decide +kernel
theorem dX12_shortOut_55 : decode cX12_shortOut 55 = .ok (.bipush 105, 2) := by decide +kernel
theorem dX12_shortOut_57 : decode cX12_shortOut 57 = .ok (.goto 20, 3) := by decide +kernel
theorem dX12_shortOut_60 : decode cX12_shortOut 60 = .ok (.aload_n 0, 1) := by decide +kernel
theorem dX12_shortOut_61 : decode cX12_shortOut 61 = .ok (.getfield 34, 3) := by decide +kernel
theorem dX12_shortOut_64 : decode cX12_shortOut 64 = .ok (.iload_n 3, 1) := by decide +kernel
theorem dX12_shortOut_65 : decode cX12_shortOut 65 = .ok (.iaload, 1) := by decide +kernel
theorem dX12_shortOut_66 : decode cX12_shortOut 66 = .ok (.iconst 1, 1) := by decide +kernel
theorem dX12_shortOut_67 : decode cX12_shortOut 67 = .ok (.if_icmp .ne 8, 3) := by decide +kernel
theorem dX12_shortOut_70 : decode cX12_shortOut 70 = .ok (.bipush 111, 2) := by decide +kernel
theorem dX12_shortOut_72 : decode cX12_shortOut 72 = .ok (.goto 5, 3) := by decide +kernel
theorem dX12_shortOut_75 : decode cX12_shortOut 75 = .ok (.bipush 119, 2) := by decide +kernel
theorem dX12_shortOut_77 : decode cX12_shortOut 77 = .ok (.invokevirtual 344, 3) := by decide +kernel
theorem dX12_shortOut_80 : decode cX12_shortOut 80 = .ok (.aload_n 0, 1) := by decide +kernel
theorem dX12_shortOut_81 : decode cX12_shortOut 81 = .ok (.bipush 32, 2) := by decide +kernel
theorem dX12_shortOut_83 : decode cX12_shortOut 83 = .ok (.invokevirtual 344, 3) := by decide +kernel
theorem dX12_shortOut_86 : decode cX12_shortOut 86 = .ok (.aload_n 0, 1) := by decide +kernel
theorem dX12_shortOut_87 : decode cX12_shortOut 87 = .ok (.aload_n 0, 1) := by decide +kernel
theorem dX12_shortOut_88 : decode cX12_shortOut 88 = .ok (.getfield 31, 3) := by decide +kernel
theorem dX12_shortOut_91 : decode cX12_shortOut 91 = .ok (.iload_n 3, 1) := by decide +kernel
theorem dX12_shortOut_92 : decode cX12_shortOut 92 = .ok (.iaload, 1) := by decide +kernel
theorem dX12_shortOut_93 : decode cX12_shortOut 93 = .ok (.invokevirtual 350, 3) := by decide +kernel
theorem dX12_shortOut_96 : decode cX12_shortOut 96 = .ok (.aload_n 0, 1) := by decide +kernel
theorem dX12_shortOut_97 : decode cX12_shortOut 97 = .ok (.bipush 32, 2) := by decide +kernel
theorem dX12_shortOut_99 : decode cX12_shortOut 99 = .ok (.invokevirtual 344, 3) := by decide +kernel
theorem dX12_shortOut_102 : decode cX12_shortOut 102 = .ok (.aload_n 0, 1) := by decide +kernel
theorem dX12_shortOut_103 : decode cX12_shortOut 103 = .ok (.aload_n 0, 1) := by decide +kernel
theorem dX12_shortOut_104 : decode cX12_shortOut 104 = .ok (.getfield 37, 3) := by decide +kernel
theorem dX12_shortOut_107 : decode cX12_shortOut 107 = .ok (.iload_n 3, 1) := by decide +kernel
theorem dX12_shortOut_108 : decode cX12_shortOut 108 = .ok (.iaload, 1) := by decide +kernel
theorem dX12_shortOut_109 : decode cX12_shortOut 109 = .ok (.invokevirtual 347, 3) := by decide +kernel
theorem dX12_shortOut_112 : decode cX12_shortOut 112 = .ok (.aload_n 0, 1) := by decide +kernel
theorem dX12_shortOut_113 : decode cX12_shortOut 113 = .ok (.invokevirtual 363, 3) := by decide +kernel
theorem dX12_shortOut_116 : decode cX12_shortOut 116 = .ok (.iinc 2 1, 3) := by decide +kernel
theorem dX12_shortOut_119 : decode cX12_shortOut 119 = .ok (.goto (-91), 3) := by decide +kernel
theorem dX12_shortOut_122 : decode cX12_shortOut 122 = .ok (.iconst 0, 1) := by decide +kernel
theorem dX12_shortOut_123 : decode cX12_shortOut 123 = .ok (.istore_n 2, 1) := by decide +kernel
theorem dX12_shortOut_124 : decode cX12_shortOut 124 = .ok (.iload_n 2, 1) := by decide +kernel
theorem dX12_shortOut_125 : decode cX12_shortOut 125 = .ok (.aload_n 0, 1) := by decide +kernel
theorem dX12_shortOut_126 : decode cX12_shortOut 126 = .ok (.getfield 65, 3) := by decide +kernel
theorem dX12_shortOut_129 : decode cX12_shortOut 129 = .ok (.iload_n 1, 1) := by decide +kernel
theorem dX12_shortOut_130 : decode cX12_shortOut 130 = .ok (.iaload, 1) := by decide +kernel
theorem dX12_shortOut_131 : decode cX12_shortOut 131 = .ok (.if_icmp .ge 65, 3) := by decide +kernel
theorem dX12_shortOut_134 : decode cX12_shortOut 134 = .ok (.aload_n 0, 1) := by decide +kernel
theorem dX12_shortOut_135 : decode cX12_shortOut 135 = .ok (.bipush 97, 2) := by decide +kernel
theorem dX12_shortOut_137 : decode cX12_shortOut 137 = .ok (.invokevirtual 344, 3) := by decide +kernel
theorem dX12_shortOut_140 : decode cX12_shortOut 140 = .ok (.aload_n 0, 1) := by decide +kernel
theorem dX12_shortOut_141 : decode cX12_shortOut 141 = .ok (.bipush 32, 2) := by decide +kernel
theorem dX12_shortOut_143 : decode cX12_shortOut 143 = .ok (.invokevirtual 344, 3) := by decide +kernel
theorem dX12_shortOut_146 : decode cX12_shortOut 146 = .ok (.aload_n 0, 1) := by decide +kernel
theorem dX12_shortOut_147 : decode cX12_shortOut 147 = .ok (.iload_n 1, 1) := by decide +kernel
theorem dX12_shortOut_148 : decode cX12_shortOut 148 = .ok (.aload_n 0, 1) := by decide +kernel
theorem dX12_shortOut_149 : decode cX12_shortOut 149 = .ok (.getfield 68, 3) := by decide +kernel
theorem dX12_shortOut_152 : decode cX12_shortOut 152 = .ok (.bipush 8, 2) := by decide +kernel
theorem dX12_shortOut_154 : decode cX12_shortOut 154 = .ok (.iload_n 1, 1) := by decide +kernel
theorem dX12_shortOut_155 : decode cX12_shortOut 155 = .ok (.imul, 1) := by decide +kernel
theorem dX12_shortOut_156 : decode cX12_shortOut 156 = .ok (.iload_n 2, 1) := by decide +kernel
theorem dX12_shortOut_157 : decode cX12_shortOut 157 = .ok (.iadd, 1) := by decide +kernel
theorem dX12_shortOut_158 : decode cX12_shortOut 158 = .ok (.iaload, 1) := by decide +kernel
theorem dX12_shortOut_159 : decode cX12_shortOut 159 = .ok (.iconst 0, 1) := by decide +kernel
theorem dX12_shortOut_160 : decode cX12_shortOut 160 = .ok (.invokevirtual 353, 3) := by decide +kernel
theorem dX12_shortOut_163 : decode cX12_shortOut 163 = .ok (.aload_n 0, 1) := by decide +kernel
theorem dX12_shortOut_164 : decode cX12_shortOut 164 = .ok (.bipush 32, 2) := by decide +kernel
theorem dX12_shortOut_166 : decode cX12_shortOut 166 = .ok (.invokevirtual 344, 3) := by decide +kernel
theorem dX12_shortOut_169 : decode cX12_shortOut 169 = .ok (.aload_n 0, 1) := by decide +kernel
theorem dX12_shortOut_170 : decode cX12_shortOut 170 = .ok (.iload_n 1, 1) := by decide +kernel
theorem dX12_shortOut_171 : decode cX12_shortOut 171 = .ok (.aload_n 0, 1) := by decide +kernel
theorem dX12_shortOut_172 : decode cX12_shortOut 172 = .ok (.getfield 71, 3) := by decide +kernel
theorem dX12_shortOut_175 : decode cX12_shortOut 175 = .ok (.bipush 8, 2) := by decide +kernel
theorem dX12_shortOut_177 : decode cX12_shortOut 177 = .ok (.iload_n 1, 1) := by decide +kernel
theorem dX12_shortOut_178 : decode cX12_shortOut 178 = .ok (.imul, 1) := by decide +kernel
theorem dX12_shortOut_179 : decode cX12_shortOut 179 = .ok (.iload_n 2, 1) := by decide +kernel
theorem dX12_shortOut_180 : decode cX12_shortOut 180 = .ok (.iadd, 1) := by decide +kernel
theorem dX12_shortOut_181 : decode cX12_shortOut 181 = .ok (.iaload, 1) := by decide +kernel
theorem dX12_shortOut_182 : decode cX12_shortOut 182 = .ok (.iconst 0, 1) := by decide +kernel
theorem dX12_shortOut_183 : decode cX12_shortOut 183 = .ok (.invokevirtual 353, 3) := by decide +kernel
theorem dX12_shortOut_186 : decode cX12_shortOut 186 = .ok (.aload_n 0, 1) := by decide +kernel
theorem dX12_shortOut_187 : decode cX12_shortOut 187 = .ok (.invokevirtual 363, 3) := by decide +kernel
theorem dX12_shortOut_190 : decode cX12_shortOut 190 = .ok (.iinc 2 1, 3) := by decide +kernel
theorem dX12_shortOut_193 : decode cX12_shortOut 193 = .ok (.goto (-69), 3) := by decide +kernel
theorem dX12_shortOut_196 : decode cX12_shortOut 196 = .ok (.iconst 0, 1) := by decide +kernel
theorem dX12_shortOut_197 : decode cX12_shortOut 197 = .ok (.istore_n 2, 1) := by decide +kernel
theorem dX12_shortOut_198 : decode cX12_shortOut 198 = .ok (.iload_n 2, 1) := by decide +kernel
theorem dX12_shortOut_199 : decode cX12_shortOut 199 = .ok (.aload_n 0, 1) := by decide +kernel
theorem dX12_shortOut_200 : decode cX12_shortOut 200 = .ok (.getfield 74, 3) := by decide +kernel
theorem dX12_shortOut_203 : decode cX12_shortOut 203 = .ok (.iload_n 1, 1) := by decide +kernel
theorem dX12_shortOut_204 : decode cX12_shortOut 204 = .ok (.iaload, 1) := by decide +kernel
theorem dX12_shortOut_205 : decode cX12_shortOut 205 = .ok (.if_icmp .ge 96, 3) := by decide +kernel
theorem dX12_shortOut_208 : decode cX12_shortOut 208 = .ok (.bipush 12, 2) := by decide +kernel
theorem dX12_shortOut_210 : decode cX12_shortOut 210 = .ok (.iload_n 1, 1) := by decide +kernel
theorem dX12_shortOut_211 : decode cX12_shortOut 211 = .ok (.imul, 1) := by decide +kernel
theorem dX12_shortOut_212 : decode cX12_shortOut 212 = .ok (.iload_n 2, 1) := by decide +kernel
theorem dX12_shortOut_213 : decode cX12_shortOut 213 = .ok (.iadd, 1) := by decide +kernel
theorem dX12_shortOut_214 : decode cX12_shortOut 214 = .ok (.istore_n 3, 1) := by decide +kernel
theorem dX12_shortOut_215 : decode cX12_shortOut 215 = .ok (.aload_n 0, 1) := by decide +kernel
theorem dX12_shortOut_216 : decode cX12_shortOut 216 = .ok (.bipush 117, 2) := by decide +kernel
theorem dX12_shortOut_218 : decode cX12_shortOut 218 = .ok (.invokevirtual 344, 3) := by decide +kernel
theorem dX12_shortOut_221 : decode cX12_shortOut 221 = .ok (.aload_n 0, 1) := by decide +kernel
theorem dX12_shortOut_222 : decode cX12_shortOut 222 = .ok (.bipush 32, 2) := by decide +kernel
theorem dX12_shortOut_224 : decode cX12_shortOut 224 = .ok (.invokevirtual 344, 3) := by decide +kernel
theorem dX12_shortOut_227 : decode cX12_shortOut 227 = .ok (.aload_n 0, 1) := by decide +kernel
theorem dX12_shortOut_228 : decode cX12_shortOut 228 = .ok (.aload_n 0, 1) := by decide +kernel
theorem dX12_shortOut_229 : decode cX12_shortOut 229 = .ok (.getfield 77, 3) := by decide +kernel
theorem dX12_shortOut_232 : decode cX12_shortOut 232 = .ok (.iload_n 3, 1) := by decide +kernel
theorem dX12_shortOut_233 : decode cX12_shortOut 233 = .ok (.iaload, 1) := by decide +kernel
theorem dX12_shortOut_234 : decode cX12_shortOut 234 = .ok (.invokevirtual 350, 3) := by decide +kernel
theorem dX12_shortOut_237 : decode cX12_shortOut 237 = .ok (.aload_n 0, 1) := by decide +kernel
theorem dX12_shortOut_238 : decode cX12_shortOut 238 = .ok (.bipush 32, 2) := by decide +kernel
theorem dX12_shortOut_240 : decode cX12_shortOut 240 = .ok (.invokevirtual 344, 3) := by decide +kernel
theorem dX12_shortOut_243 : decode cX12_shortOut 243 = .ok (.aload_n 0, 1) := by decide +kernel
theorem dX12_shortOut_244 : decode cX12_shortOut 244 = .ok (.aload_n 0, 1) := by decide +kernel
theorem dX12_shortOut_245 : decode cX12_shortOut 245 = .ok (.getfield 80, 3) := by decide +kernel
theorem dX12_shortOut_248 : decode cX12_shortOut 248 = .ok (.iload_n 3, 1) := by decide +kernel
theorem dX12_shortOut_249 : decode cX12_shortOut 249 = .ok (.iaload, 1) := by decide +kernel
theorem dX12_shortOut_250 : decode cX12_shortOut 250 = .ok (.invokevirtual 350, 3) := by decide +kernel
theorem dX12_shortOut_253 : decode cX12_shortOut 253 = .ok (.iconst 0, 1) := by decide +kernel
theorem dX12_shortOut_254 : decode cX12_shortOut 254 = .ok (.istore 4, 2) := by decide +kernel
theorem dX12_shortOut_256 : decode cX12_shortOut 256 = .ok (.iload 4, 2) := by decide +kernel
theorem dX12_shortOut_258 : decode cX12_shortOut 258 = .ok (.aload_n 0, 1) := by decide +kernel
theorem dX12_shortOut_259 : decode cX12_shortOut 259 = .ok (.iload_n 3, 1) := by decide +kernel
theorem dX12_shortOut_260 : decode cX12_shortOut 260 = .ok (.invokevirtual 320, 3) := by decide +kernel
theorem dX12_shortOut_263 : decode cX12_shortOut 263 = .ok (.if_icmp .ge 28, 3) := by decide +kernel
theorem dX12_shortOut_266 : decode cX12_shortOut 266 = .ok (.aload_n 0, 1) := by decide +kernel
theorem dX12_shortOut_267 : decode cX12_shortOut 267 = .ok (.bipush 32, 2) := by decide +kernel
theorem dX12_shortOut_269 : decode cX12_shortOut 269 = .ok (.invokevirtual 344, 3) := by decide +kernel
theorem dX12_shortOut_272 : decode cX12_shortOut 272 = .ok (.aload_n 0, 1) := by decide +kernel
theorem dX12_shortOut_273 : decode cX12_shortOut 273 = .ok (.iload_n 1, 1) := by decide +kernel
theorem dX12_shortOut_274 : decode cX12_shortOut 274 = .ok (.aload_n 0, 1) := by decide +kernel
theorem dX12_shortOut_275 : decode cX12_shortOut 275 = .ok (.iload_n 3, 1) := by decide +kernel
theorem dX12_shortOut_276 : decode cX12_shortOut 276 = .ok (.iload 4, 2) := by decide +kernel
theorem dX12_shortOut_278 : decode cX12_shortOut 278 = .ok (.invokevirtual 329, 3) := by decide +kernel
theorem dX12_shortOut_281 : decode cX12_shortOut 281 = .ok (.iconst 0, 1) := by decide +kernel
theorem dX12_shortOut_282 : decode cX12_shortOut 282 = .ok (.invokevirtual 360, 3) := by decide +kernel
theorem dX12_shortOut_285 : decode cX12_shortOut 285 = .ok (.iinc 4 1, 3) := by decide +kernel
theorem dX12_shortOut_288 : decode cX12_shortOut 288 = .ok (.goto (-32), 3) := by decide +kernel
theorem dX12_shortOut_291 : decode cX12_shortOut 291 = .ok (.aload_n 0, 1) := by decide +kernel
theorem dX12_shortOut_292 : decode cX12_shortOut 292 = .ok (.invokevirtual 363, 3) := by decide +kernel
theorem dX12_shortOut_295 : decode cX12_shortOut 295 = .ok (.iinc 2 1, 3) := by decide +kernel
theorem dX12_shortOut_298 : decode cX12_shortOut 298 = .ok (.goto (-100), 3) := by decide +kernel
theorem dX12_shortOut_301 : decode cX12_shortOut 301 = .ok (.aload_n 0, 1) := by decide +kernel
theorem dX12_shortOut_302 : decode cX12_shortOut 302 = .ok (.bipush 101, 2) := by decide +kernel
theorem dX12_shortOut_304 : decode cX12_shortOut 304 = .ok (.invokevirtual 344, 3) := by decide +kernel
theorem dX12_shortOut_307 : decode cX12_shortOut 307 = .ok (.aload_n 0, 1) := by decide +kernel
theorem dX12_shortOut_308 : decode cX12_shortOut 308 = .ok (.invokevirtual 363, 3) := by decide +kernel
theorem dX12_shortOut_311 : decode cX12_shortOut 311 = .ok (.return_, 1) := by decide +kernel
theorem dX12_write_0 : decode cX12_write 0 = .ok (.iload_n 1, 1) := by decide +kernel
theorem dX12_write_1 : decode cX12_write 1 = .ok (.ifCond .eq 8, 3) := by decide +kernel
theorem dX12_write_4 : decode cX12_write 4 = .ok (.iload_n 1, 1) := by decide +kernel
theorem dX12_write_5 : decode cX12_write 5 = .ok (.iconst 1, 1) := by decide +kernel
theorem dX12_write_6 : decode cX12_write 6 = .ok (.if_icmp .ne 11, 3) := by decide +kernel
theorem dX12_write_9 : decode cX12_write 9 = .ok (.iload_n 2, 1) := by decide +kernel
theorem dX12_write_10 : decode cX12_write 10 = .ok (.ifCond .lt 7, 3) := by decide +kernel
theorem dX12_write_13 : decode cX12_write 13 = .ok (.iconst 1, 1) := by decide +kernel
theorem dX12_write_14 : decode cX12_write 14 = .ok (.goto 4, 3) := by decide +kernel
theorem dX12_write_17 : decode cX12_write 17 = .ok (.iconst 0, 1) := by decide +kernel
theorem dX12_write_18 : decode cX12_write 18 = .ok (.istore_n 3, 1) := by decide +kernel
theorem dX12_write_19 : decode cX12_write 19 = .ok (.aload_n 0, 1) := by decide +kernel
theorem dX12_write_20 : decode cX12_write 20 = .ok (.iload_n 3, 1) := by decide +kernel
theorem dX12_write_21 : decode cX12_write 21 = .ok (.ifCond .eq 7, 3) := by decide +kernel
theorem dX12_write_24 : decode cX12_write 24 = .ok (.iconst 0, 1) := by decide +kernel
theorem dX12_write_25 : decode cX12_write 25 = .ok (.goto 4, 3) := by decide +kernel
theorem dX12_write_28 : decode cX12_write 28 = .ok (.iconst 1, 1) := by decide +kernel
theorem dX12_write_29 : decode cX12_write 29 = .ok (.putfield 108, 3) := by decide +kernel
theorem dX12_write_32 : decode cX12_write 32 = .ok (.aload_n 0, 1) := by decide +kernel
theorem dX12_write_33 : decode cX12_write 33 = .ok (.getfield 108, 3) := by decide +kernel
theorem dX12_write_36 : decode cX12_write 36 = .ok (.ifCond .le 5, 3) := by decide +kernel
theorem dX12_write_39 : decode cX12_write 39 = .ok (.iconst 0, 1) := by decide +kernel
theorem dX12_write_40 : decode cX12_write 40 = .ok (.ireturn, 1) := by decide +kernel
theorem dX12_write_41 : decode cX12_write 41 = .ok (.aload_n 0, 1) := by decide +kernel
theorem dX12_write_42 : decode cX12_write 42 = .ok (.iconst 0, 1) := by decide +kernel
theorem dX12_write_43 : decode cX12_write 43 = .ok (.putfield 335, 3) := by decide +kernel
theorem dX12_write_46 : decode cX12_write 46 = .ok (.aload_n 0, 1) := by decide +kernel
theorem dX12_write_47 : decode cX12_write 47 = .ok (.iload_n 2, 1) := by decide +kernel
theorem dX12_write_48 : decode cX12_write 48 = .ok (.putfield 338, 3) := by decide +kernel
theorem dX12_write_51 : decode cX12_write 51 = .ok (.aload_n 0, 1) := by decide +kernel
theorem dX12_write_52 : decode cX12_write 52 = .ok (.iconst (-1), 1) := by decide +kernel
theorem dX12_write_53 : decode cX12_write 53 = .ok (.putfield 341, 3) := by decide +kernel
theorem dX12_write_56 : decode cX12_write 56 = .ok (.iconst 0, 1) := by decide +kernel
theorem dX12_write_57 : decode cX12_write 57 = .ok (.istore 4, 2) := by decide +kernel
theorem dX12_write_59 : decode cX12_write 59 = .ok (.iload 4, 2) := by decide +kernel
theorem dX12_write_61 : decode cX12_write 61 = .ok (.aload_n 0, 1) := by decide +kernel
theorem dX12_write_62 : decode cX12_write 62 = .ok (.getfield 19, 3) := by decide +kernel
theorem dX12_write_65 : decode cX12_write 65 = .ok (.aload_n 0, 1) := by decide +kernel
theorem dX12_write_66 : decode cX12_write 66 = .ok (.getfield 290, 3) := by decide +kernel
theorem dX12_write_69 : decode cX12_write 69 = .ok (.iaload, 1) := by decide +kernel
theorem dX12_write_70 : decode cX12_write 70 = .ok (.if_icmp .ge 44, 3) := by decide +kernel
theorem dX12_write_73 : decode cX12_write 73 = .ok (.aload_n 0, 1) := by decide +kernel
theorem dX12_write_74 : decode cX12_write 74 = .ok (.getfield 341, 3) := by decide +kernel
theorem dX12_write_77 : decode cX12_write 77 = .ok (.iconst (-1), 1) := by decide +kernel
theorem dX12_write_78 : decode cX12_write 78 = .ok (.if_icmp .ne 36, 3) := by decide +kernel
theorem dX12_write_81 : decode cX12_write 81 = .ok (.iload_n 1, 1) := by decide +kernel
theorem dX12_write_82 : decode cX12_write 82 = .ok (.ifCond .ne 16, 3) := by decide +kernel
theorem dX12_write_85 : decode cX12_write 85 = .ok (.aload_n 0, 1) := by decide +kernel
theorem dX12_write_86 : decode cX12_write 86 = .ok (.aload_n 0, 1) := by decide +kernel
theorem dX12_write_87 : decode cX12_write 87 = .ok (.iload 4, 2) := by decide +kernel
theorem dX12_write_89 : decode cX12_write 89 = .ok (.invokevirtual 311, 3) := by decide +kernel
theorem dX12_write_92 : decode cX12_write 92 = .ok (.invokevirtual 373, 3) := by decide +kernel
theorem dX12_write_95 : decode cX12_write 95 = .ok (.goto 13, 3) := by decide +kernel
theorem dX12_write_98 : decode cX12_write 98 = .ok (.aload_n 0, 1) := by decide +kernel
theorem dX12_write_99 : decode cX12_write 99 = .ok (.aload_n 0, 1) := by decide +kernel
theorem dX12_write_100 : decode cX12_write 100 = .ok (.iload 4, 2) := by decide +kernel
theorem dX12_write_102 : decode cX12_write 102 = .ok (.invokevirtual 311, 3) := by decide +kernel
theorem dX12_write_105 : decode cX12_write 105 = .ok (.invokevirtual 376, 3) := by decide +kernel
theorem dX12_write_108 : decode cX12_write 108 = .ok (.iinc 4 1, 3) := by decide +kernel
theorem dX12_write_111 : decode cX12_write 111 = .ok (.goto (-52), 3) := by decide +kernel
theorem dX12_write_114 : decode cX12_write 114 = .ok (.aload_n 0, 1) := by decide +kernel
theorem dX12_write_115 : decode cX12_write 115 = .ok (.getfield 341, 3) := by decide +kernel
theorem dX12_write_118 : decode cX12_write 118 = .ok (.ireturn, 1) := by decide +kernel
theorem dX12_count_0 : decode cX12_count 0 = .ok (.aload_n 0, 1) := by decide +kernel
theorem dX12_count_1 : decode cX12_count 1 = .ok (.iload_n 1, 1) := by decide +kernel
theorem dX12_count_2 : decode cX12_count 2 = .ok (.ifCond .eq 8, 3) := by decide +kernel
theorem dX12_count_5 : decode cX12_count 5 = .ok (.iload_n 1, 1) := by decide +kernel
theorem dX12_count_6 : decode cX12_count 6 = .ok (.iconst 1, 1) := by decide +kernel
theorem dX12_count_7 : decode cX12_count 7 = .ok (.if_icmp .ne 7, 3) := by decide +kernel
theorem dX12_count_10 : decode cX12_count 10 = .ok (.iconst 0, 1) := by decide +kernel
theorem dX12_count_11 : decode cX12_count 11 = .ok (.goto 4, 3) := by decide +kernel
theorem dX12_count_14 : decode cX12_count 14 = .ok (.iconst 1, 1) := by decide +kernel
theorem dX12_count_15 : decode cX12_count 15 = .ok (.putfield 108, 3) := by decide +kernel
theorem dX12_count_18 : decode cX12_count 18 = .ok (.aload_n 0, 1) := by decide +kernel
theorem dX12_count_19 : decode cX12_count 19 = .ok (.getfield 108, 3) := by decide +kernel
theorem dX12_count_22 : decode cX12_count 22 = .ok (.ifCond .le 7, 3) := by decide +kernel
theorem dX12_count_25 : decode cX12_count 25 = .ok (.iconst 0, 1) := by decide +kernel
theorem dX12_count_26 : decode cX12_count 26 = .ok (.goto 23, 3) := by decide +kernel
theorem dX12_count_29 : decode cX12_count 29 = .ok (.iload_n 1, 1) := by decide +kernel
theorem dX12_count_30 : decode cX12_count 30 = .ok (.ifCond .ne 15, 3) := by decide +kernel
theorem dX12_count_33 : decode cX12_count 33 = .ok (.aload_n 0, 1) := by decide +kernel
theorem dX12_count_34 : decode cX12_count 34 = .ok (.getfield 19, 3) := by decide +kernel
theorem dX12_count_37 : decode cX12_count 37 = .ok (.aload_n 0, 1) := by decide +kernel
theorem dX12_count_38 : decode cX12_count 38 = .ok (.getfield 290, 3) := by decide +kernel
theorem dX12_count_41 : decode cX12_count 41 = .ok (.iaload, 1) := by decide +kernel
theorem dX12_count_42 : decode cX12_count 42 = .ok (.goto 7, 3) := by decide +kernel
theorem dX12_count_45 : decode cX12_count 45 = .ok (.aload_n 0, 1) := by decide +kernel
theorem dX12_count_46 : decode cX12_count 46 = .ok (.getfield 115, 3) := by decide +kernel
theorem dX12_count_49 : decode cX12_count 49 = .ok (.ireturn, 1) := by decide +kernel
