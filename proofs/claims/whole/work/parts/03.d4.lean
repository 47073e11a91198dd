theorem dX7_next_46 : decode cX7_next 46 = .ok (.aload_n 0, 1) := by decide +kernel
theorem dX7_next_47 : decode cX7_next 47 = .ok (.aload_n 0, 1) := by decide +kernel
theorem dX7_next_48 : decode cX7_next 48 = .ok (.getfield 117, 3) := by decide +kernel
theorem dX7_next_51 : decode cX7_next 51 = .ok (.putfield 114, 3) := by decide +kernel
theorem dX7_next_54 : decode cX7_next 54 = .ok (.aload_n 0, 1) := by decide +kernel
theorem dX7_next_55 : decode cX7_next 55 = .ok (.getfield 117, 3) := by decide +kernel
theorem dX7_next_58 : decode cX7_next 58 = .ok (.aload_n 0, 1) := by decide +kernel
theorem dX7_next_59 : decode cX7_next 59 = .ok (.getfield 111, 3) := by decide +kernel
theorem dX7_next_62 : decode cX7_next 62 = .ok (.if_icmp .ne 10, 3) := by decide +kernel
theorem dX7_next_65 : decode cX7_next 65 = .ok (.aload_n 0, 1) := by decide +kernel
theorem dX7_next_66 : decode cX7_next 66 = .ok (.bipush 101, 2) := by decide +kernel
theorem dX7_next_68 : decode cX7_next 68 = .ok (.putfield 120, 3) := by decide +kernel
theorem dX7_next_71 : decode cX7_next 71 = .ok (.return_, 1) := by decide +kernel
theorem dX7_next_72 : decode cX7_next 72 = .ok (.aload_n 0, 1) := by decide +kernel
theorem dX7_next_73 : decode cX7_next 73 = .ok (.getfield 19, 3) := by decide +kernel
theorem dX7_next_76 : decode cX7_next 76 = .ok (.aload_n 0, 1) := by decide +kernel
theorem dX7_next_77 : decode cX7_next 77 = .ok (.dup, 1) := by decide +kernel
theorem dX7_next_78 : decode cX7_next 78 = .ok (.getfield 114, 3) := by decide +kernel
theorem dX7_next_81 : decode cX7_next 81 = .ok (.dup_x1, 1) := by decide +kernel
theorem dX7_next_82 : decode cX7_next 82 = .ok (.iconst 1, 1) := by decide +kernel
theorem dX7_next_83 : decode cX7_next 83 = .ok (.iadd, 1) := by decide +kernel
theorem dX7_next_84 : decode cX7_next 84 = .ok (.putfield 114, 3) := by decide +kernel
theorem dX7_next_87 : decode cX7_next 87 = .ok (.iaload, 1) := by decide +kernel
theorem dX7_next_88 : decode cX7_next 88 = .ok (.istore_n 1, 1) := by decide +kernel
theorem dX7_next_89 : decode cX7_next 89 = .ok (.iload_n 1, 1) := by decide +kernel
theorem dX7_next_90 : decode cX7_next 90 = .ok (.invokestatic 123, 3) := by decide +kernel
theorem dX7_next_93 : decode cX7_next 93 = .ok (.ifCond .eq 51, 3) := by decide +kernel
theorem dX7_next_96 : decode cX7_next 96 = .ok (.aload_n 0, 1) := by decide +kernel
theorem dX7_next_97 : decode cX7_next 97 = .ok (.getfield 114, 3) := by decide +kernel
theorem dX7_next_100 : decode cX7_next 100 = .ok (.aload_n 0, 1) := by decide +kernel
theorem dX7_next_101 : decode cX7_next 101 = .ok (.getfield 111, 3) := by decide +kernel
theorem dX7_next_104 : decode cX7_next 104 = .ok (.if_icmp .ge 31, 3) := by decide +kernel
theorem dX7_next_107 : decode cX7_next 107 = .ok (.aload_n 0, 1) := by decide +kernel
theorem dX7_next_108 : decode cX7_next 108 = .ok (.getfield 19, 3) := by decide +kernel
theorem dX7_next_111 : decode cX7_next 111 = .ok (.aload_n 0, 1) := by decide +kernel
theorem dX7_next_112 : decode cX7_next 112 = .ok (.getfield 114, 3) := by decide +kernel
theorem dX7_next_115 : decode cX7_next 115 = .ok (.iaload, 1) := by decide +kernel
theorem dX7_next_116 : decode cX7_next 116 = .ok (.invokestatic 123, 3) := by decide +kernel
theorem dX7_next_119 : decode cX7_next 119 = .ok (.ifCond .eq 16, 3) := by decide +kernel
theorem dX7_next_122 : decode cX7_next 122 = .ok (.aload_n 0, 1) := by decide +kernel
theorem dX7_next_123 : decode cX7_next 123 = .ok (.dup, 1) := by decide +kernel
theorem dX7_next_124 : decode cX7_next 124 = .ok (.getfield 114, 3) := by decide +kernel
theorem dX7_next_127 : decode cX7_next 127 = .ok (.iconst 1, 1) := by decide +kernel
theorem dX7_next_128 : decode cX7_next 128 = .ok (.iadd, 1) := by decide +kernel
theorem dX7_next_129 : decode cX7_next 129 = .ok (.putfield 114, 3) := by decide +kernel
theorem dX7_next_132 : decode cX7_next 132 = .ok (.goto (-36), 3) := by decide +kernel
theorem dX7_next_135 : decode cX7_next 135 = .ok (.aload_n 0, 1) := by decide +kernel
theorem dX7_next_136 : decode cX7_next 136 = .ok (.bipush 119, 2) := by decide +kernel
theorem dX7_next_138 : decode cX7_next 138 = .ok (.putfield 120, 3) := by decide +kernel
theorem dX7_next_141 : decode cX7_next 141 = .ok (.goto 138, 3) := by decide +kernel
theorem dX7_next_144 : decode cX7_next 144 = .ok (.iload_n 1, 1) := by decide +kernel
theorem dX7_next_145 : decode cX7_next 145 = .ok (.invokestatic 126, 3) := by decide +kernel
theorem dX7_next_148 : decode cX7_next 148 = .ok (.ifCond .eq 114, 3) := by decide +kernel
theorem dX7_next_151 : decode cX7_next 151 = .ok (.aload_n 0, 1) := by decide +kernel
theorem dX7_next_152 : decode cX7_next 152 = .ok (.iload_n 1, 1) := by decide +kernel
theorem dX7_next_153 : decode cX7_next 153 = .ok (.bipush 48, 2) := by decide +kernel
theorem dX7_next_155 : decode cX7_next 155 = .ok (.isub, 1) := by decide +kernel
theorem dX7_next_156 : decode cX7_next 156 = .ok (.putfield 129, 3) := by decide +kernel
theorem dX7_next_159 : decode cX7_next 159 = .ok (.aload_n 0, 1) := by decide +kernel
theorem dX7_next_160 : decode cX7_next 160 = .ok (.getfield 114, 3) := by decide +kernel
theorem dX7_next_163 : decode cX7_next 163 = .ok (.aload_n 0, 1) := by decide +kernel
theorem dX7_next_164 : decode cX7_next 164 = .ok (.getfield 111, 3) := by decide +kernel
theorem dX7_next_167 : decode cX7_next 167 = .ok (.if_icmp .ge 68, 3) := by decide +kernel
theorem dX7_next_170 : decode cX7_next 170 = .ok (.aload_n 0, 1) := by decide +kernel
theorem dX7_next_171 : decode cX7_next 171 = .ok (.getfield 19, 3) := by decide +kernel
theorem dX7_next_174 : decode cX7_next 174 = .ok (.aload_n 0, 1) := by decide +kernel
theorem dX7_next_175 : decode cX7_next 175 = .ok (.getfield 114, 3) := by decide +kernel
theorem dX7_next_178 : decode cX7_next 178 = .ok (.iaload, 1) := by decide +kernel
theorem dX7_next_179 : decode cX7_next 179 = .ok (.invokestatic 126, 3) := by decide +kernel
theorem dX7_next_182 : decode cX7_next 182 = .ok (.ifCond .eq 53, 3) := by decide +kernel
theorem dX7_next_185 : decode cX7_next 185 = .ok (.aload_n 0, 1) := by decide +kernel
theorem dX7_next_186 : decode cX7_next 186 = .ok (.getfield 114, 3) := by decide +kernel
theorem dX7_next_189 : decode cX7_next 189 = .ok (.aload_n 0, 1) := by decide +kernel
theorem dX7_next_190 : decode cX7_next 190 = .ok (.getfield 117, 3) := by decide +kernel
theorem dX7_next_193 : decode cX7_next 193 = .ok (.isub, 1) := by decide +kernel
theorem dX7_next_194 : decode cX7_next 194 = .ok (.iconst 3, 1) := by decide +kernel
theorem dX7_next_195 : decode cX7_next 195 = .ok (.if_icmp .ge 27, 3) := by decide +kernel
theorem dX7_next_198 : decode cX7_next 198 = .ok (.aload_n 0, 1) := by decide +kernel
theorem dX7_next_199 : decode cX7_next 199 = .ok (.bipush 10, 2) := by decide +kernel
theorem dX7_next_201 : decode cX7_next 201 = .ok (.aload_n 0, 1) := by decide +kernel
theorem dX7_next_202 : decode cX7_next 202 = .ok (.getfield 129, 3) := by decide +kernel
theorem dX7_next_205 : decode cX7_next 205 = .ok (.imul, 1) := by decide +kernel
theorem dX7_next_206 : decode cX7_next 206 = .ok (.aload_n 0, 1) := by decide +kernel
theorem dX7_next_207 : decode cX7_next 207 = .ok (.getfield 19, 3) := by decide +kernel
theorem dX7_next_210 : decode cX7_next 210 = .ok (.aload_n 0, 1) := by decide +kernel
theorem dX7_next_211 : decode cX7_next 211 = .ok (.getfield 114, 3) := by decide +kernel
theorem dX7_next_214 : decode cX7_next 214 = .ok (.iaload, 1) := by decide +kernel
theorem dX7_next_215 : decode cX7_next 215 = .ok (.iadd, 1) := by decide +kernel
theorem dX7_next_216 : decode cX7_next 216 = .ok (.bipush 48, 2) := by decide +kernel
theorem dX7_next_218 : decode cX7_next 218 = .ok (.isub, 1) := by decide +kernel
theorem dX7_next_219 : decode cX7_next 219 = .ok (.putfield 129, 3) := by decide +kernel
theorem dX7_next_222 : decode cX7_next 222 = .ok (.aload_n 0, 1) := by decide +kernel
theorem dX7_next_223 : decode cX7_next 223 = .ok (.dup, 1) := by decide +kernel
theorem dX7_next_224 : decode cX7_next 224 = .ok (.getfield 114, 3) := by decide +kernel
theorem dX7_next_227 : decode cX7_next 227 = .ok (.iconst 1, 1) := by decide +kernel
theorem dX7_next_228 : decode cX7_next 228 = .ok (.iadd, 1) := by decide +kernel
theorem dX7_next_229 : decode cX7_next 229 = .ok (.putfield 114, 3) := by decide +kernel
theorem dX7_next_232 : decode cX7_next 232 = .ok (.goto (-73), 3) := by decide +kernel
theorem dX7_next_235 : decode cX7_next 235 = .ok (.aload_n 0, 1) := by decide +kernel
theorem dX7_next_236 : decode cX7_next 236 = .ok (.aload_n 0, 1) := by decide +kernel
theorem dX7_next_237 : decode cX7_next 237 = .ok (.getfield 114, 3) := by decide +kernel
theorem dX7_next_240 : decode cX7_next 240 = .ok (.aload_n 0, 1) := by decide +kernel
theorem dX7_next_241 : decode cX7_next 241 = .ok (.getfield 117, 3) := by decide +kernel
theorem dX7_next_244 : decode cX7_next 244 = .ok (.isub, 1) := by decide +kernel
theorem dX7_next_245 : decode cX7_next 245 = .ok (.iconst 3, 1) := by decide +kernel
theorem dX7_next_246 : decode cX7_next 246 = .ok (.if_icmp .le 8, 3) := by decide +kernel
theorem dX7_next_249 : decode cX7_next 249 = .ok (.bipush 120, 2) := by decide +kernel
theorem dX7_next_251 : decode cX7_next 251 = .ok (.goto 5, 3) := by decide +kernel
theorem dX7_next_254 : decode cX7_next 254 = .ok (.bipush 48, 2) := by decide +kernel
theorem dX7_next_256 : decode cX7_next 256 = .ok (.putfield 120, 3) := by decide +kernel
theorem dX7_next_259 : decode cX7_next 259 = .ok (.goto 20, 3) := by decide +kernel
theorem dX7_next_262 : decode cX7_next 262 = .ok (.aload_n 0, 1) := by decide +kernel
theorem dX7_next_263 : decode cX7_next 263 = .ok (.iload_n 1, 1) := by decide +kernel
theorem dX7_next_264 : decode cX7_next 264 = .ok (.bipush 59, 2) := by decide +kernel
theorem dX7_next_266 : decode cX7_next 266 = .ok (.if_icmp .ne 8, 3) := by decide +kernel
theorem dX7_next_269 : decode cX7_next 269 = .ok (.bipush 59, 2) := by decide +kernel
theorem dX7_next_271 : decode cX7_next 271 = .ok (.goto 5, 3) := by decide +kernel
theorem dX7_next_274 : decode cX7_next 274 = .ok (.bipush 120, 2) := by decide +kernel
theorem dX7_next_276 : decode cX7_next 276 = .ok (.putfield 120, 3) := by decide +kernel
theorem dX7_next_279 : decode cX7_next 279 = .ok (.return_, 1) := by decide +kernel
theorem dX7_isWord_0 : decode cX7_isWord 0 = .ok (.aload_n 0, 1) := by decide +kernel
theorem dX7_isWord_1 : decode cX7_isWord 1 = .ok (.getfield 120, 3) := by decide +kernel
theorem dX7_isWord_4 : decode cX7_isWord 4 = .ok (.bipush 119, 2) := by decide +kernel
theorem dX7_isWord_6 : decode cX7_isWord 6 = .ok (.if_icmp .ne 19, 3) := by decide +kernel
theorem dX7_isWord_9 : decode cX7_isWord 9 = .ok (.aload_n 0, 1) := by decide +kernel
theorem dX7_isWord_10 : decode cX7_isWord 10 = .ok (.getfield 114, 3) := by decide +kernel
theorem dX7_isWord_13 : decode cX7_isWord 13 = .ok (.aload_n 0, 1) := by decide +kernel
theorem dX7_isWord_14 : decode cX7_isWord 14 = .ok (.getfield 117, 3) := by decide +kernel
theorem dX7_isWord_17 : decode cX7_isWord 17 = .ok (.isub, 1) := by decide +kernel
theorem dX7_isWord_18 : decode cX7_isWord 18 = .ok (.aload_n 1, 1) := by decide +kernel
theorem dX7_isWord_19 : decode cX7_isWord 19 = .ok (.invokevirtual 132, 3) := by decide +kernel
theorem dX7_isWord_22 : decode cX7_isWord 22 = .ok (.if_icmp .eq 5, 3) := by decide +kernel
theorem dX7_isWord_25 : decode cX7_isWord 25 = .ok (.iconst 0, 1) := by decide +kernel
theorem dX7_isWord_26 : decode cX7_isWord 26 = .ok (.ireturn, 1) := by decide +kernel
theorem dX7_isWord_27 : decode cX7_isWord 27 = .ok (.iconst 0, 1) := by decide +kernel
theorem dX7_isWord_28 : decode cX7_isWord 28 = .ok (.istore_n 2, 1) := by decide +kernel
theorem dX7_isWord_29 : decode cX7_isWord 29 = .ok (.iload_n 2, 1) := by decide +kernel
theorem dX7_isWord_30 : decode cX7_isWord 30 = .ok (.aload_n 1, 1) := by decide +kernel
theorem dX7_isWord_31 : decode cX7_isWord 31 = .ok (.invokevirtual 132, 3) := by decide +kernel
theorem dX7_isWord_34 : decode cX7_isWord 34 = .ok (.if_icmp .ge 30, 3) := by decide +kernel
theorem dX7_isWord_37 : decode cX7_isWord 37 = .ok (.aload_n 0, 1) := by decide +kernel
theorem dX7_isWord_38 : decode cX7_isWord 38 = .ok (.getfield 19, 3) := by decide +kernel
theorem dX7_isWord_41 : decode cX7_isWord 41 = .ok (.aload_n 0, 1) := by decide +kernel
theorem dX7_isWord_42 : decode cX7_isWord 42 = .ok (.getfield 117, 3) := by decide +kernel
theorem dX7_isWord_45 : decode cX7_isWord 45 = .ok (.iload_n 2, 1) := by decide +kernel
theorem dX7_isWord_46 : decode cX7_isWord 46 = .ok (.iadd, 1) := by decide +kernel
theorem dX7_isWord_47 : decode cX7_isWord 47 = .ok (.iaload, 1) := by decide +kernel
theorem dX7_isWord_48 : decode cX7_isWord 48 = .ok (.aload_n 1, 1) := by decide +kernel
theorem dX7_isWord_49 : decode cX7_isWord 49 = .ok (.iload_n 2, 1) := by decide +kernel
theorem dX7_isWord_50 : decode cX7_isWord 50 = .ok (.invokevirtual 138, 3) := by decide +kernel
theorem dX7_isWord_53 : decode cX7_isWord 53 = .ok (.if_icmp .eq 5, 3) := by decide +kernel
theorem dX7_isWord_56 : decode cX7_isWord 56 = .ok (.iconst 0, 1) := by decide +kernel
theorem dX7_isWord_57 : decode cX7_isWord 57 = .ok (.ireturn, 1) := by decide +kernel
theorem dX7_isWord_58 : decode cX7_isWord 58 = .ok (.iinc 2 1, 3) := by decide +kernel
theorem dX7_isWord_61 : decode cX7_isWord 61 = .ok (.goto (-32), 3) := by decide +kernel
theorem dX7_isWord_64 : decode cX7_isWord 64 = .ok (.iconst 1, 1) := by decide +kernel
theorem dX7_isWord_65 : decode cX7_isWord 65 = .ok (.ireturn, 1) := by decide +kernel
theorem dX7_number_0 : decode cX7_number 0 = .ok (.aload_n 0, 1) := by decide +kernel
theorem dX7_number_1 : decode cX7_number 1 = .ok (.invokevirtual 142, 3) := by decide +kernel
theorem dX7_number_4 : decode cX7_number 4 = .ok (.aload_n 0, 1) := by decide +kernel
theorem dX7_number_5 : decode cX7_number 5 = .ok (.getfield 120, 3) := by decide +kernel
theorem dX7_number_8 : decode cX7_number 8 = .ok (.bipush 48, 2) := by decide +kernel
theorem dX7_number_10 : decode cX7_number 10 = .ok (.if_icmp .ne 22, 3) := by decide +kernel
theorem dX7_number_13 : decode cX7_number 13 = .ok (.aload_n 0, 1) := by decide +kernel
theorem dX7_number_14 : decode cX7_number 14 = .ok (.getfield 129, 3) := by decide +kernel
theorem dX7_number_17 : decode cX7_number 17 = .ok (.iload_n 1, 1) := by decide +kernel
theorem dX7_number_18 : decode cX7_number 18 = .ok (.iload_n 2, 1) := by decide +kernel
theorem dX7_number_19 : decode cX7_number 19 = .ok (.invokestatic 55, 3) := by decide +kernel
theorem dX7_number_22 : decode cX7_number 22 = .ok (.ifCond .eq 10, 3) := by decide +kernel
theorem dX7_number_25 : decode cX7_number 25 = .ok (.aload_n 0, 1) := by decide +kernel
theorem dX7_number_26 : decode cX7_number 26 = .ok (.getfield 129, 3) := by decide +kernel
theorem dX7_number_29 : decode cX7_number 29 = .ok (.goto 4, 3) := by decide +kernel
theorem dX7_number_32 : decode cX7_number 32 = .ok (.iconst (-1), 1) := by decide +kernel
theorem dX7_number_33 : decode cX7_number 33 = .ok (.ireturn, 1) := by decide +kernel
theorem dX7_isTold_0 : decode cX7_isTold 0 = .ok (.aload_n 0, 1) := by decide +kernel
theorem dX7_isTold_1 : decode cX7_isTold 1 = .ok (.invokevirtual 142, 3) := by decide +kernel
theorem dX7_isTold_4 : decode cX7_isTold 4 = .ok (.aload_n 0, 1) := by decide +kernel
theorem dX7_isTold_5 : decode cX7_isTold 5 = .ok (.getfield 120, 3) := by decide +kernel
theorem dX7_isTold_8 : decode cX7_isTold 8 = .ok (.bipush 119, 2) := by decide +kernel
theorem dX7_isTold_10 : decode cX7_isTold 10 = .ok (.if_icmp .ne 22, 3) := by decide +kernel
theorem dX7_isTold_13 : decode cX7_isTold 13 = .ok (.aload_n 0, 1) := by decide +kernel
theorem dX7_isTold_14 : decode cX7_isTold 14 = .ok (.getfield 114, 3) := by decide +kernel
theorem dX7_isTold_17 : decode cX7_isTold 17 = .ok (.aload_n 0, 1) := by decide +kernel
theorem dX7_isTold_18 : decode cX7_isTold 18 = .ok (.getfield 117, 3) := by decide +kernel
theorem dX7_isTold_21 : decode cX7_isTold 21 = .ok (.isub, 1) := by decide +kernel
theorem dX7_isTold_22 : decode cX7_isTold 22 = .ok (.bipush 40, 2) := by decide +kernel
theorem dX7_isTold_24 : decode cX7_isTold 24 = .ok (.aload_n 0, 1) := by decide +kernel
theorem dX7_isTold_25 : decode cX7_isTold 25 = .ok (.getfield 62, 3) := by decide +kernel
theorem dX7_isTold_28 : decode cX7_isTold 28 = .ok (.isub, 1) := by decide +kernel
theorem dX7_isTold_29 : decode cX7_isTold 29 = .ok (.if_icmp .le 5, 3) := by decide +kernel
theorem dX7_isTold_32 : decode cX7_isTold 32 = .ok (.iconst 0, 1) := by decide +kernel
theorem dX7_isTold_33 : decode cX7_isTold 33 = .ok (.ireturn, 1) := by decide +kernel
theorem dX7_isTold_34 : decode cX7_isTold 34 = .ok (.aload_n 0, 1) := by decide +kernel
theorem dX7_isTold_35 : decode cX7_isTold 35 = .ok (.getfield 117, 3) := by decide +kernel
theorem dX7_isTold_38 : decode cX7_isTold 38 = .ok (.istore_n 1, 1) := by decide +kernel
theorem dX7_isTold_39 : decode cX7_isTold 39 = .ok (.iload_n 1, 1) := by decide +kernel
theorem dX7_isTold_40 : decode cX7_isTold 40 = .ok (.aload_n 0, 1) := by decide +kernel
theorem dX7_isTold_41 : decode cX7_isTold 41 = .ok (.getfield 114, 3) := by decide +kernel
theorem dX7_isTold_44 : decode cX7_isTold 44 = .ok (.if_icmp .ge 33, 3) := by decide +kernel
theorem dX7_isTold_47 : decode cX7_isTold 47 = .ok (.aload_n 0, 1) := by decide +kernel
theorem dX7_isTold_48 : decode cX7_isTold 48 = .ok (.getfield 19, 3) := by decide +kernel
theorem dX7_isTold_51 : decode cX7_isTold 51 = .ok (.iload_n 1, 1) := by decide +kernel
theorem dX7_isTold_52 : decode cX7_isTold 52 = .ok (.iaload, 1) := by decide +kernel
theorem dX7_isTold_53 : decode cX7_isTold 53 = .ok (.bipush 115, 2) := by decide +kernel
theorem dX7_isTold_55 : decode cX7_isTold 55 = .ok (.if_icmp .eq 16, 3) := by decide +kernel
theorem dX7_isTold_58 : decode cX7_isTold 58 = .ok (.aload_n 0, 1) := by decide +kernel
theorem dX7_isTold_59 : decode cX7_isTold 59 = .ok (.getfield 19, 3) := by decide +kernel
theorem dX7_isTold_62 : decode cX7_isTold 62 = .ok (.iload_n 1, 1) := by decide +kernel
theorem dX7_isTold_63 : decode cX7_isTold 63 = .ok (.iaload, 1) := by decide +kernel
theorem dX7_isTold_64 : decode cX7_isTold 64 = .ok (.bipush 103, 2) := by decide +kernel
theorem dX7_isTold_66 : decode cX7_isTold 66 = .ok (.if_icmp .eq 5, 3) := by decide +kernel
theorem dX7_isTold_69 : decode cX7_isTold 69 = .ok (.iconst 0, 1) := by decide +kernel
theorem dX7_isTold_70 : decode cX7_isTold 70 = .ok (.ireturn, 1) := by decide +kernel
theorem dX7_isTold_71 : decode cX7_isTold 71 = .ok (.iinc 1 1, 3) := by decide +kernel
theorem dX7_isTold_74 : decode cX7_isTold 74 = .ok (.goto (-35), 3) := by decide +kernel
theorem dX7_isTold_77 : decode cX7_isTold 77 = .ok (.iconst 1, 1) := by decide +kernel
theorem dX7_isTold_78 : decode cX7_isTold 78 = .ok (.ireturn, 1) := by decide +kernel
theorem dX7_statement_0 : decode cX7_statement 0 = .ok (.aload_n 0, 1) := by decide +kernel
theorem dX7_statement_1 : decode cX7_statement 1 = .ok (.ldc 145, 2) := by decide +kernel
theorem dX7_statement_3 : decode cX7_statement 3 = .ok (.invokevirtual 147, 3) := by decide +kernel
theorem dX7_statement_6 : decode cX7_statement 6 = .ok (.ifCond .eq 54, 3) := by decide +kernel
theorem dX7_statement_9 : decode cX7_statement 9 = .ok (.aload_n 0, 1) := by decide +kernel
theorem dX7_statement_10 : decode cX7_statement 10 = .ok (.getfield 52, 3) := by decide +kernel
theorem dX7_statement_13 : decode cX7_statement 13 = .ok (.bipush 6, 2) := by decide +kernel
theorem dX7_statement_15 : decode cX7_statement 15 = .ok (.if_icmp .ne 5, 3) := by decide +kernel
theorem dX7_statement_18 : decode cX7_statement 18 = .ok (.iconst 0, 1) := by decide +kernel
theorem dX7_statement_19 : decode cX7_statement 19 = .ok (.ireturn, 1) := by decide +kernel
theorem dX7_statement_20 : decode cX7_statement 20 = .ok (.aload_n 0, 1) := by decide +kernel
theorem dX7_statement_21 : decode cX7_statement 21 = .ok (.iconst 0, 1) := by decide +kernel
theorem dX7_statement_22 : decode cX7_statement 22 = .ok (.iconst 5, 1) := by decide +kernel
theorem dX7_statement_23 : decode cX7_statement 23 = .ok (.invokevirtual 151, 3) := by decide +kernel
theorem dX7_statement_26 : decode cX7_statement 26 = .ok (.istore_n 1, 1) := by decide +kernel
theorem dX7_statement_27 : decode cX7_statement 27 = .ok (.iload_n 1, 1) := by decide +kernel
theorem dX7_statement_28 : decode cX7_statement 28 = .ok (.iconst (-1), 1) := by decide +kernel
theorem dX7_statement_29 : decode cX7_statement 29 = .ok (.if_icmp .ne 7, 3) := by decide +kernel
theorem dX7_statement_32 : decode cX7_statement 32 = .ok (.iconst (-1), 1) := by decide +kernel
theorem dX7_statement_33 : decode cX7_statement 33 = .ok (.goto 10, 3) := by decide +kernel
theorem dX7_statement_36 : decode cX7_statement 36 = .ok (.aload_n 0, 1) := by decide +kernel
theorem dX7_statement_37 : decode cX7_statement 37 = .ok (.iconst 0, 1) := by decide +kernel
theorem dX7_statement_38 : decode cX7_statement 38 = .ok (.bipush 9, 2) := by decide +kernel
theorem dX7_statement_40 : decode cX7_statement 40 = .ok (.invokevirtual 151, 3) := by decide +kernel
theorem dX7_statement_43 : decode cX7_statement 43 = .ok (.istore_n 2, 1) := by decide +kernel
theorem dX7_statement_44 : decode cX7_statement 44 = .ok (.iload_n 2, 1) := by decide +kernel
theorem dX7_statement_45 : decode cX7_statement 45 = .ok (.iconst (-1), 1) := by decide +kernel
theorem dX7_statement_46 : decode cX7_statement 46 = .ok (.if_icmp .ne 5, 3) := by decide +kernel
theorem dX7_statement_49 : decode cX7_statement 49 = .ok (.iconst 0, 1) := by decide +kernel
theorem dX7_statement_50 : decode cX7_statement 50 = .ok (.ireturn, 1) := by decide +kernel
theorem dX7_statement_51 : decode cX7_statement 51 = .ok (.aload_n 0, 1) := by decide +kernel
theorem dX7_statement_52 : decode cX7_statement 52 = .ok (.iload_n 1, 1) := by decide +kernel
theorem dX7_statement_53 : decode cX7_statement 53 = .ok (.iload_n 2, 1) := by decide +kernel
theorem dX7_statement_54 : decode cX7_statement 54 = .ok (.invokevirtual 98, 3) := by decide +kernel
theorem dX7_statement_57 : decode cX7_statement 57 = .ok (.pop, 1) := by decide +kernel
theorem dX7_statement_58 : decode cX7_statement 58 = .ok (.iconst 1, 1) := by decide +kernel
theorem dX7_statement_59 : decode cX7_statement 59 = .ok (.ireturn, 1) := by decide +kernel
theorem dX7_statement_60 : decode cX7_statement 60 = .ok (.aload_n 0, 1) := by decide +kernel
theorem dX7_statement_61 : decode cX7_statement 61 = .ok (.ldc 154, 2) := by decide +kernel
theorem dX7_statement_63 : decode cX7_statement 63 = .ok (.invokevirtual 147, 3) := by decide +kernel
theorem dX7_statement_66 : decode cX7_statement 66 = .ok (.ifCond .eq 29, 3) := by decide +kernel
theorem dX7_statement_69 : decode cX7_statement 69 = .ok (.aload_n 0, 1) := by decide +kernel
theorem dX7_statement_70 : decode cX7_statement 70 = .ok (.iconst 0, 1) := by decide +kernel
theorem dX7_statement_71 : decode cX7_statement 71 = .ok (.aload_n 0, 1) := by decide +kernel
theorem dX7_statement_72 : decode cX7_statement 72 = .ok (.getfield 52, 3) := by decide +kernel
theorem dX7_statement_75 : decode cX7_statement 75 = .ok (.iconst 1, 1) := by decide +kernel
theorem dX7_statement_76 : decode cX7_statement 76 = .ok (.isub, 1) := by decide +kernel
theorem dX7_statement_77 : decode cX7_statement 77 = .ok (.invokevirtual 151, 3) := by decide +kernel
theorem dX7_statement_80 : decode cX7_statement 80 = .ok (.istore_n 1, 1) := by decide +kernel
theorem dX7_statement_81 : decode cX7_statement 81 = .ok (.iload_n 1, 1) := by decide +kernel
theorem dX7_statement_82 : decode cX7_statement 82 = .ok (.iconst (-1), 1) := by decide +kernel
theorem dX7_statement_83 : decode cX7_statement 83 = .ok (.if_icmp .ne 5, 3) := by decide +kernel
theorem dX7_statement_86 : decode cX7_statement 86 = .ok (.iconst 0, 1) := by decide +kernel
theorem dX7_statement_87 : decode cX7_statement 87 = .ok (.ireturn, 1) := by decide +kernel
theorem dX7_statement_88 : decode cX7_statement 88 = .ok (.aload_n 0, 1) := by decide +kernel
theorem dX7_statement_89 : decode cX7_statement 89 = .ok (.iload_n 1, 1) := by decide +kernel
theorem dX7_statement_90 : decode cX7_statement 90 = .ok (.putfield 102, 3) := by decide +kernel
theorem dX7_statement_93 : decode cX7_statement 93 = .ok (.iconst 1, 1) := by decide +kernel
theorem dX7_statement_94 : decode cX7_statement 94 = .ok (.ireturn, 1) := by decide +kernel
theorem dX7_statement_95 : decode cX7_statement 95 = .ok (.aload_n 0, 1) := by decide +kernel
theorem dX7_statement_96 : decode cX7_statement 96 = .ok (.ldc 156, 2) := by decide +kernel
theorem dX7_statement_98 : decode cX7_statement 98 = .ok (.invokevirtual 147, 3) := by decide +kernel
theorem dX7_statement_101 : decode cX7_statement 101 = .ok (.ifCond .eq 25, 3) := by decide +kernel
theorem dX7_statement_104 : decode cX7_statement 104 = .ok (.aload_n 0, 1) := by decide +kernel
theorem dX7_statement_105 : decode cX7_statement 105 = .ok (.iconst 0, 1) := by decide +kernel
theorem dX7_statement_106 : decode cX7_statement 106 = .ok (.bipush 9, 2) := by decide +kernel
theorem dX7_statement_108 : decode cX7_statement 108 = .ok (.invokevirtual 151, 3) := by decide +kernel
theorem dX7_statement_111 : decode cX7_statement 111 = .ok (.istore_n 1, 1) := by decide +kernel
theorem dX7_statement_112 : decode cX7_statement 112 = .ok (.iload_n 1, 1) := by decide +kernel
theorem dX7_statement_113 : decode cX7_statement 113 = .ok (.iconst (-1), 1) := by decide +kernel
theorem dX7_statement_114 : decode cX7_statement 114 = .ok (.if_icmp .ne 5, 3) := by decide +kernel
theorem dX7_statement_117 : decode cX7_statement 117 = .ok (.iconst 0, 1) := by decide +kernel
theorem dX7_statement_118 : decode cX7_statement 118 = .ok (.ireturn, 1) := by decide +kernel
theorem dX7_statement_119 : decode cX7_statement 119 = .ok (.aload_n 0, 1) := by decide +kernel
theorem dX7_statement_120 : decode cX7_statement 120 = .ok (.iload_n 1, 1) := by decide +kernel
theorem dX7_statement_121 : decode cX7_statement 121 = .ok (.putfield 45, 3) := by decide +kernel
theorem dX7_statement_124 : decode cX7_statement 124 = .ok (.iconst 1, 1) := by decide +kernel
theorem dX7_statement_125 : decode cX7_statement 125 = .ok (.ireturn, 1) := by decide +kernel
theorem dX7_statement_126 : decode cX7_statement 126 = .ok (.aload_n 0, 1) := by decide +kernel
theorem dX7_statement_127 : decode cX7_statement 127 = .ok (.ldc 157, 2) := by decide +kernel
theorem dX7_statement_129 : decode cX7_statement 129 = .ok (.invokevirtual 147, 3) := by decide +kernel
theorem dX7_statement_132 : decode cX7_statement 132 = .ok (.ifCond .eq 25, 3) := by decide +kernel
theorem dX7_statement_135 : decode cX7_statement 135 = .ok (.aload_n 0, 1) := by decide +kernel
theorem dX7_statement_136 : decode cX7_statement 136 = .ok (.iconst 0, 1) := by decide +kernel
theorem dX7_statement_137 : decode cX7_statement 137 = .ok (.bipush 100, 2) := by decide +kernel
theorem dX7_statement_139 : decode cX7_statement 139 = .ok (.invokevirtual 151, 3) := by decide +kernel
theorem dX7_statement_142 : decode cX7_statement 142 = .ok (.istore_n 1, 1) := by decide +kernel
theorem dX7_statement_143 : decode cX7_statement 143 = .ok (.iload_n 1, 1) := by decide +kernel
theorem dX7_statement_144 : decode cX7_statement 144 = .ok (.iconst (-1), 1) := by decide +kernel
theorem dX7_statement_145 : decode cX7_statement 145 = .ok (.if_icmp .ne 5, 3) := by decide +kernel
theorem dX7_statement_148 : decode cX7_statement 148 = .ok (.iconst 0, 1) := by decide +kernel
theorem dX7_statement_149 : decode cX7_statement 149 = .ok (.ireturn, 1) := by decide +kernel
theorem dX7_statement_150 : decode cX7_statement 150 = .ok (.aload_n 0, 1) := by decide +kernel
theorem dX7_statement_151 : decode cX7_statement 151 = .ok (.iload_n 1, 1) := by decide +kernel
theorem dX7_statement_152 : decode cX7_statement 152 = .ok (.putfield 105, 3) := by decide +kernel
theorem dX7_statement_155 : decode cX7_statement 155 = .ok (.iconst 1, 1) := by decide +kernel
theorem dX7_statement_156 : decode cX7_statement 156 = .ok (.ireturn, 1) := by decide +kernel
theorem dX7_statement_157 : decode cX7_statement 157 = .ok (.aload_n 0, 1) := by decide +kernel
theorem dX7_statement_158 : decode cX7_statement 158 = .ok (.ldc 158, 2) := by decide +kernel
theorem dX7_statement_160 : decode cX7_statement 160 = .ok (.invokevirtual 147, 3) := by decide +kernel
theorem dX7_statement_163 : decode cX7_statement 163 = .ok (.ifCond .eq 62, 3) := by decide +kernel
theorem dX7_statement_166 : decode cX7_statement 166 = .ok (.aload_n 0, 1) := by decide +kernel
theorem dX7_statement_167 : decode cX7_statement 167 = .ok (.getfield 62, 3) := by decide +kernel
theorem dX7_statement_170 : decode cX7_statement 170 = .ok (.bipush 40, 2) := by decide +kernel
theorem dX7_statement_172 : decode cX7_statement 172 = .ok (.if_icmp .eq 10, 3) := by decide +kernel
theorem dX7_statement_175 : decode cX7_statement 175 = .ok (.aload_n 0, 1) := by decide +kernel
theorem dX7_statement_176 : decode cX7_statement 176 = .ok (.invokevirtual 159, 3) := by decide +kernel
theorem dX7_statement_179 : decode cX7_statement 179 = .ok (.ifCond .ne 5, 3) := by decide +kernel
theorem dX7_statement_182 : decode cX7_statement 182 = .ok (.iconst 0, 1) := by decide +kernel
theorem dX7_statement_183 : decode cX7_statement 183 = .ok (.ireturn, 1) := by decide +kernel
theorem dX7_statement_184 : decode cX7_statement 184 = .ok (.aload_n 0, 1) := by decide +kernel
theorem dX7_statement_185 : decode cX7_statement 185 = .ok (.getfield 117, 3) := by decide +kernel
theorem dX7_statement_188 : decode cX7_statement 188 = .ok (.istore_n 2, 1) := by decide +kernel
theorem dX7_statement_189 : decode cX7_statement 189 = .ok (.iload_n 2, 1) := by decide +kernel
theorem dX7_statement_190 : decode cX7_statement 190 = .ok (.aload_n 0, 1) := by decide +kernel
theorem dX7_statement_191 : decode cX7_statement 191 = .ok (.getfield 114, 3) := by decide +kernel
theorem dX7_statement_194 : decode cX7_statement 194 = .ok (.if_icmp .ge 29, 3) := by decide +kernel
theorem dX7_statement_197 : decode cX7_statement 197 = .ok (.aload_n 0, 1) := by decide +kernel
theorem dX7_statement_198 : decode cX7_statement 198 = .ok (.aload_n 0, 1) := by decide +kernel
theorem dX7_statement_199 : decode cX7_statement 199 = .ok (.getfield 19, 3) := by decide +kernel
theorem dX7_statement_202 : decode cX7_statement 202 = .ok (.iload_n 2, 1) := by decide +kernel
theorem dX7_statement_203 : decode cX7_statement 203 = .ok (.iaload, 1) := by decide +kernel
theorem dX7_statement_204 : decode cX7_statement 204 = .ok (.bipush 115, 2) := by decide +kernel
theorem dX7_statement_206 : decode cX7_statement 206 = .ok (.if_icmp .ne 7, 3) := by decide +kernel
theorem dX7_statement_209 : decode cX7_statement 209 = .ok (.iconst 1, 1) := by decide +kernel
theorem dX7_statement_210 : decode cX7_statement 210 = .ok (.goto 4, 3) := by decide +kernel
theorem dX7_statement_213 : decode cX7_statement 213 = .ok (.iconst 0, 1) := by decide +kernel
theorem dX7_statement_214 : decode cX7_statement 214 = .ok (.invokevirtual 163, 3) := by decide +kernel
theorem dX7_statement_217 : decode cX7_statement 217 = .ok (.iinc 2 1, 3) := by decide +kernel
theorem dX7_statement_220 : decode cX7_statement 220 = .ok (.goto (-31), 3) := by decide +kernel
theorem dX7_statement_223 : decode cX7_statement 223 = .ok (.iconst 1, 1) := by decide +kernel
theorem dX7_statement_224 : decode cX7_statement 224 = .ok (.ireturn, 1) := by decide +kernel
theorem dX7_statement_225 : decode cX7_statement 225 = .ok (.aload_n 0, 1) := by decide +kernel
theorem dX7_statement_226 : decode cX7_statement 226 = .ok (.ldc 167, 2) := by decide +kernel
theorem dX7_statement_228 : decode cX7_statement 228 = .ok (.invokevirtual 147, 3) := by decide +kernel
theorem dX7_statement_231 : decode cX7_statement 231 = .ok (.ifCond .eq 37, 3) := by decide +kernel
theorem dX7_statement_234 : decode cX7_statement 234 = .ok (.aload_n 0, 1) := by decide +kernel
theorem dX7_statement_235 : decode cX7_statement 235 = .ok (.getfield 59, 3) := by decide +kernel
theorem dX7_statement_238 : decode cX7_statement 238 = .ok (.bipush 10, 2) := by decide +kernel
theorem dX7_statement_240 : decode cX7_statement 240 = .ok (.if_icmp .ne 5, 3) := by decide +kernel
theorem dX7_statement_243 : decode cX7_statement 243 = .ok (.iconst 0, 1) := by decide +kernel
theorem dX7_statement_244 : decode cX7_statement 244 = .ok (.ireturn, 1) := by decide +kernel
theorem dX7_statement_245 : decode cX7_statement 245 = .ok (.aload_n 0, 1) := by decide +kernel
theorem dX7_statement_246 : decode cX7_statement 246 = .ok (.iconst 1, 1) := by decide +kernel
theorem dX7_statement_247 : decode cX7_statement 247 = .ok (.bipush 99, 2) := by decide +kernel
theorem dX7_statement_249 : decode cX7_statement 249 = .ok (.invokevirtual 151, 3) := by decide +kernel
theorem dX7_statement_252 : decode cX7_statement 252 = .ok (.istore_n 1, 1) := by decide +kernel
theorem dX7_statement_253 : decode cX7_statement 253 = .ok (.iload_n 1, 1) := by decide +kernel
theorem dX7_statement_254 : decode cX7_statement 254 = .ok (.iconst (-1), 1) := by decide +kernel
theorem dX7_statement_255 : decode cX7_statement 255 = .ok (.if_icmp .ne 5, 3) := by decide +kernel
theorem dX7_statement_258 : decode cX7_statement 258 = .ok (.iconst 0, 1) := by decide +kernel
theorem dX7_statement_259 : decode cX7_statement 259 = .ok (.ireturn, 1) := by decide +kernel
theorem dX7_statement_260 : decode cX7_statement 260 = .ok (.aload_n 0, 1) := by decide +kernel
theorem dX7_statement_261 : decode cX7_statement 261 = .ok (.iload_n 1, 1) := by decide +kernel
theorem dX7_statement_262 : decode cX7_statement 262 = .ok (.invokevirtual 108, 3) := by decide +kernel
theorem dX7_statement_265 : decode cX7_statement 265 = .ok (.pop, 1) := by decide +kernel
theorem dX7_statement_266 : decode cX7_statement 266 = .ok (.iconst 1, 1) := by decide +kernel
theorem dX7_statement_267 : decode cX7_statement 267 = .ok (.ireturn, 1) := by decide +kernel
theorem dX7_statement_268 : decode cX7_statement 268 = .ok (.aload_n 0, 1) := by decide +kernel
theorem dX7_statement_269 : decode cX7_statement 269 = .ok (.ldc 169, 2) := by decide +kernel
theorem dX7_statement_271 : decode cX7_statement 271 = .ok (.invokevirtual 147, 3) := by decide +kernel
theorem dX7_statement_274 : decode cX7_statement 274 = .ok (.ifCond .ne 5, 3) := by decide +kernel
theorem dX7_statement_277 : decode cX7_statement 277 = .ok (.iconst 0, 1) := by decide +kernel
theorem dX7_statement_278 : decode cX7_statement 278 = .ok (.ireturn, 1) := by decide +kernel
theorem dX7_statement_279 : decode cX7_statement 279 = .ok (.aload_n 0, 1) := by decide +kernel
theorem dX7_statement_280 : decode cX7_statement 280 = .ok (.lconst 0, 1) := by decide +kernel
theorem dX7_statement_281 : decode cX7_statement 281 = .ok (.putfield 90, 3) := by decide +kernel
theorem dX7_statement_284 : decode cX7_statement 284 = .ok (.aload_n 0, 1) := by decide +kernel
theorem dX7_statement_285 : decode cX7_statement 285 = .ok (.iconst 0, 1) := by decide +kernel
theorem dX7_statement_286 : decode cX7_statement 286 = .ok (.putfield 62, 3) := by decide +kernel
theorem dX7_statement_289 : decode cX7_statement 289 = .ok (.iconst 1, 1) := by decide +kernel
theorem dX7_statement_290 : decode cX7_statement 290 = .ok (.ireturn, 1) := by decide +kernel
theorem dX7_lake_0 : decode cX7_lake 0 = .ok (.aload_n 0, 1) := by decide +kernel
theorem dX7_lake_1 : decode cX7_lake 1 = .ok (.aload_n 0, 1) := by decide +kernel
theorem dX7_lake_2 : decode cX7_lake 2 = .ok (.getfield 38, 3) := by decide +kernel
theorem dX7_lake_5 : decode cX7_lake 5 = .ok (.invokevirtual 171, 3) := by decide +kernel
theorem dX7_lake_8 : decode cX7_lake 8 = .ok (.aload_n 0, 1) := by decide +kernel
theorem dX7_lake_9 : decode cX7_lake 9 = .ok (.aload_n 0, 1) := by decide +kernel
theorem dX7_lake_10 : decode cX7_lake 10 = .ok (.getfield 90, 3) := by decide +kernel
theorem dX7_lake_13 : decode cX7_lake 13 = .ok (.putfield 175, 3) := by decide +kernel
theorem dX7_lake_16 : decode cX7_lake 16 = .ok (.aload_n 0, 1) := by decide +kernel
theorem dX7_lake_17 : decode cX7_lake 17 = .ok (.iconst 0, 1) := by decide +kernel
theorem dX7_lake_18 : decode cX7_lake 18 = .ok (.putfield 114, 3) := by decide +kernel
theorem dX7_lake_21 : decode cX7_lake 21 = .ok (.iconst 0, 1) := by decide +kernel
theorem dX7_lake_22 : decode cX7_lake 22 = .ok (.istore_n 1, 1) := by decide +kernel
theorem dX7_lake_23 : decode cX7_lake 23 = .ok (.iconst 1, 1) := by decide +kernel
theorem dX7_lake_24 : decode cX7_lake 24 = .ok (.istore_n 2, 1) := by decide +kernel
theorem dX7_lake_25 : decode cX7_lake 25 = .ok (.iload_n 2, 1) := by decide +kernel
theorem dX7_lake_26 : decode cX7_lake 26 = .ok (.ifCond .eq 60, 3) := by decide +kernel
theorem dX7_lake_29 : decode cX7_lake 29 = .ok (.aload_n 0, 1) := by decide +kernel
theorem dX7_lake_30 : decode cX7_lake 30 = .ok (.invokevirtual 142, 3) := by decide +kernel
theorem dX7_lake_33 : decode cX7_lake 33 = .ok (.aload_n 0, 1) := by decide +kernel
theorem dX7_lake_34 : decode cX7_lake 34 = .ok (.invokevirtual 178, 3) := by decide +kernel
theorem dX7_lake_37 : decode cX7_lake 37 = .ok (.istore_n 2, 1) := by decide +kernel
theorem dX7_lake_38 : decode cX7_lake 38 = .ok (.iload_n 2, 1) := by decide +kernel
theorem dX7_lake_39 : decode cX7_lake 39 = .ok (.ifCond .ne 6, 3) := by decide +kernel
theorem dX7_lake_42 : decode cX7_lake 42 = .ok (.goto (-17), 3) := by decide +kernel
theorem dX7_lake_45 : decode cX7_lake 45 = .ok (.iinc 1 1, 3) := by decide +kernel
theorem dX7_lake_48 : decode cX7_lake 48 = .ok (.aload_n 0, 1) := by decide +kernel
theorem dX7_lake_49 : decode cX7_lake 49 = .ok (.invokevirtual 142, 3) := by decide +kernel
theorem dX7_lake_52 : decode cX7_lake 52 = .ok (.aload_n 0, 1) := by decide +kernel
theorem dX7_lake_53 : decode cX7_lake 53 = .ok (.getfield 120, 3) := by decide +kernel
theorem dX7_lake_56 : decode cX7_lake 56 = .ok (.bipush 101, 2) := by decide +kernel
theorem dX7_lake_58 : decode cX7_lake 58 = .ok (.if_icmp .ne 10, 3) := by decide +kernel
theorem dX7_lake_61 : decode cX7_lake 61 = .ok (.aload_n 0, 1) := by decide +kernel
theorem dX7_lake_62 : decode cX7_lake 62 = .ok (.iconst 0, 1) := by decide +kernel
theorem dX7_lake_63 : decode cX7_lake 63 = .ok (.putfield 111, 3) := by decide +kernel
theorem dX7_lake_66 : decode cX7_lake 66 = .ok (.iload_n 1, 1) := by decide +kernel
theorem dX7_lake_67 : decode cX7_lake 67 = .ok (.ireturn, 1) := by decide +kernel
theorem dX7_lake_68 : decode cX7_lake 68 = .ok (.aload_n 0, 1) := by decide +kernel
theorem dX7_lake_69 : decode cX7_lake 69 = .ok (.getfield 120, 3) := by decide +kernel
theorem dX7_lake_72 : decode cX7_lake 72 = .ok (.bipush 59, 2) := by decide +kernel
theorem dX7_lake_74 : decode cX7_lake 74 = .ok (.if_icmp .ne 7, 3) := by decide +kernel
theorem dX7_lake_77 : decode cX7_lake 77 = .ok (.iconst 1, 1) := by decide +kernel
theorem dX7_lake_78 : decode cX7_lake 78 = .ok (.goto 4, 3) := by decide +kernel
theorem dX7_lake_81 : decode cX7_lake 81 = .ok (.iconst 0, 1) := by decide +kernel
theorem dX7_lake_82 : decode cX7_lake 82 = .ok (.istore_n 2, 1) := by decide +kernel
theorem dX7_lake_83 : decode cX7_lake 83 = .ok (.goto (-58), 3) := by decide +kernel
theorem dX7_lake_86 : decode cX7_lake 86 = .ok (.aload_n 0, 1) := by decide +kernel
theorem dX7_lake_87 : decode cX7_lake 87 = .ok (.aload_n 0, 1) := by decide +kernel
theorem dX7_lake_88 : decode cX7_lake 88 = .ok (.getfield 38, 3) := by decide +kernel
theorem dX7_lake_91 : decode cX7_lake 91 = .ok (.invokevirtual 181, 3) := by decide +kernel
theorem dX7_lake_94 : decode cX7_lake 94 = .ok (.aload_n 0, 1) := by decide +kernel
theorem dX7_lake_95 : decode cX7_lake 95 = .ok (.aload_n 0, 1) := by decide +kernel
theorem dX7_lake_96 : decode cX7_lake 96 = .ok (.getfield 175, 3) := by decide +kernel
theorem dX7_lake_99 : decode cX7_lake 99 = .ok (.putfield 90, 3) := by decide +kernel
theorem dX7_lake_102 : decode cX7_lake 102 = .ok (.aload_n 0, 1) := by decide +kernel
theorem dX7_lake_103 : decode cX7_lake 103 = .ok (.iconst 0, 1) := by decide +kernel
theorem dX7_lake_104 : decode cX7_lake 104 = .ok (.putfield 111, 3) := by decide +kernel
theorem dX7_lake_107 : decode cX7_lake 107 = .ok (.aload_n 0, 1) := by decide +kernel
theorem dX7_lake_108 : decode cX7_lake 108 = .ok (.bipush (-2), 2) := by decide +kernel
theorem dX7_lake_110 : decode cX7_lake 110 = .ok (.invokevirtual 69, 3) := by decide +kernel
theorem dX7_lake_113 : decode cX7_lake 113 = .ok (.pop, 1) := by decide +kernel
theorem dX7_lake_114 : decode cX7_lake 114 = .ok (.bipush (-20), 2) := by decide +kernel
theorem dX7_lake_116 : decode cX7_lake 116 = .ok (.aload_n 0, 1) := by decide +kernel
theorem dX7_lake_117 : decode cX7_lake 117 = .ok (.getfield 117, 3) := by decide +kernel
theorem dX7_lake_120 : decode cX7_lake 120 = .ok (.isub, 1) := by decide +kernel
theorem dX7_lake_121 : decode cX7_lake 121 = .ok (.ireturn, 1) := by decide +kernel
theorem dX7_lawOf_0 : decode cX7_lawOf 0 = .ok (.aload_n 0, 1) := by decide +kernel
theorem dX7_lawOf_1 : decode cX7_lawOf 1 = .ok (.iload_n 1, 1) := by decide +kernel
theorem dX7_lawOf_2 : decode cX7_lawOf 2 = .ok (.invokevirtual 83, 3) := by decide +kernel
theorem dX7_lawOf_5 : decode cX7_lawOf 5 = .ok (.ifCond .eq 12, 3) := by decide +kernel
theorem dX7_lawOf_8 : decode cX7_lawOf 8 = .ok (.iload_n 2, 1) := by decide +kernel
theorem dX7_lawOf_9 : decode cX7_lawOf 9 = .ok (.iconst 0, 1) := by decide +kernel
theorem dX7_lawOf_10 : decode cX7_lawOf 10 = .ok (.iconst 1, 1) := by decide +kernel
theorem dX7_lawOf_11 : decode cX7_lawOf 11 = .ok (.invokestatic 55, 3) := by decide +kernel
theorem dX7_lawOf_14 : decode cX7_lawOf 14 = .ok (.ifCond .ne 10, 3) := by decide +kernel
theorem dX7_lawOf_17 : decode cX7_lawOf 17 = .ok (.aload_n 0, 1) := by decide +kernel
theorem dX7_lawOf_18 : decode cX7_lawOf 18 = .ok (.bipush (-2), 2) := by decide +kernel
theorem dX7_lawOf_20 : decode cX7_lawOf 20 = .ok (.invokevirtual 69, 3) := by decide +kernel
theorem dX7_lawOf_23 : decode cX7_lawOf 23 = .ok (.ireturn, 1) := by decide +kernel
theorem dX7_lawOf_24 : decode cX7_lawOf 24 = .ok (.iload_n 2, 1) := by decide +kernel
theorem dX7_lawOf_25 : decode cX7_lawOf 25 = .ok (.ifCond .ne 12, 3) := by decide +kernel
theorem dX7_lawOf_28 : decode cX7_lawOf 28 = .ok (.aload_n 0, 1) := by decide +kernel
theorem dX7_lawOf_29 : decode cX7_lawOf 29 = .ok (.getfield 7, 3) := by decide +kernel
theorem dX7_lawOf_32 : decode cX7_lawOf 32 = .ok (.iload_n 1, 1) := by decide +kernel
theorem dX7_lawOf_33 : decode cX7_lawOf 33 = .ok (.iaload, 1) := by decide +kernel
theorem dX7_lawOf_34 : decode cX7_lawOf 34 = .ok (.goto 9, 3) := by decide +kernel
theorem dX7_lawOf_37 : decode cX7_lawOf 37 = .ok (.aload_n 0, 1) := by decide +kernel
theorem dX7_lawOf_38 : decode cX7_lawOf 38 = .ok (.getfield 13, 3) := by decide +kernel
theorem dX7_lawOf_41 : decode cX7_lawOf 41 = .ok (.iload_n 1, 1) := by decide +kernel
theorem dX7_lawOf_42 : decode cX7_lawOf 42 = .ok (.iaload, 1) := by decide +kernel
theorem dX7_lawOf_43 : decode cX7_lawOf 43 = .ok (.ireturn, 1) := by decide +kernel
theorem dX7_age_0 : decode cX7_age 0 = .ok (.aload_n 0, 1) := by decide +kernel
theorem dX7_age_1 : decode cX7_age 1 = .ok (.iload_n 1, 1) := by decide +kernel
theorem dX7_age_2 : decode cX7_age 2 = .ok (.invokevirtual 184, 3) := by decide +kernel
theorem dX7_age_5 : decode cX7_age 5 = .ok (.ifCond .eq 12, 3) := by decide +kernel
theorem dX7_age_8 : decode cX7_age 8 = .ok (.aload_n 0, 1) := by decide +kernel
theorem dX7_age_9 : decode cX7_age 9 = .ok (.getfield 16, 3) := by decide +kernel
theorem dX7_age_12 : decode cX7_age 12 = .ok (.iload_n 1, 1) := by decide +kernel
theorem dX7_age_13 : decode cX7_age 13 = .ok (.iaload, 1) := by decide +kernel
theorem dX7_age_14 : decode cX7_age 14 = .ok (.goto 9, 3) := by decide +kernel
theorem dX7_age_17 : decode cX7_age 17 = .ok (.aload_n 0, 1) := by decide +kernel
theorem dX7_age_18 : decode cX7_age 18 = .ok (.bipush (-2), 2) := by decide +kernel
theorem dX7_age_20 : decode cX7_age 20 = .ok (.invokevirtual 69, 3) := by decide +kernel
theorem dX7_age_23 : decode cX7_age 23 = .ok (.ireturn, 1) := by decide +kernel
theorem dX7_step_0 : decode cX7_step 0 = .ok (.aload_n 0, 1) := by decide +kernel
theorem dX7_step_1 : decode cX7_step 1 = .ok (.iload_n 1, 1) := by decide +kernel
theorem dX7_step_2 : decode cX7_step 2 = .ok (.invokevirtual 187, 3) := by decide +kernel
theorem dX7_step_5 : decode cX7_step 5 = .ok (.ifCond .eq 22, 3) := by decide +kernel
theorem dX7_step_8 : decode cX7_step 8 = .ok (.aload_n 0, 1) := by decide +kernel
theorem dX7_step_9 : decode cX7_step 9 = .ok (.getfield 90, 3) := by decide +kernel
theorem dX7_step_12 : decode cX7_step 12 = .ok (.iload_n 1, 1) := by decide +kernel
theorem dX7_step_13 : decode cX7_step 13 = .ok (.invokestatic 190, 3) := by decide +kernel
theorem dX7_step_16 : decode cX7_step 16 = .ok (.ifCond .eq 7, 3) := by decide +kernel
theorem dX7_step_19 : decode cX7_step 19 = .ok (.iconst 1, 1) := by decide +kernel
theorem dX7_step_20 : decode cX7_step 20 = .ok (.goto 13, 3) := by decide +kernel
theorem dX7_step_23 : decode cX7_step 23 = .ok (.iconst 0, 1) := by decide +kernel
theorem dX7_step_24 : decode cX7_step 24 = .ok (.goto 9, 3) := by decide +kernel
theorem dX7_step_27 : decode cX7_step 27 = .ok (.aload_n 0, 1) := by decide +kernel
theorem dX7_step_28 : decode cX7_step 28 = .ok (.bipush (-2), 2) := by decide +kernel
theorem dX7_step_30 : decode cX7_step 30 = .ok (.invokevirtual 69, 3) := by decide +kernel
theorem dX7_step_33 : decode cX7_step 33 = .ok (.ireturn, 1) := by decide +kernel
theorem dX7_isStroke_0 : decode cX7_isStroke 0 = .ok (.iload_n 3, 1) := by decide +kernel
theorem dX7_isStroke_1 : decode cX7_isStroke 1 = .ok (.ifCond .lt 17, 3) := by decide +kernel
theorem dX7_isStroke_4 : decode cX7_isStroke 4 = .ok (.lload_n 0, 1) := by decide +kernel
theorem dX7_isStroke_5 : decode cX7_isStroke 5 = .ok (.iload_n 3, 1) := by decide +kernel
theorem dX7_isStroke_6 : decode cX7_isStroke 6 = .ok (.iload_n 2, 1) := by decide +kernel
theorem dX7_isStroke_7 : decode cX7_isStroke 7 = .ok (.irem, 1) := by decide +kernel
theorem dX7_isStroke_8 : decode cX7_isStroke 8 = .ok (.invokestatic 190, 3) := by decide +kernel
theorem dX7_isStroke_11 : decode cX7_isStroke 11 = .ok (.ifCond .eq 7, 3) := by decide +kernel
theorem dX7_isStroke_14 : decode cX7_isStroke 14 = .ok (.iconst 1, 1) := by decide +kernel
theorem dX7_isStroke_15 : decode cX7_isStroke 15 = .ok (.goto 4, 3) := by decide +kernel
theorem dX7_isStroke_18 : decode cX7_isStroke 18 = .ok (.iconst 0, 1) := by decide +kernel
theorem dX7_isStroke_19 : decode cX7_isStroke 19 = .ok (.ireturn, 1) := by decide +kernel
theorem dX7_strokes_0 : decode cX7_strokes 0 = .ok (.iload_n 3, 1) := by decide +kernel
theorem dX7_strokes_1 : decode cX7_strokes 1 = .ok (.iload_n 2, 1) := by decide +kernel
theorem dX7_strokes_2 : decode cX7_strokes 2 = .ok (.irem, 1) := by decide +kernel
theorem dX7_strokes_3 : decode cX7_strokes 3 = .ok (.istore 4, 2) := by decide +kernel
theorem dX7_strokes_5 : decode cX7_strokes 5 = .ok (.iload_n 3, 1) := by decide +kernel
theorem dX7_strokes_6 : decode cX7_strokes 6 = .ok (.iload_n 2, 1) := by decide +kernel
theorem dX7_strokes_7 : decode cX7_strokes 7 = .ok (.idiv, 1) := by decide +kernel
theorem dX7_strokes_8 : decode cX7_strokes 8 = .ok (.lload_n 0, 1) := by decide +kernel
theorem dX7_strokes_9 : decode cX7_strokes 9 = .ok (.invokestatic 194, 3) := by decide +kernel
theorem dX7_strokes_12 : decode cX7_strokes 12 = .ok (.imul, 1) := by decide +kernel
theorem dX7_strokes_13 : decode cX7_strokes 13 = .ok (.lload_n 0, 1) := by decide +kernel
theorem dX7_strokes_14 : decode cX7_strokes 14 = .ok (.lconst 1, 1) := by decide +kernel
theorem dX7_strokes_15 : decode cX7_strokes 15 = .ok (.iload 4, 2) := by decide +kernel
theorem dX7_strokes_17 : decode cX7_strokes 17 = .ok (.lshl, 1) := by decide +kernel
theorem dX7_strokes_18 : decode cX7_strokes 18 = .ok (.lconst 1, 1) := by decide +kernel
theorem dX7_strokes_19 : decode cX7_strokes 19 = .ok (.lsub, 1) := by decide +kernel
theorem dX7_strokes_20 : decode cX7_strokes 20 = .ok (.land, 1) := by decide +kernel
theorem dX7_strokes_21 : decode cX7_strokes 21 = .ok (.invokestatic 194, 3) := by decide +kernel
theorem dX7_strokes_24 : decode cX7_strokes 24 = .ok (.iadd, 1) := by decide +kernel
theorem dX7_strokes_25 : decode cX7_strokes 25 = .ok (.ireturn, 1) := by decide +kernel
theorem dX7_strikesAt_0 : decode cX7_strikesAt 0 = .ok (.aload_n 0, 1) := by decide +kernel
theorem dX7_strikesAt_1 : decode cX7_strikesAt 1 = .ok (.getfield 13, 3) := by decide +kernel
theorem dX7_strikesAt_4 : decode cX7_strikesAt 4 = .ok (.iload_n 1, 1) := by decide +kernel
theorem dX7_strikesAt_5 : decode cX7_strikesAt 5 = .ok (.iaload, 1) := by decide +kernel
theorem dX7_strikesAt_6 : decode cX7_strikesAt 6 = .ok (.istore 6, 2) := by decide +kernel
theorem dX7_strikesAt_8 : decode cX7_strikesAt 8 = .ok (.aload_n 0, 1) := by decide +kernel
theorem dX7_strikesAt_9 : decode cX7_strikesAt 9 = .ok (.getfield 7, 3) := by decide +kernel
theorem dX7_strikesAt_12 : decode cX7_strikesAt 12 = .ok (.iload_n 1, 1) := by decide +kernel
theorem dX7_strikesAt_13 : decode cX7_strikesAt 13 = .ok (.iaload, 1) := by decide +kernel
theorem dX7_strikesAt_14 : decode cX7_strikesAt 14 = .ok (.tableswitch 154 1 5 #[34, 62, 48, 105, 138], 34) := by decide +kernel
theorem dX7_strikesAt_48 : decode cX7_strikesAt 48 = .ok (.lload_n 2, 1) := by decide +kernel
theorem dX7_strikesAt_49 : decode cX7_strikesAt 49 = .ok (.iload 4, 2) := by decide +kernel
theorem dX7_strikesAt_51 : decode cX7_strikesAt 51 = .ok (.iload 5, 2) := by decide +kernel
theorem dX7_strikesAt_53 : decode cX7_strikesAt 53 = .ok (.iload 6, 2) := by decide +kernel
theorem dX7_strikesAt_55 : decode cX7_strikesAt 55 = .ok (.isub, 1) := by decide +kernel
theorem dX7_strikesAt_56 : decode cX7_strikesAt 56 = .ok (.iconst 1, 1) := by decide +kernel
theorem dX7_strikesAt_57 : decode cX7_strikesAt 57 = .ok (.isub, 1) := by decide +kernel
theorem dX7_strikesAt_58 : decode cX7_strikesAt 58 = .ok (.invokestatic 200, 3) := by decide +kernel
theorem dX7_strikesAt_61 : decode cX7_strikesAt 61 = .ok (.ireturn, 1) := by decide +kernel
theorem dX7_strikesAt_62 : decode cX7_strikesAt 62 = .ok (.lload_n 2, 1) := by decide +kernel
theorem dX7_strikesAt_63 : decode cX7_strikesAt 63 = .ok (.iload 4, 2) := by decide +kernel
theorem dX7_strikesAt_65 : decode cX7_strikesAt 65 = .ok (.iload 5, 2) := by decide +kernel
theorem dX7_strikesAt_67 : decode cX7_strikesAt 67 = .ok (.iload 6, 2) := by decide +kernel
theorem dX7_strikesAt_69 : decode cX7_strikesAt 69 = .ok (.isub, 1) := by decide +kernel
theorem dX7_strikesAt_70 : decode cX7_strikesAt 70 = .ok (.iconst 2, 1) := by decide +kernel
theorem dX7_strikesAt_71 : decode cX7_strikesAt 71 = .ok (.isub, 1) := by decide +kernel
theorem dX7_strikesAt_72 : decode cX7_strikesAt 72 = .ok (.invokestatic 200, 3) := by decide +kernel
theorem dX7_strikesAt_75 : decode cX7_strikesAt 75 = .ok (.ireturn, 1) := by decide +kernel
theorem dX7_strikesAt_76 : decode cX7_strikesAt 76 = .ok (.iload 5, 2) := by decide +kernel
theorem dX7_strikesAt_78 : decode cX7_strikesAt 78 = .ok (.iload 6, 2) := by decide +kernel
theorem dX7_strikesAt_80 : decode cX7_strikesAt 80 = .ok (.if_icmp .ge 5, 3) := by decide +kernel
theorem dX7_strikesAt_83 : decode cX7_strikesAt 83 = .ok (.iconst 0, 1) := by decide +kernel
theorem dX7_strikesAt_84 : decode cX7_strikesAt 84 = .ok (.ireturn, 1) := by decide +kernel
theorem dX7_strikesAt_85 : decode cX7_strikesAt 85 = .ok (.iconst 0, 1) := by decide +kernel
theorem dX7_strikesAt_86 : decode cX7_strikesAt 86 = .ok (.istore 7, 2) := by decide +kernel
theorem dX7_strikesAt_88 : decode cX7_strikesAt 88 = .ok (.iload 7, 2) := by decide +kernel
theorem dX7_strikesAt_90 : decode cX7_strikesAt 90 = .ok (.iload 6, 2) := by decide +kernel
theorem dX7_strikesAt_92 : decode cX7_strikesAt 92 = .ok (.if_icmp .gt 25, 3) := by decide +kernel
theorem dX7_strikesAt_95 : decode cX7_strikesAt 95 = .ok (.lload_n 2, 1) := by decide +kernel
theorem dX7_strikesAt_96 : decode cX7_strikesAt 96 = .ok (.iload 4, 2) := by decide +kernel
theorem dX7_strikesAt_98 : decode cX7_strikesAt 98 = .ok (.iload 5, 2) := by decide +kernel
theorem dX7_strikesAt_100 : decode cX7_strikesAt 100 = .ok (.iload 7, 2) := by decide +kernel
theorem dX7_strikesAt_102 : decode cX7_strikesAt 102 = .ok (.isub, 1) := by decide +kernel
theorem dX7_strikesAt_103 : decode cX7_strikesAt 103 = .ok (.invokestatic 200, 3) := by decide +kernel
theorem dX7_strikesAt_106 : decode cX7_strikesAt 106 = .ok (.ifCond .eq 5, 3) := by decide +kernel
theorem dX7_strikesAt_109 : decode cX7_strikesAt 109 = .ok (.iconst 0, 1) := by decide +kernel
theorem dX7_strikesAt_110 : decode cX7_strikesAt 110 = .ok (.ireturn, 1) := by decide +kernel
theorem dX7_strikesAt_111 : decode cX7_strikesAt 111 = .ok (.iinc 7 1, 3) := by decide +kernel
theorem dX7_strikesAt_114 : decode cX7_strikesAt 114 = .ok (.goto (-26), 3) := by decide +kernel
theorem dX7_strikesAt_117 : decode cX7_strikesAt 117 = .ok (.iconst 1, 1) := by decide +kernel
theorem dX7_strikesAt_118 : decode cX7_strikesAt 118 = .ok (.ireturn, 1) := by decide +kernel
theorem dX7_strikesAt_119 : decode cX7_strikesAt 119 = .ok (.lload_n 2, 1) := by decide +kernel
theorem dX7_strikesAt_120 : decode cX7_strikesAt 120 = .ok (.iload 4, 2) := by decide +kernel
theorem dX7_strikesAt_122 : decode cX7_strikesAt 122 = .ok (.iload 5, 2) := by decide +kernel
theorem dX7_strikesAt_124 : decode cX7_strikesAt 124 = .ok (.invokestatic 200, 3) := by decide +kernel
theorem dX7_strikesAt_127 : decode cX7_strikesAt 127 = .ok (.ifCond .ne 23, 3) := by decide +kernel
theorem dX7_strikesAt_130 : decode cX7_strikesAt 130 = .ok (.lload_n 2, 1) := by decide +kernel
theorem dX7_strikesAt_131 : decode cX7_strikesAt 131 = .ok (.iload 4, 2) := by decide +kernel
theorem dX7_strikesAt_133 : decode cX7_strikesAt 133 = .ok (.iload 5, 2) := by decide +kernel
theorem dX7_strikesAt_135 : decode cX7_strikesAt 135 = .ok (.invokestatic 204, 3) := by decide +kernel
theorem dX7_strikesAt_138 : decode cX7_strikesAt 138 = .ok (.iload 6, 2) := by decide +kernel
theorem dX7_strikesAt_140 : decode cX7_strikesAt 140 = .ok (.iconst 1, 1) := by decide +kernel
theorem dX7_strikesAt_141 : decode cX7_strikesAt 141 = .ok (.iadd, 1) := by decide +kernel
theorem dX7_strikesAt_142 : decode cX7_strikesAt 142 = .ok (.irem, 1) := by decide +kernel
theorem dX7_strikesAt_143 : decode cX7_strikesAt 143 = .ok (.ifCond .ne 7, 3) := by decide +kernel
theorem dX7_strikesAt_146 : decode cX7_strikesAt 146 = .ok (.iconst 1, 1) := by decide +kernel
theorem dX7_strikesAt_147 : decode cX7_strikesAt 147 = .ok (.goto 4, 3) := by decide +kernel
theorem dX7_strikesAt_150 : decode cX7_strikesAt 150 = .ok (.iconst 0, 1) := by decide +kernel
theorem dX7_strikesAt_151 : decode cX7_strikesAt 151 = .ok (.ireturn, 1) := by decide +kernel
theorem dX7_strikesAt_152 : decode cX7_strikesAt 152 = .ok (.iload 5, 2) := by decide +kernel
theorem dX7_strikesAt_154 : decode cX7_strikesAt 154 = .ok (.iload 6, 2) := by decide +kernel
theorem dX7_strikesAt_156 : decode cX7_strikesAt 156 = .ok (.iconst 2, 1) := by decide +kernel
theorem dX7_strikesAt_157 : decode cX7_strikesAt 157 = .ok (.iadd, 1) := by decide +kernel
theorem dX7_strikesAt_158 : decode cX7_strikesAt 158 = .ok (.irem, 1) := by decide +kernel
theorem dX7_strikesAt_159 : decode cX7_strikesAt 159 = .ok (.ifCond .ne 7, 3) := by decide +kernel
theorem dX7_strikesAt_162 : decode cX7_strikesAt 162 = .ok (.iconst 1, 1) := by decide +kernel
theorem dX7_strikesAt_163 : decode cX7_strikesAt 163 = .ok (.goto 4, 3) := by decide +kernel
theorem dX7_strikesAt_166 : decode cX7_strikesAt 166 = .ok (.iconst 0, 1) := by decide +kernel
theorem dX7_strikesAt_167 : decode cX7_strikesAt 167 = .ok (.ireturn, 1) := by decide +kernel
theorem dX7_strikesAt_168 : decode cX7_strikesAt 168 = .ok (.lload_n 2, 1) := by decide +kernel
theorem dX7_strikesAt_169 : decode cX7_strikesAt 169 = .ok (.iload 4, 2) := by decide +kernel
theorem dX7_strikesAt_171 : decode cX7_strikesAt 171 = .ok (.iload 5, 2) := by decide +kernel
theorem dX7_strikesAt_173 : decode cX7_strikesAt 173 = .ok (.invokestatic 200, 3) := by decide +kernel
theorem dX7_strikesAt_176 : decode cX7_strikesAt 176 = .ok (.ifCond .ne 7, 3) := by decide +kernel
theorem dX7_strikesAt_179 : decode cX7_strikesAt 179 = .ok (.iconst 1, 1) := by decide +kernel
theorem dX7_strikesAt_180 : decode cX7_strikesAt 180 = .ok (.goto 4, 3) := by decide +kernel
theorem dX7_strikesAt_183 : decode cX7_strikesAt 183 = .ok (.iconst 0, 1) := by decide +kernel
theorem dX7_strikesAt_184 : decode cX7_strikesAt 184 = .ok (.ireturn, 1) := by decide +kernel
theorem dX7_strikesNow_0 : decode cX7_strikesNow 0 = .ok (.aload_n 0, 1) := by decide +kernel
theorem dX7_strikesNow_1 : decode cX7_strikesNow 1 = .ok (.getfield 52, 3) := by decide +kernel
theorem dX7_strikesNow_4 : decode cX7_strikesNow 4 = .ok (.ifCond .le 27, 3) := by decide +kernel
theorem dX7_strikesNow_7 : decode cX7_strikesNow 7 = .ok (.iload 4, 2) := by decide +kernel
theorem dX7_strikesNow_9 : decode cX7_strikesNow 9 = .ok (.ifCond .lt 22, 3) := by decide +kernel
theorem dX7_strikesNow_12 : decode cX7_strikesNow 12 = .ok (.aload_n 0, 1) := by decide +kernel
theorem dX7_strikesNow_13 : decode cX7_strikesNow 13 = .ok (.aload_n 0, 1) := by decide +kernel
theorem dX7_strikesNow_14 : decode cX7_strikesNow 14 = .ok (.getfield 102, 3) := by decide +kernel
theorem dX7_strikesNow_17 : decode cX7_strikesNow 17 = .ok (.lload_n 1, 1) := by decide +kernel
theorem dX7_strikesNow_18 : decode cX7_strikesNow 18 = .ok (.iload_n 3, 1) := by decide +kernel
theorem dX7_strikesNow_19 : decode cX7_strikesNow 19 = .ok (.iload 4, 2) := by decide +kernel
theorem dX7_strikesNow_21 : decode cX7_strikesNow 21 = .ok (.invokevirtual 208, 3) := by decide +kernel
theorem dX7_strikesNow_24 : decode cX7_strikesNow 24 = .ok (.ifCond .eq 7, 3) := by decide +kernel
theorem dX7_strikesNow_27 : decode cX7_strikesNow 27 = .ok (.iconst 1, 1) := by decide +kernel
theorem dX7_strikesNow_28 : decode cX7_strikesNow 28 = .ok (.goto 4, 3) := by decide +kernel
theorem dX7_strikesNow_31 : decode cX7_strikesNow 31 = .ok (.iconst 0, 1) := by decide +kernel
theorem dX7_strikesNow_32 : decode cX7_strikesNow 32 = .ok (.ireturn, 1) := by decide +kernel
theorem dX7_struck_0 : decode cX7_struck 0 = .ok (.iconst 0, 1) := by decide +kernel
theorem dX7_struck_1 : decode cX7_struck 1 = .ok (.istore 5, 2) := by decide +kernel
theorem dX7_struck_3 : decode cX7_struck 3 = .ok (.iconst 0, 1) := by decide +kernel
theorem dX7_struck_4 : decode cX7_struck 4 = .ok (.istore 6, 2) := by decide +kernel
theorem dX7_struck_6 : decode cX7_struck 6 = .ok (.iload 6, 2) := by decide +kernel
theorem dX7_struck_8 : decode cX7_struck 8 = .ok (.iload 4, 2) := by decide +kernel
theorem dX7_struck_10 : decode cX7_struck 10 = .ok (.if_icmp .ge 25, 3) := by decide +kernel
theorem dX7_struck_13 : decode cX7_struck 13 = .ok (.aload_n 0, 1) := by decide +kernel
theorem dX7_struck_14 : decode cX7_struck 14 = .ok (.iload_n 1, 1) := by decide +kernel
theorem dX7_struck_15 : decode cX7_struck 15 = .ok (.lload_n 2, 1) := by decide +kernel
theorem dX7_struck_16 : decode cX7_struck 16 = .ok (.iload 4, 2) := by decide +kernel
theorem dX7_struck_18 : decode cX7_struck 18 = .ok (.iload 6, 2) := by decide +kernel
theorem dX7_struck_20 : decode cX7_struck 20 = .ok (.invokevirtual 208, 3) := by decide +kernel
theorem dX7_struck_23 : decode cX7_struck 23 = .ok (.ifCond .eq 6, 3) := by decide +kernel
theorem dX7_struck_26 : decode cX7_struck 26 = .ok (.iinc 5 1, 3) := by decide +kernel
theorem dX7_struck_29 : decode cX7_struck 29 = .ok (.iinc 6 1, 3) := by decide +kernel
theorem dX7_struck_32 : decode cX7_struck 32 = .ok (.goto (-26), 3) := by decide +kernel
theorem dX7_struck_35 : decode cX7_struck 35 = .ok (.iload 5, 2) := by decide +kernel
theorem dX7_struck_37 : decode cX7_struck 37 = .ok (.ireturn, 1) := by decide +kernel
theorem dX7_struckNow_0 : decode cX7_struckNow 0 = .ok (.aload_n 0, 1) := by decide +kernel
theorem dX7_struckNow_1 : decode cX7_struckNow 1 = .ok (.getfield 52, 3) := by decide +kernel
theorem dX7_struckNow_4 : decode cX7_struckNow 4 = .ok (.ifCond .ne 7, 3) := by decide +kernel
theorem dX7_struckNow_7 : decode cX7_struckNow 7 = .ok (.iconst 0, 1) := by decide +kernel
theorem dX7_struckNow_8 : decode cX7_struckNow 8 = .ok (.goto 13, 3) := by decide +kernel
theorem dX7_struckNow_11 : decode cX7_struckNow 11 = .ok (.aload_n 0, 1) := by decide +kernel
theorem dX7_struckNow_12 : decode cX7_struckNow 12 = .ok (.aload_n 0, 1) := by decide +kernel
theorem dX7_struckNow_13 : decode cX7_struckNow 13 = .ok (.getfield 102, 3) := by decide +kernel
theorem dX7_struckNow_16 : decode cX7_struckNow 16 = .ok (.lload_n 1, 1) := by decide +kernel
theorem dX7_struckNow_17 : decode cX7_struckNow 17 = .ok (.iload_n 3, 1) := by decide +kernel
theorem dX7_struckNow_18 : decode cX7_struckNow 18 = .ok (.invokevirtual 94, 3) := by decide +kernel
theorem dX7_struckNow_21 : decode cX7_struckNow 21 = .ok (.ireturn, 1) := by decide +kernel
theorem dX7_struckBits_0 : decode cX7_struckBits 0 = .ok (.lconst 0, 1) := by decide +kernel
theorem dX7_struckBits_1 : decode cX7_struckBits 1 = .ok (.lstore 5, 2) := by decide +kernel
theorem dX7_struckBits_3 : decode cX7_struckBits 3 = .ok (.iconst 0, 1) := by decide +kernel
theorem dX7_struckBits_4 : decode cX7_struckBits 4 = .ok (.istore 7, 2) := by decide +kernel
theorem dX7_struckBits_6 : decode cX7_struckBits 6 = .ok (.iload 7, 2) := by decide +kernel
theorem dX7_struckBits_8 : decode cX7_struckBits 8 = .ok (.iload 4, 2) := by decide +kernel
theorem dX7_struckBits_10 : decode cX7_struckBits 10 = .ok (.if_icmp .ge 31, 3) := by decide +kernel
theorem dX7_struckBits_13 : decode cX7_struckBits 13 = .ok (.aload_n 0, 1) := by decide +kernel
theorem dX7_struckBits_14 : decode cX7_struckBits 14 = .ok (.iload_n 1, 1) := by decide +kernel
theorem dX7_struckBits_15 : decode cX7_struckBits 15 = .ok (.lload_n 2, 1) := by decide +kernel
theorem dX7_struckBits_16 : decode cX7_struckBits 16 = .ok (.iload 4, 2) := by decide +kernel
theorem dX7_struckBits_18 : decode cX7_struckBits 18 = .ok (.iload 7, 2) := by decide +kernel
theorem dX7_struckBits_20 : decode cX7_struckBits 20 = .ok (.invokevirtual 208, 3) := by decide +kernel
theorem dX7_struckBits_23 : decode cX7_struckBits 23 = .ok (.ifCond .eq 12, 3) := by decide +kernel
theorem dX7_struckBits_26 : decode cX7_struckBits 26 = .ok (.lload 5, 2) := by decide +kernel
theorem dX7_struckBits_28 : decode cX7_struckBits 28 = .ok (.lconst 1, 1) := by decide +kernel
theorem dX7_struckBits_29 : decode cX7_struckBits 29 = .ok (.iload 7, 2) := by decide +kernel
theorem dX7_struckBits_31 : decode cX7_struckBits 31 = .ok (.lshl, 1) := by decide +kernel
theorem dX7_struckBits_32 : decode cX7_struckBits 32 = .ok (.lor, 1) := by decide +kernel
theorem dX7_struckBits_33 : decode cX7_struckBits 33 = .ok (.lstore 5, 2) := by decide +kernel
theorem dX7_struckBits_35 : decode cX7_struckBits 35 = .ok (.iinc 7 1, 3) := by decide +kernel
theorem dX7_struckBits_38 : decode cX7_struckBits 38 = .ok (.goto (-32), 3) := by decide +kernel
theorem dX7_struckBits_41 : decode cX7_struckBits 41 = .ok (.lload 5, 2) := by decide +kernel
theorem dX7_struckBits_43 : decode cX7_struckBits 43 = .ok (.lreturn, 1) := by decide +kernel
theorem dX7_isHeard_0 : decode cX7_isHeard 0 = .ok (.lload_n 1, 1) := by decide +kernel
theorem dX7_isHeard_1 : decode cX7_isHeard 1 = .ok (.iload 4, 2) := by decide +kernel
theorem dX7_isHeard_3 : decode cX7_isHeard 3 = .ok (.invokestatic 190, 3) := by decide +kernel
theorem dX7_isHeard_6 : decode cX7_isHeard 6 = .ok (.ifCond .ne 19, 3) := by decide +kernel
theorem dX7_isHeard_9 : decode cX7_isHeard 9 = .ok (.aload_n 0, 1) := by decide +kernel
theorem dX7_isHeard_10 : decode cX7_isHeard 10 = .ok (.lload_n 1, 1) := by decide +kernel
theorem dX7_isHeard_11 : decode cX7_isHeard 11 = .ok (.iload_n 3, 1) := by decide +kernel
theorem dX7_isHeard_12 : decode cX7_isHeard 12 = .ok (.iload 4, 2) := by decide +kernel
theorem dX7_isHeard_14 : decode cX7_isHeard 14 = .ok (.aload_n 0, 1) := by decide +kernel
theorem dX7_isHeard_15 : decode cX7_isHeard 15 = .ok (.getfield 45, 3) := by decide +kernel
theorem dX7_isHeard_18 : decode cX7_isHeard 18 = .ok (.isub, 1) := by decide +kernel
theorem dX7_isHeard_19 : decode cX7_isHeard 19 = .ok (.invokevirtual 212, 3) := by decide +kernel
theorem dX7_isHeard_22 : decode cX7_isHeard 22 = .ok (.ifCond .eq 7, 3) := by decide +kernel
theorem dX7_isHeard_25 : decode cX7_isHeard 25 = .ok (.iconst 1, 1) := by decide +kernel
theorem dX7_isHeard_26 : decode cX7_isHeard 26 = .ok (.goto 4, 3) := by decide +kernel
theorem dX7_isHeard_29 : decode cX7_isHeard 29 = .ok (.iconst 0, 1) := by decide +kernel
theorem dX7_isHeard_30 : decode cX7_isHeard 30 = .ok (.ireturn, 1) := by decide +kernel
theorem dX7_isBoth_0 : decode cX7_isBoth 0 = .ok (.lload_n 1, 1) := by decide +kernel
theorem dX7_isBoth_1 : decode cX7_isBoth 1 = .ok (.iload 4, 2) := by decide +kernel
theorem dX7_isBoth_3 : decode cX7_isBoth 3 = .ok (.invokestatic 190, 3) := by decide +kernel
theorem dX7_isBoth_6 : decode cX7_isBoth 6 = .ok (.ifCond .eq 23, 3) := by decide +kernel
theorem dX7_isBoth_9 : decode cX7_isBoth 9 = .ok (.aload_n 0, 1) := by decide +kernel
theorem dX7_isBoth_10 : decode cX7_isBoth 10 = .ok (.lload_n 1, 1) := by decide +kernel
theorem dX7_isBoth_11 : decode cX7_isBoth 11 = .ok (.iload_n 3, 1) := by decide +kernel
theorem dX7_isBoth_12 : decode cX7_isBoth 12 = .ok (.iload 4, 2) := by decide +kernel
theorem dX7_isBoth_14 : decode cX7_isBoth 14 = .ok (.aload_n 0, 1) := by decide +kernel
theorem dX7_isBoth_15 : decode cX7_isBoth 15 = .ok (.getfield 45, 3) := by decide +kernel
theorem dX7_isBoth_18 : decode cX7_isBoth 18 = .ok (.isub, 1) := by decide +kernel
theorem dX7_isBoth_19 : decode cX7_isBoth 19 = .ok (.invokevirtual 212, 3) := by decide +kernel
theorem dX7_isBoth_22 : decode cX7_isBoth 22 = .ok (.ifCond .eq 7, 3) := by decide +kernel
theorem dX7_isBoth_25 : decode cX7_isBoth 25 = .ok (.iconst 1, 1) := by decide +kernel
theorem dX7_isBoth_26 : decode cX7_isBoth 26 = .ok (.goto 4, 3) := by decide +kernel
theorem dX7_isBoth_29 : decode cX7_isBoth 29 = .ok (.iconst 0, 1) := by decide +kernel
theorem dX7_isBoth_30 : decode cX7_isBoth 30 = .ok (.ireturn, 1) := by decide +kernel
theorem dX7_is_0 : decode cX7_is 0 = .ok (.iload 5, 2) := by decide +kernel
theorem dX7_is_2 : decode cX7_is 2 = .ok (.ifCond .ne 14, 3) := by decide +kernel
theorem dX7_is_5 : decode cX7_is 5 = .ok (.aload_n 0, 1) := by decide +kernel
theorem dX7_is_6 : decode cX7_is 6 = .ok (.lload_n 1, 1) := by decide +kernel
theorem dX7_is_7 : decode cX7_is 7 = .ok (.iload_n 3, 1) := by decide +kernel
theorem dX7_is_8 : decode cX7_is 8 = .ok (.iload 4, 2) := by decide +kernel
theorem dX7_is_10 : decode cX7_is 10 = .ok (.invokevirtual 215, 3) := by decide +kernel
theorem dX7_is_13 : decode cX7_is 13 = .ok (.goto 36, 3) := by decide +kernel
theorem dX7_is_16 : decode cX7_is 16 = .ok (.iload 5, 2) := by decide +kernel
theorem dX7_is_18 : decode cX7_is 18 = .ok (.iconst 1, 1) := by decide +kernel
theorem dX7_is_19 : decode cX7_is 19 = .ok (.if_icmp .ne 14, 3) := by decide +kernel
theorem dX7_is_22 : decode cX7_is 22 = .ok (.aload_n 0, 1) := by decide +kernel
theorem dX7_is_23 : decode cX7_is 23 = .ok (.lload_n 1, 1) := by decide +kernel
theorem dX7_is_24 : decode cX7_is 24 = .ok (.iload_n 3, 1) := by decide +kernel
theorem dX7_is_25 : decode cX7_is 25 = .ok (.iload 4, 2) := by decide +kernel
theorem dX7_is_27 : decode cX7_is 27 = .ok (.invokevirtual 218, 3) := by decide +kernel
theorem dX7_is_30 : decode cX7_is 30 = .ok (.goto 19, 3) := by decide +kernel
theorem dX7_is_33 : decode cX7_is 33 = .ok (.aload_n 0, 1) := by decide +kernel
theorem dX7_is_34 : decode cX7_is 34 = .ok (.lload_n 1, 1) := by decide +kernel
theorem dX7_is_35 : decode cX7_is 35 = .ok (.iload_n 3, 1) := by decide +kernel
theorem dX7_is_36 : decode cX7_is 36 = .ok (.iload 4, 2) := by decide +kernel
theorem dX7_is_38 : decode cX7_is 38 = .ok (.invokevirtual 215, 3) := by decide +kernel
theorem dX7_is_41 : decode cX7_is 41 = .ok (.ifCond .ne 7, 3) := by decide +kernel
theorem dX7_is_44 : decode cX7_is 44 = .ok (.iconst 1, 1) := by decide +kernel
theorem dX7_is_45 : decode cX7_is 45 = .ok (.goto 4, 3) := by decide +kernel
theorem dX7_is_48 : decode cX7_is 48 = .ok (.iconst 0, 1) := by decide +kernel
theorem dX7_is_49 : decode cX7_is 49 = .ok (.ireturn, 1) := by decide +kernel
theorem dX7_many_0 : decode cX7_many 0 = .ok (.iconst 0, 1) := by decide +kernel
theorem dX7_many_1 : decode cX7_many 1 = .ok (.istore 5, 2) := by decide +kernel
theorem dX7_many_3 : decode cX7_many 3 = .ok (.iconst 0, 1) := by decide +kernel
theorem dX7_many_4 : decode cX7_many 4 = .ok (.istore 6, 2) := by decide +kernel
theorem dX7_many_6 : decode cX7_many 6 = .ok (.iload 6, 2) := by decide +kernel
theorem dX7_many_8 : decode cX7_many 8 = .ok (.iload_n 3, 1) := by decide +kernel
theorem dX7_many_9 : decode cX7_many 9 = .ok (.if_icmp .ge 25, 3) := by decide +kernel
theorem dX7_many_12 : decode cX7_many 12 = .ok (.aload_n 0, 1) := by decide +kernel
theorem dX7_many_13 : decode cX7_many 13 = .ok (.lload_n 1, 1) := by decide +kernel
theorem dX7_many_14 : decode cX7_many 14 = .ok (.iload_n 3, 1) := by decide +kernel
theorem dX7_many_15 : decode cX7_many 15 = .ok (.iload 6, 2) := by decide +kernel
theorem dX7_many_17 : decode cX7_many 17 = .ok (.iload 4, 2) := by decide +kernel
theorem dX7_many_19 : decode cX7_many 19 = .ok (.invokevirtual 221, 3) := by decide +kernel
theorem dX7_many_22 : decode cX7_many 22 = .ok (.ifCond .eq 6, 3) := by decide +kernel
theorem dX7_many_25 : decode cX7_many 25 = .ok (.iinc 5 1, 3) := by decide +kernel
theorem dX7_many_28 : decode cX7_many 28 = .ok (.iinc 6 1, 3) := by decide +kernel
theorem dX7_many_31 : decode cX7_many 31 = .ok (.goto (-25), 3) := by decide +kernel
theorem dX7_many_34 : decode cX7_many 34 = .ok (.iload 5, 2) := by decide +kernel
theorem dX7_many_36 : decode cX7_many 36 = .ok (.ireturn, 1) := by decide +kernel
theorem dX7_heardBits_0 : decode cX7_heardBits 0 = .ok (.lconst 0, 1) := by decide +kernel
theorem dX7_heardBits_1 : decode cX7_heardBits 1 = .ok (.lstore 4, 2) := by decide +kernel
theorem dX7_heardBits_3 : decode cX7_heardBits 3 = .ok (.iconst 0, 1) := by decide +kernel
theorem dX7_heardBits_4 : decode cX7_heardBits 4 = .ok (.istore 6, 2) := by decide +kernel
theorem dX7_heardBits_6 : decode cX7_heardBits 6 = .ok (.iload 6, 2) := by decide +kernel
theorem dX7_heardBits_8 : decode cX7_heardBits 8 = .ok (.iload_n 3, 1) := by decide +kernel
theorem dX7_heardBits_9 : decode cX7_heardBits 9 = .ok (.if_icmp .ge 29, 3) := by decide +kernel
theorem dX7_heardBits_12 : decode cX7_heardBits 12 = .ok (.aload_n 0, 1) := by decide +kernel
theorem dX7_heardBits_13 : decode cX7_heardBits 13 = .ok (.lload_n 1, 1) := by decide +kernel
theorem dX7_heardBits_14 : decode cX7_heardBits 14 = .ok (.iload_n 3, 1) := by decide +kernel
theorem dX7_heardBits_15 : decode cX7_heardBits 15 = .ok (.iload 6, 2) := by decide +kernel
theorem dX7_heardBits_17 : decode cX7_heardBits 17 = .ok (.invokevirtual 215, 3) := by decide +kernel
theorem dX7_heardBits_20 : decode cX7_heardBits 20 = .ok (.ifCond .eq 12, 3) := by decide +kernel
theorem dX7_heardBits_23 : decode cX7_heardBits 23 = .ok (.lload 4, 2) := by decide +kernel
theorem dX7_heardBits_25 : decode cX7_heardBits 25 = .ok (.lconst 1, 1) := by decide +kernel
theorem dX7_heardBits_26 : decode cX7_heardBits 26 = .ok (.iload 6, 2) := by decide +kernel
theorem dX7_heardBits_28 : decode cX7_heardBits 28 = .ok (.lshl, 1) := by decide +kernel
theorem dX7_heardBits_29 : decode cX7_heardBits 29 = .ok (.lor, 1) := by decide +kernel
theorem dX7_heardBits_30 : decode cX7_heardBits 30 = .ok (.lstore 4, 2) := by decide +kernel
theorem dX7_heardBits_32 : decode cX7_heardBits 32 = .ok (.iinc 6 1, 3) := by decide +kernel
theorem dX7_heardBits_35 : decode cX7_heardBits 35 = .ok (.goto (-29), 3) := by decide +kernel
theorem dX7_heardBits_38 : decode cX7_heardBits 38 = .ok (.lload 4, 2) := by decide +kernel
theorem dX7_heardBits_40 : decode cX7_heardBits 40 = .ok (.lreturn, 1) := by decide +kernel
theorem dX7_strikes_0 : decode cX7_strikes 0 = .ok (.aload_n 0, 1) := by decide +kernel
theorem dX7_strikes_1 : decode cX7_strikes 1 = .ok (.iload_n 1, 1) := by decide +kernel
theorem dX7_strikes_2 : decode cX7_strikes 2 = .ok (.invokevirtual 187, 3) := by decide +kernel
theorem dX7_strikes_5 : decode cX7_strikes 5 = .ok (.ifCond .ne 10, 3) := by decide +kernel
theorem dX7_strikes_8 : decode cX7_strikes 8 = .ok (.aload_n 0, 1) := by decide +kernel
theorem dX7_strikes_9 : decode cX7_strikes 9 = .ok (.bipush (-2), 2) := by decide +kernel
theorem dX7_strikes_11 : decode cX7_strikes 11 = .ok (.invokevirtual 69, 3) := by decide +kernel
theorem dX7_strikes_14 : decode cX7_strikes 14 = .ok (.ireturn, 1) := by decide +kernel
theorem dX7_strikes_15 : decode cX7_strikes 15 = .ok (.aload_n 0, 1) := by decide +kernel
theorem dX7_strikes_16 : decode cX7_strikes 16 = .ok (.getfield 52, 3) := by decide +kernel
theorem dX7_strikes_19 : decode cX7_strikes 19 = .ok (.ifCond .ne 10, 3) := by decide +kernel
theorem dX7_strikes_22 : decode cX7_strikes 22 = .ok (.aload_n 0, 1) := by decide +kernel
theorem dX7_strikes_23 : decode cX7_strikes 23 = .ok (.bipush (-5), 2) := by decide +kernel
theorem dX7_strikes_25 : decode cX7_strikes 25 = .ok (.invokevirtual 69, 3) := by decide +kernel
theorem dX7_strikes_28 : decode cX7_strikes 28 = .ok (.ireturn, 1) := by decide +kernel
theorem dX7_strikes_29 : decode cX7_strikes 29 = .ok (.aload_n 0, 1) := by decide +kernel
theorem dX7_strikes_30 : decode cX7_strikes 30 = .ok (.aload_n 0, 1) := by decide +kernel
theorem dX7_strikes_31 : decode cX7_strikes 31 = .ok (.getfield 90, 3) := by decide +kernel
theorem dX7_strikes_34 : decode cX7_strikes 34 = .ok (.aload_n 0, 1) := by decide +kernel
theorem dX7_strikes_35 : decode cX7_strikes 35 = .ok (.getfield 62, 3) := by decide +kernel
theorem dX7_strikes_38 : decode cX7_strikes 38 = .ok (.iload_n 1, 1) := by decide +kernel
theorem dX7_strikes_39 : decode cX7_strikes 39 = .ok (.invokevirtual 212, 3) := by decide +kernel
theorem dX7_strikes_42 : decode cX7_strikes 42 = .ok (.ifCond .eq 7, 3) := by decide +kernel
theorem dX7_strikes_45 : decode cX7_strikes 45 = .ok (.iconst 1, 1) := by decide +kernel
theorem dX7_strikes_46 : decode cX7_strikes 46 = .ok (.goto 4, 3) := by decide +kernel
theorem dX7_strikes_49 : decode cX7_strikes 49 = .ok (.iconst 0, 1) := by decide +kernel
theorem dX7_strikes_50 : decode cX7_strikes 50 = .ok (.ireturn, 1) := by decide +kernel
theorem dX7_strikesBy_0 : decode cX7_strikesBy 0 = .ok (.aload_n 0, 1) := by decide +kernel
theorem dX7_strikesBy_1 : decode cX7_strikesBy 1 = .ok (.iload_n 1, 1) := by decide +kernel
theorem dX7_strikesBy_2 : decode cX7_strikesBy 2 = .ok (.invokevirtual 83, 3) := by decide +kernel
theorem dX7_strikesBy_5 : decode cX7_strikesBy 5 = .ok (.ifCond .eq 11, 3) := by decide +kernel
theorem dX7_strikesBy_8 : decode cX7_strikesBy 8 = .ok (.aload_n 0, 1) := by decide +kernel
theorem dX7_strikesBy_9 : decode cX7_strikesBy 9 = .ok (.iload_n 2, 1) := by decide +kernel
theorem dX7_strikesBy_10 : decode cX7_strikesBy 10 = .ok (.invokevirtual 187, 3) := by decide +kernel
theorem dX7_strikesBy_13 : decode cX7_strikesBy 13 = .ok (.ifCond .ne 10, 3) := by decide +kernel
theorem dX7_strikesBy_16 : decode cX7_strikesBy 16 = .ok (.aload_n 0, 1) := by decide +kernel
theorem dX7_strikesBy_17 : decode cX7_strikesBy 17 = .ok (.bipush (-2), 2) := by decide +kernel
theorem dX7_strikesBy_19 : decode cX7_strikesBy 19 = .ok (.invokevirtual 69, 3) := by decide +kernel
theorem dX7_strikesBy_22 : decode cX7_strikesBy 22 = .ok (.ireturn, 1) := by decide +kernel
theorem dX7_strikesBy_23 : decode cX7_strikesBy 23 = .ok (.aload_n 0, 1) := by decide +kernel
theorem dX7_strikesBy_24 : decode cX7_strikesBy 24 = .ok (.iload_n 1, 1) := by decide +kernel
theorem dX7_strikesBy_25 : decode cX7_strikesBy 25 = .ok (.aload_n 0, 1) := by decide +kernel
theorem dX7_strikesBy_26 : decode cX7_strikesBy 26 = .ok (.getfield 90, 3) := by decide +kernel
theorem dX7_strikesBy_29 : decode cX7_strikesBy 29 = .ok (.aload_n 0, 1) := by decide +kernel
theorem dX7_strikesBy_30 : decode cX7_strikesBy 30 = .ok (.getfield 62, 3) := by decide +kernel
theorem dX7_strikesBy_33 : decode cX7_strikesBy 33 = .ok (.iload_n 2, 1) := by decide +kernel
theorem dX7_strikesBy_34 : decode cX7_strikesBy 34 = .ok (.invokevirtual 208, 3) := by decide +kernel
theorem dX7_strikesBy_37 : decode cX7_strikesBy 37 = .ok (.ifCond .eq 7, 3) := by decide +kernel
theorem dX7_strikesBy_40 : decode cX7_strikesBy 40 = .ok (.iconst 1, 1) := by decide +kernel
theorem dX7_strikesBy_41 : decode cX7_strikesBy 41 = .ok (.goto 4, 3) := by decide +kernel
theorem dX7_strikesBy_44 : decode cX7_strikesBy 44 = .ok (.iconst 0, 1) := by decide +kernel
theorem dX7_strikesBy_45 : decode cX7_strikesBy 45 = .ok (.ireturn, 1) := by decide +kernel
theorem dX7_heard_0 : decode cX7_heard 0 = .ok (.aload_n 0, 1) := by decide +kernel
theorem dX7_heard_1 : decode cX7_heard 1 = .ok (.iload_n 1, 1) := by decide +kernel
theorem dX7_heard_2 : decode cX7_heard 2 = .ok (.invokevirtual 187, 3) := by decide +kernel
theorem dX7_heard_5 : decode cX7_heard 5 = .ok (.ifCond .eq 12, 3) := by decide +kernel
theorem dX7_heard_8 : decode cX7_heard 8 = .ok (.iload_n 2, 1) := by decide +kernel
theorem dX7_heard_9 : decode cX7_heard 9 = .ok (.iconst 0, 1) := by decide +kernel
theorem dX7_heard_10 : decode cX7_heard 10 = .ok (.iconst 2, 1) := by decide +kernel
theorem dX7_heard_11 : decode cX7_heard 11 = .ok (.invokestatic 55, 3) := by decide +kernel
theorem dX7_heard_14 : decode cX7_heard 14 = .ok (.ifCond .ne 10, 3) := by decide +kernel
theorem dX7_heard_17 : decode cX7_heard 17 = .ok (.aload_n 0, 1) := by decide +kernel
theorem dX7_heard_18 : decode cX7_heard 18 = .ok (.bipush (-2), 2) := by decide +kernel
theorem dX7_heard_20 : decode cX7_heard 20 = .ok (.invokevirtual 69, 3) := by decide +kernel
theorem dX7_heard_23 : decode cX7_heard 23 = .ok (.ireturn, 1) := by decide +kernel
theorem dX7_heard_24 : decode cX7_heard 24 = .ok (.aload_n 0, 1) := by decide +kernel
theorem dX7_heard_25 : decode cX7_heard 25 = .ok (.aload_n 0, 1) := by decide +kernel
theorem dX7_heard_26 : decode cX7_heard 26 = .ok (.getfield 90, 3) := by decide +kernel
theorem dX7_heard_29 : decode cX7_heard 29 = .ok (.aload_n 0, 1) := by decide +kernel
theorem dX7_heard_30 : decode cX7_heard 30 = .ok (.getfield 62, 3) := by decide +kernel
theorem dX7_heard_33 : decode cX7_heard 33 = .ok (.iload_n 1, 1) := by decide +kernel
theorem dX7_heard_34 : decode cX7_heard 34 = .ok (.iload_n 2, 1) := by decide +kernel
theorem dX7_heard_35 : decode cX7_heard 35 = .ok (.invokevirtual 221, 3) := by decide +kernel
theorem dX7_heard_38 : decode cX7_heard 38 = .ok (.ifCond .eq 7, 3) := by decide +kernel
theorem dX7_heard_41 : decode cX7_heard 41 = .ok (.iconst 1, 1) := by decide +kernel
theorem dX7_heard_42 : decode cX7_heard 42 = .ok (.goto 4, 3) := by decide +kernel
theorem dX7_heard_45 : decode cX7_heard 45 = .ok (.iconst 0, 1) := by decide +kernel
theorem dX7_heard_46 : decode cX7_heard 46 = .ok (.ireturn, 1) := by decide +kernel
theorem dX7_all_0 : decode cX7_all 0 = .ok (.iload_n 1, 1) := by decide +kernel
theorem dX7_all_1 : decode cX7_all 1 = .ok (.iconst 0, 1) := by decide +kernel
theorem dX7_all_2 : decode cX7_all 2 = .ok (.iconst 2, 1) := by decide +kernel
theorem dX7_all_3 : decode cX7_all 3 = .ok (.invokestatic 55, 3) := by decide +kernel
theorem dX7_all_6 : decode cX7_all 6 = .ok (.ifCond .eq 19, 3) := by decide +kernel
theorem dX7_all_9 : decode cX7_all 9 = .ok (.aload_n 0, 1) := by decide +kernel
theorem dX7_all_10 : decode cX7_all 10 = .ok (.aload_n 0, 1) := by decide +kernel
theorem dX7_all_11 : decode cX7_all 11 = .ok (.getfield 90, 3) := by decide +kernel
theorem dX7_all_14 : decode cX7_all 14 = .ok (.aload_n 0, 1) := by decide +kernel
theorem dX7_all_15 : decode cX7_all 15 = .ok (.getfield 62, 3) := by decide +kernel
theorem dX7_all_18 : decode cX7_all 18 = .ok (.iload_n 1, 1) := by decide +kernel
theorem dX7_all_19 : decode cX7_all 19 = .ok (.invokevirtual 225, 3) := by decide +kernel
theorem dX7_all_22 : decode cX7_all 22 = .ok (.goto 9, 3) := by decide +kernel
theorem dX7_all_25 : decode cX7_all 25 = .ok (.aload_n 0, 1) := by decide +kernel
theorem dX7_all_26 : decode cX7_all 26 = .ok (.bipush (-2), 2) := by decide +kernel
theorem dX7_all_28 : decode cX7_all 28 = .ok (.invokevirtual 69, 3) := by decide +kernel
theorem dX7_all_31 : decode cX7_all 31 = .ok (.ireturn, 1) := by decide +kernel
theorem dX7_silent_0 : decode cX7_silent 0 = .ok (.aload_n 0, 1) := by decide +kernel
theorem dX7_silent_1 : decode cX7_silent 1 = .ok (.iload_n 1, 1) := by decide +kernel
theorem dX7_silent_2 : decode cX7_silent 2 = .ok (.invokevirtual 187, 3) := by decide +kernel
theorem dX7_silent_5 : decode cX7_silent 5 = .ok (.ifCond .ne 10, 3) := by decide +kernel
theorem dX7_silent_8 : decode cX7_silent 8 = .ok (.aload_n 0, 1) := by decide +kernel
theorem dX7_silent_9 : decode cX7_silent 9 = .ok (.bipush (-2), 2) := by decide +kernel
theorem dX7_silent_11 : decode cX7_silent 11 = .ok (.invokevirtual 69, 3) := by decide +kernel
theorem dX7_silent_14 : decode cX7_silent 14 = .ok (.ireturn, 1) := by decide +kernel
theorem dX7_silent_15 : decode cX7_silent 15 = .ok (.iload_n 1, 1) := by decide +kernel
theorem dX7_silent_16 : decode cX7_silent 16 = .ok (.istore_n 2, 1) := by decide +kernel
theorem dX7_silent_17 : decode cX7_silent 17 = .ok (.iload_n 2, 1) := by decide +kernel
theorem dX7_silent_18 : decode cX7_silent 18 = .ok (.aload_n 0, 1) := by decide +kernel
theorem dX7_silent_19 : decode cX7_silent 19 = .ok (.getfield 62, 3) := by decide +kernel
theorem dX7_silent_22 : decode cX7_silent 22 = .ok (.if_icmp .ge 27, 3) := by decide +kernel
theorem dX7_silent_25 : decode cX7_silent 25 = .ok (.aload_n 0, 1) := by decide +kernel
theorem dX7_silent_26 : decode cX7_silent 26 = .ok (.aload_n 0, 1) := by decide +kernel
theorem dX7_silent_27 : decode cX7_silent 27 = .ok (.getfield 90, 3) := by decide +kernel
theorem dX7_silent_30 : decode cX7_silent 30 = .ok (.aload_n 0, 1) := by decide +kernel
theorem dX7_silent_31 : decode cX7_silent 31 = .ok (.getfield 62, 3) := by decide +kernel
theorem dX7_silent_34 : decode cX7_silent 34 = .ok (.iload_n 2, 1) := by decide +kernel
theorem dX7_silent_35 : decode cX7_silent 35 = .ok (.invokevirtual 215, 3) := by decide +kernel
theorem dX7_silent_38 : decode cX7_silent 38 = .ok (.ifCond .ne 5, 3) := by decide +kernel
theorem dX7_silent_41 : decode cX7_silent 41 = .ok (.iload_n 2, 1) := by decide +kernel
theorem dX7_silent_42 : decode cX7_silent 42 = .ok (.ireturn, 1) := by decide +kernel
theorem dX7_silent_43 : decode cX7_silent 43 = .ok (.iinc 2 1, 3) := by decide +kernel
theorem dX7_silent_46 : decode cX7_silent 46 = .ok (.goto (-29), 3) := by decide +kernel
theorem dX7_silent_49 : decode cX7_silent 49 = .ok (.iconst (-1), 1) := by decide +kernel
theorem dX7_silent_50 : decode cX7_silent 50 = .ok (.ireturn, 1) := by decide +kernel
theorem dX7_run_0 : decode cX7_run 0 = .ok (.iload_n 1, 1) := by decide +kernel
theorem dX7_run_1 : decode cX7_run 1 = .ok (.iconst 0, 1) := by decide +kernel
theorem dX7_run_2 : decode cX7_run 2 = .ok (.iconst 2, 1) := by decide +kernel
theorem dX7_run_3 : decode cX7_run 3 = .ok (.invokestatic 55, 3) := by decide +kernel
theorem dX7_run_6 : decode cX7_run 6 = .ok (.ifCond .ne 10, 3) := by decide +kernel
theorem dX7_run_9 : decode cX7_run 9 = .ok (.aload_n 0, 1) := by decide +kernel
theorem dX7_run_10 : decode cX7_run 10 = .ok (.bipush (-2), 2) := by decide +kernel
theorem dX7_run_12 : decode cX7_run 12 = .ok (.invokevirtual 69, 3) := by decide +kernel
theorem dX7_run_15 : decode cX7_run 15 = .ok (.ireturn, 1) := by decide +kernel
theorem dX7_run_16 : decode cX7_run 16 = .ok (.iconst 0, 1) := by decide +kernel
theorem dX7_run_17 : decode cX7_run 17 = .ok (.istore_n 2, 1) := by decide +kernel
theorem dX7_run_18 : decode cX7_run 18 = .ok (.iconst 0, 1) := by decide +kernel
theorem dX7_run_19 : decode cX7_run 19 = .ok (.istore_n 3, 1) := by decide +kernel
theorem dX7_run_20 : decode cX7_run 20 = .ok (.iconst 0, 1) := by decide +kernel
theorem dX7_run_21 : decode cX7_run 21 = .ok (.istore 4, 2) := by decide +kernel
theorem dX7_run_23 : decode cX7_run 23 = .ok (.iload 4, 2) := by decide +kernel
theorem dX7_run_25 : decode cX7_run 25 = .ok (.aload_n 0, 1) := by decide +kernel
theorem dX7_run_26 : decode cX7_run 26 = .ok (.getfield 62, 3) := by decide +kernel
theorem dX7_run_29 : decode cX7_run 29 = .ok (.if_icmp .ge 86, 3) := by decide +kernel
theorem dX7_run_32 : decode cX7_run 32 = .ok (.iload_n 1, 1) := by decide +kernel
theorem dX7_run_33 : decode cX7_run 33 = .ok (.iconst 2, 1) := by decide +kernel
theorem dX7_run_34 : decode cX7_run 34 = .ok (.if_icmp .ne 28, 3) := by decide +kernel
theorem dX7_run_37 : decode cX7_run 37 = .ok (.aload_n 0, 1) := by decide +kernel
theorem dX7_run_38 : decode cX7_run 38 = .ok (.aload_n 0, 1) := by decide +kernel
theorem dX7_run_39 : decode cX7_run 39 = .ok (.getfield 90, 3) := by decide +kernel
theorem dX7_run_42 : decode cX7_run 42 = .ok (.aload_n 0, 1) := by decide +kernel
theorem dX7_run_43 : decode cX7_run 43 = .ok (.getfield 62, 3) := by decide +kernel
theorem dX7_run_46 : decode cX7_run 46 = .ok (.iload 4, 2) := by decide +kernel
theorem dX7_run_48 : decode cX7_run 48 = .ok (.invokevirtual 215, 3) := by decide +kernel
theorem dX7_run_51 : decode cX7_run 51 = .ok (.ifCond .ne 7, 3) := by decide +kernel
theorem dX7_run_54 : decode cX7_run 54 = .ok (.iconst 1, 1) := by decide +kernel
theorem dX7_run_55 : decode cX7_run 55 = .ok (.goto 33, 3) := by decide +kernel
theorem dX7_run_58 : decode cX7_run 58 = .ok (.iconst 0, 1) := by decide +kernel
theorem dX7_run_59 : decode cX7_run 59 = .ok (.goto 29, 3) := by decide +kernel
theorem dX7_run_62 : decode cX7_run 62 = .ok (.aload_n 0, 1) := by decide +kernel
theorem dX7_run_63 : decode cX7_run 63 = .ok (.getfield 90, 3) := by decide +kernel
theorem dX7_run_66 : decode cX7_run 66 = .ok (.iload 4, 2) := by decide +kernel
theorem dX7_run_68 : decode cX7_run 68 = .ok (.invokestatic 190, 3) := by decide +kernel
theorem dX7_run_71 : decode cX7_run 71 = .ok (.iload_n 1, 1) := by decide +kernel
theorem dX7_run_72 : decode cX7_run 72 = .ok (.ifCond .ne 7, 3) := by decide +kernel
theorem dX7_run_75 : decode cX7_run 75 = .ok (.iconst 1, 1) := by decide +kernel
theorem dX7_run_76 : decode cX7_run 76 = .ok (.goto 4, 3) := by decide +kernel
theorem dX7_run_79 : decode cX7_run 79 = .ok (.iconst 0, 1) := by decide +kernel
theorem dX7_run_80 : decode cX7_run 80 = .ok (.if_icmp .ne 7, 3) := by decide +kernel
theorem dX7_run_83 : decode cX7_run 83 = .ok (.iconst 1, 1) := by decide +kernel
theorem dX7_run_84 : decode cX7_run 84 = .ok (.goto 4, 3) := by decide +kernel
theorem dX7_run_87 : decode cX7_run 87 = .ok (.iconst 0, 1) := by decide +kernel
theorem dX7_run_88 : decode cX7_run 88 = .ok (.istore 5, 2) := by decide +kernel
theorem dX7_run_90 : decode cX7_run 90 = .ok (.iload 5, 2) := by decide +kernel
theorem dX7_run_92 : decode cX7_run 92 = .ok (.ifCond .eq 9, 3) := by decide +kernel
theorem dX7_run_95 : decode cX7_run 95 = .ok (.iload_n 3, 1) := by decide +kernel
theorem dX7_run_96 : decode cX7_run 96 = .ok (.iconst 1, 1) := by decide +kernel
theorem dX7_run_97 : decode cX7_run 97 = .ok (.iadd, 1) := by decide +kernel
theorem dX7_run_98 : decode cX7_run 98 = .ok (.goto 4, 3) := by decide +kernel
theorem dX7_run_101 : decode cX7_run 101 = .ok (.iconst 0, 1) := by decide +kernel
theorem dX7_run_102 : decode cX7_run 102 = .ok (.istore_n 3, 1) := by decide +kernel
theorem dX7_run_103 : decode cX7_run 103 = .ok (.iload_n 2, 1) := by decide +kernel
theorem dX7_run_104 : decode cX7_run 104 = .ok (.iload_n 3, 1) := by decide +kernel
theorem dX7_run_105 : decode cX7_run 105 = .ok (.invokestatic 228, 3) := by decide +kernel
theorem dX7_run_108 : decode cX7_run 108 = .ok (.istore_n 2, 1) := by decide +kernel
theorem dX7_run_109 : decode cX7_run 109 = .ok (.iinc 4 1, 3) := by decide +kernel
theorem dX7_run_112 : decode cX7_run 112 = .ok (.goto (-89), 3) := by decide +kernel
theorem dX7_run_115 : decode cX7_run 115 = .ok (.iload_n 2, 1) := by decide +kernel
theorem dX7_run_116 : decode cX7_run 116 = .ok (.ireturn, 1) := by decide +kernel
theorem dX7_looped_0 : decode cX7_looped 0 = .ok (.iconst 0, 1) := by decide +kernel
theorem dX7_looped_1 : decode cX7_looped 1 = .ok (.istore_n 2, 1) := by decide +kernel
theorem dX7_looped_2 : decode cX7_looped 2 = .ok (.iconst 0, 1) := by decide +kernel
theorem dX7_looped_3 : decode cX7_looped 3 = .ok (.istore_n 3, 1) := by decide +kernel
theorem dX7_looped_4 : decode cX7_looped 4 = .ok (.iload_n 3, 1) := by decide +kernel
theorem dX7_looped_5 : decode cX7_looped 5 = .ok (.aload_n 0, 1) := by decide +kernel
theorem dX7_looped_6 : decode cX7_looped 6 = .ok (.getfield 62, 3) := by decide +kernel
theorem dX7_looped_9 : decode cX7_looped 9 = .ok (.if_icmp .ge 35, 3) := by decide +kernel
theorem dX7_looped_12 : decode cX7_looped 12 = .ok (.aload_n 0, 1) := by decide +kernel
theorem dX7_looped_13 : decode cX7_looped 13 = .ok (.aload_n 0, 1) := by decide +kernel
theorem dX7_looped_14 : decode cX7_looped 14 = .ok (.getfield 90, 3) := by decide +kernel
theorem dX7_looped_17 : decode cX7_looped 17 = .ok (.aload_n 0, 1) := by decide +kernel
theorem dX7_looped_18 : decode cX7_looped 18 = .ok (.getfield 62, 3) := by decide +kernel
theorem dX7_looped_21 : decode cX7_looped 21 = .ok (.iload_n 1, 1) := by decide +kernel
theorem dX7_looped_22 : decode cX7_looped 22 = .ok (.aload_n 0, 1) := by decide +kernel
theorem dX7_looped_23 : decode cX7_looped 23 = .ok (.getfield 62, 3) := by decide +kernel
theorem dX7_looped_26 : decode cX7_looped 26 = .ok (.imul, 1) := by decide +kernel
theorem dX7_looped_27 : decode cX7_looped 27 = .ok (.iload_n 3, 1) := by decide +kernel
theorem dX7_looped_28 : decode cX7_looped 28 = .ok (.iadd, 1) := by decide +kernel
theorem dX7_looped_29 : decode cX7_looped 29 = .ok (.invokevirtual 212, 3) := by decide +kernel
theorem dX7_looped_32 : decode cX7_looped 32 = .ok (.ifCond .eq 6, 3) := by decide +kernel
theorem dX7_looped_35 : decode cX7_looped 35 = .ok (.iinc 2 1, 3) := by decide +kernel
theorem dX7_looped_38 : decode cX7_looped 38 = .ok (.iinc 3 1, 3) := by decide +kernel
theorem dX7_looped_41 : decode cX7_looped 41 = .ok (.goto (-37), 3) := by decide +kernel
theorem dX7_looped_44 : decode cX7_looped 44 = .ok (.iload_n 2, 1) := by decide +kernel
theorem dX7_looped_45 : decode cX7_looped 45 = .ok (.ireturn, 1) := by decide +kernel
theorem dX7_loop_0 : decode cX7_loop 0 = .ok (.iload_n 1, 1) := by decide +kernel
theorem dX7_loop_1 : decode cX7_loop 1 = .ok (.iconst 0, 1) := by decide +kernel
theorem dX7_loop_2 : decode cX7_loop 2 = .ok (.bipush 60, 2) := by decide +kernel
theorem dX7_loop_4 : decode cX7_loop 4 = .ok (.invokestatic 55, 3) := by decide +kernel
theorem dX7_loop_7 : decode cX7_loop 7 = .ok (.ifCond .ne 10, 3) := by decide +kernel
theorem dX7_loop_10 : decode cX7_loop 10 = .ok (.aload_n 0, 1) := by decide +kernel
theorem dX7_loop_11 : decode cX7_loop 11 = .ok (.bipush (-2), 2) := by decide +kernel
theorem dX7_loop_13 : decode cX7_loop 13 = .ok (.invokevirtual 69, 3) := by decide +kernel
theorem dX7_loop_16 : decode cX7_loop 16 = .ok (.ireturn, 1) := by decide +kernel
theorem dX7_loop_17 : decode cX7_loop 17 = .ok (.aload_n 0, 1) := by decide +kernel
theorem dX7_loop_18 : decode cX7_loop 18 = .ok (.getfield 52, 3) := by decide +kernel
theorem dX7_loop_21 : decode cX7_loop 21 = .ok (.ifCond .ne 12, 3) := by decide +kernel
theorem dX7_loop_24 : decode cX7_loop 24 = .ok (.aload_n 0, 1) := by decide +kernel
theorem dX7_loop_25 : decode cX7_loop 25 = .ok (.bipush (-5), 2) := by decide +kernel
theorem dX7_loop_27 : decode cX7_loop 27 = .ok (.invokevirtual 69, 3) := by decide +kernel
theorem dX7_loop_30 : decode cX7_loop 30 = .ok (.goto 8, 3) := by decide +kernel
theorem dX7_loop_33 : decode cX7_loop 33 = .ok (.aload_n 0, 1) := by decide +kernel
theorem dX7_loop_34 : decode cX7_loop 34 = .ok (.iload_n 1, 1) := by decide +kernel
theorem dX7_loop_35 : decode cX7_loop 35 = .ok (.invokevirtual 233, 3) := by decide +kernel
theorem dX7_loop_38 : decode cX7_loop 38 = .ok (.ireturn, 1) := by decide +kernel
theorem dX7_round_0 : decode cX7_round 0 = .ok (.aload_n 0, 1) := by decide +kernel
theorem dX7_round_1 : decode cX7_round 1 = .ok (.getfield 52, 3) := by decide +kernel
theorem dX7_round_4 : decode cX7_round 4 = .ok (.ifCond .eq 10, 3) := by decide +kernel
theorem dX7_round_7 : decode cX7_round 7 = .ok (.aload_n 0, 1) := by decide +kernel
theorem dX7_round_8 : decode cX7_round 8 = .ok (.getfield 62, 3) := by decide +kernel
theorem dX7_round_11 : decode cX7_round 11 = .ok (.ifCond .ne 10, 3) := by decide +kernel
theorem dX7_round_14 : decode cX7_round 14 = .ok (.aload_n 0, 1) := by decide +kernel
theorem dX7_round_15 : decode cX7_round 15 = .ok (.bipush (-5), 2) := by decide +kernel
theorem dX7_round_17 : decode cX7_round 17 = .ok (.invokevirtual 69, 3) := by decide +kernel
theorem dX7_round_20 : decode cX7_round 20 = .ok (.ireturn, 1) := by decide +kernel
theorem dX7_round_21 : decode cX7_round 21 = .ok (.iconst 1, 1) := by decide +kernel
theorem dX7_round_22 : decode cX7_round 22 = .ok (.istore_n 1, 1) := by decide +kernel
theorem dX7_round_23 : decode cX7_round 23 = .ok (.iload_n 1, 1) := by decide +kernel
theorem dX7_round_24 : decode cX7_round 24 = .ok (.bipush 61, 2) := by decide +kernel
theorem dX7_round_26 : decode cX7_round 26 = .ok (.if_icmp .ge 83, 3) := by decide +kernel
theorem dX7_round_29 : decode cX7_round 29 = .ok (.iconst 1, 1) := by decide +kernel
theorem dX7_round_30 : decode cX7_round 30 = .ok (.istore_n 2, 1) := by decide +kernel
theorem dX7_round_31 : decode cX7_round 31 = .ok (.iconst 0, 1) := by decide +kernel
theorem dX7_round_32 : decode cX7_round 32 = .ok (.istore_n 3, 1) := by decide +kernel
theorem dX7_round_33 : decode cX7_round 33 = .ok (.iload_n 3, 1) := by decide +kernel
theorem dX7_round_34 : decode cX7_round 34 = .ok (.aload_n 0, 1) := by decide +kernel
theorem dX7_round_35 : decode cX7_round 35 = .ok (.getfield 62, 3) := by decide +kernel
theorem dX7_round_38 : decode cX7_round 38 = .ok (.if_icmp .ge 59, 3) := by decide +kernel
theorem dX7_round_41 : decode cX7_round 41 = .ok (.aload_n 0, 1) := by decide +kernel
theorem dX7_round_42 : decode cX7_round 42 = .ok (.aload_n 0, 1) := by decide +kernel
theorem dX7_round_43 : decode cX7_round 43 = .ok (.getfield 90, 3) := by decide +kernel
theorem dX7_round_46 : decode cX7_round 46 = .ok (.aload_n 0, 1) := by decide +kernel
theorem dX7_round_47 : decode cX7_round 47 = .ok (.getfield 62, 3) := by decide +kernel
theorem dX7_round_50 : decode cX7_round 50 = .ok (.iload_n 1, 1) := by decide +kernel
theorem dX7_round_51 : decode cX7_round 51 = .ok (.aload_n 0, 1) := by decide +kernel
theorem dX7_round_52 : decode cX7_round 52 = .ok (.getfield 62, 3) := by decide +kernel
theorem dX7_round_55 : decode cX7_round 55 = .ok (.imul, 1) := by decide +kernel
theorem dX7_round_56 : decode cX7_round 56 = .ok (.iload_n 3, 1) := by decide +kernel
theorem dX7_round_57 : decode cX7_round 57 = .ok (.iadd, 1) := by decide +kernel
theorem dX7_round_58 : decode cX7_round 58 = .ok (.invokevirtual 212, 3) := by decide +kernel
theorem dX7_round_61 : decode cX7_round 61 = .ok (.aload_n 0, 1) := by decide +kernel
theorem dX7_round_62 : decode cX7_round 62 = .ok (.aload_n 0, 1) := by decide +kernel
theorem dX7_round_63 : decode cX7_round 63 = .ok (.getfield 90, 3) := by decide +kernel
theorem dX7_round_66 : decode cX7_round 66 = .ok (.aload_n 0, 1) := by decide +kernel
theorem dX7_round_67 : decode cX7_round 67 = .ok (.getfield 62, 3) := by decide +kernel
theorem dX7_round_70 : decode cX7_round 70 = .ok (.iload_n 1, 1) := by decide +kernel
theorem dX7_round_71 : decode cX7_round 71 = .ok (.aload_n 0, 1) := by decide +kernel
theorem dX7_round_72 : decode cX7_round 72 = .ok (.getfield 62, 3) := by decide +kernel
theorem dX7_round_75 : decode cX7_round 75 = .ok (.imul, 1) := by decide +kernel
theorem dX7_round_76 : decode cX7_round 76 = .ok (.aload_n 0, 1) := by decide +kernel
theorem dX7_round_77 : decode cX7_round 77 = .ok (.getfield 62, 3) := by decide +kernel
theorem dX7_round_80 : decode cX7_round 80 = .ok (.isub, 1) := by decide +kernel
theorem dX7_round_81 : decode cX7_round 81 = .ok (.iload_n 3, 1) := by decide +kernel
theorem dX7_round_82 : decode cX7_round 82 = .ok (.iadd, 1) := by decide +kernel
theorem dX7_round_83 : decode cX7_round 83 = .ok (.invokevirtual 212, 3) := by decide +kernel
theorem dX7_round_86 : decode cX7_round 86 = .ok (.if_icmp .eq 5, 3) := by decide +kernel
theorem dX7_round_89 : decode cX7_round 89 = .ok (.iconst 0, 1) := by decide +kernel
theorem dX7_round_90 : decode cX7_round 90 = .ok (.istore_n 2, 1) := by decide +kernel
theorem dX7_round_91 : decode cX7_round 91 = .ok (.iinc 3 1, 3) := by decide +kernel
theorem dX7_round_94 : decode cX7_round 94 = .ok (.goto (-61), 3) := by decide +kernel
theorem dX7_round_97 : decode cX7_round 97 = .ok (.iload_n 2, 1) := by decide +kernel
theorem dX7_round_98 : decode cX7_round 98 = .ok (.ifCond .eq 5, 3) := by decide +kernel
theorem dX7_round_101 : decode cX7_round 101 = .ok (.iload_n 1, 1) := by decide +kernel
theorem dX7_round_102 : decode cX7_round 102 = .ok (.ireturn, 1) := by decide +kernel
theorem dX7_round_103 : decode cX7_round 103 = .ok (.iinc 1 1, 3) := by decide +kernel
theorem dX7_round_106 : decode cX7_round 106 = .ok (.goto (-83), 3) := by decide +kernel
theorem dX7_round_109 : decode cX7_round 109 = .ok (.iconst (-1), 1) := by decide +kernel
theorem dX7_round_110 : decode cX7_round 110 = .ok (.ireturn, 1) := by decide +kernel
theorem dX7_period_0 : decode cX7_period 0 = .ok (.iconst 1, 1) := by decide +kernel
theorem dX7_period_1 : decode cX7_period 1 = .ok (.istore_n 1, 1) := by decide +kernel
theorem dX7_period_2 : decode cX7_period 2 = .ok (.iload_n 1, 1) := by decide +kernel
theorem dX7_period_3 : decode cX7_period 3 = .ok (.aload_n 0, 1) := by decide +kernel
theorem dX7_period_4 : decode cX7_period 4 = .ok (.getfield 62, 3) := by decide +kernel
theorem dX7_period_7 : decode cX7_period 7 = .ok (.if_icmp .ge 56, 3) := by decide +kernel
theorem dX7_period_10 : decode cX7_period 10 = .ok (.iconst 1, 1) := by decide +kernel
theorem dX7_period_11 : decode cX7_period 11 = .ok (.istore_n 2, 1) := by decide +kernel
theorem dX7_period_12 : decode cX7_period 12 = .ok (.iload_n 1, 1) := by decide +kernel
theorem dX7_period_13 : decode cX7_period 13 = .ok (.istore_n 3, 1) := by decide +kernel
theorem dX7_period_14 : decode cX7_period 14 = .ok (.iload_n 3, 1) := by decide +kernel
theorem dX7_period_15 : decode cX7_period 15 = .ok (.aload_n 0, 1) := by decide +kernel
theorem dX7_period_16 : decode cX7_period 16 = .ok (.getfield 62, 3) := by decide +kernel
theorem dX7_period_19 : decode cX7_period 19 = .ok (.if_icmp .ge 32, 3) := by decide +kernel
theorem dX7_period_22 : decode cX7_period 22 = .ok (.aload_n 0, 1) := by decide +kernel
theorem dX7_period_23 : decode cX7_period 23 = .ok (.getfield 90, 3) := by decide +kernel
theorem dX7_period_26 : decode cX7_period 26 = .ok (.iload_n 3, 1) := by decide +kernel
theorem dX7_period_27 : decode cX7_period 27 = .ok (.invokestatic 190, 3) := by decide +kernel
theorem dX7_period_30 : decode cX7_period 30 = .ok (.aload_n 0, 1) := by decide +kernel
theorem dX7_period_31 : decode cX7_period 31 = .ok (.getfield 90, 3) := by decide +kernel
theorem dX7_period_34 : decode cX7_period 34 = .ok (.iload_n 3, 1) := by decide +kernel
theorem dX7_period_35 : decode cX7_period 35 = .ok (.iload_n 1, 1) := by decide +kernel
theorem dX7_period_36 : decode cX7_period 36 = .ok (.isub, 1) := by decide +kernel
theorem dX7_period_37 : decode cX7_period 37 = .ok (.invokestatic 190, 3) := by decide +kernel
theorem dX7_period_40 : decode cX7_period 40 = .ok (.if_icmp .eq 5, 3) := by decide +kernel
theorem dX7_period_43 : decode cX7_period 43 = .ok (.iconst 0, 1) := by decide +kernel
theorem dX7_period_44 : decode cX7_period 44 = .ok (.istore_n 2, 1) := by decide +kernel
theorem dX7_period_45 : decode cX7_period 45 = .ok (.iinc 3 1, 3) := by decide +kernel
theorem dX7_period_48 : decode cX7_period 48 = .ok (.goto (-34), 3) := by decide +kernel
theorem dX7_period_51 : decode cX7_period 51 = .ok (.iload_n 2, 1) := by decide +kernel
theorem dX7_period_52 : decode cX7_period 52 = .ok (.ifCond .eq 5, 3) := by decide +kernel
theorem dX7_period_55 : decode cX7_period 55 = .ok (.iload_n 1, 1) := by decide +kernel
theorem dX7_period_56 : decode cX7_period 56 = .ok (.ireturn, 1) := by decide +kernel
theorem dX7_period_57 : decode cX7_period 57 = .ok (.iinc 1 1, 3) := by decide +kernel
theorem dX7_period_60 : decode cX7_period 60 = .ok (.goto (-58), 3) := by decide +kernel
theorem dX7_period_63 : decode cX7_period 63 = .ok (.aload_n 0, 1) := by decide +kernel
theorem dX7_period_64 : decode cX7_period 64 = .ok (.getfield 62, 3) := by decide +kernel
theorem dX7_period_67 : decode cX7_period 67 = .ok (.ireturn, 1) := by decide +kernel
theorem dX7_backward_0 : decode cX7_backward 0 = .ok (.lconst 0, 1) := by decide +kernel
theorem dX7_backward_1 : decode cX7_backward 1 = .ok (.lstore_n 1, 1) := by decide +kernel
theorem dX7_backward_2 : decode cX7_backward 2 = .ok (.iconst 0, 1) := by decide +kernel
theorem dX7_backward_3 : decode cX7_backward 3 = .ok (.istore_n 3, 1) := by decide +kernel
theorem dX7_backward_4 : decode cX7_backward 4 = .ok (.iload_n 3, 1) := by decide +kernel
theorem dX7_backward_5 : decode cX7_backward 5 = .ok (.aload_n 0, 1) := by decide +kernel
theorem dX7_backward_6 : decode cX7_backward 6 = .ok (.getfield 62, 3) := by decide +kernel
theorem dX7_backward_9 : decode cX7_backward 9 = .ok (.if_icmp .ge 33, 3) := by decide +kernel
theorem dX7_backward_12 : decode cX7_backward 12 = .ok (.aload_n 0, 1) := by decide +kernel
theorem dX7_backward_13 : decode cX7_backward 13 = .ok (.getfield 90, 3) := by decide +kernel
theorem dX7_backward_16 : decode cX7_backward 16 = .ok (.iload_n 3, 1) := by decide +kernel
theorem dX7_backward_17 : decode cX7_backward 17 = .ok (.invokestatic 190, 3) := by decide +kernel
theorem dX7_backward_20 : decode cX7_backward 20 = .ok (.ifCond .eq 16, 3) := by decide +kernel
theorem dX7_backward_23 : decode cX7_backward 23 = .ok (.lload_n 1, 1) := by decide +kernel
theorem dX7_backward_24 : decode cX7_backward 24 = .ok (.lconst 1, 1) := by decide +kernel
theorem dX7_backward_25 : decode cX7_backward 25 = .ok (.aload_n 0, 1) := by decide +kernel
theorem dX7_backward_26 : decode cX7_backward 26 = .ok (.getfield 62, 3) := by decide +kernel
theorem dX7_backward_29 : decode cX7_backward 29 = .ok (.iconst 1, 1) := by decide +kernel
theorem dX7_backward_30 : decode cX7_backward 30 = .ok (.isub, 1) := by decide +kernel
theorem dX7_backward_31 : decode cX7_backward 31 = .ok (.iload_n 3, 1) := by decide +kernel
theorem dX7_backward_32 : decode cX7_backward 32 = .ok (.isub, 1) := by decide +kernel
theorem dX7_backward_33 : decode cX7_backward 33 = .ok (.lshl, 1) := by decide +kernel
theorem dX7_backward_34 : decode cX7_backward 34 = .ok (.lor, 1) := by decide +kernel
theorem dX7_backward_35 : decode cX7_backward 35 = .ok (.lstore_n 1, 1) := by decide +kernel
theorem dX7_backward_36 : decode cX7_backward 36 = .ok (.iinc 3 1, 3) := by decide +kernel
theorem dX7_backward_39 : decode cX7_backward 39 = .ok (.goto (-35), 3) := by decide +kernel
theorem dX7_backward_42 : decode cX7_backward 42 = .ok (.lload_n 1, 1) := by decide +kernel
theorem dX7_backward_43 : decode cX7_backward 43 = .ok (.lreturn, 1) := by decide +kernel
theorem dX7_mirror_0 : decode cX7_mirror 0 = .ok (.aload_n 0, 1) := by decide +kernel
theorem dX7_mirror_1 : decode cX7_mirror 1 = .ok (.invokevirtual 236, 3) := by decide +kernel
theorem dX7_mirror_4 : decode cX7_mirror 4 = .ok (.aload_n 0, 1) := by decide +kernel
theorem dX7_mirror_5 : decode cX7_mirror 5 = .ok (.getfield 90, 3) := by decide +kernel
theorem dX7_mirror_8 : decode cX7_mirror 8 = .ok (.lcmp, 1) := by decide +kernel
theorem dX7_mirror_9 : decode cX7_mirror 9 = .ok (.ifCond .ne 7, 3) := by decide +kernel
theorem dX7_mirror_12 : decode cX7_mirror 12 = .ok (.iconst 1, 1) := by decide +kernel
theorem dX7_mirror_13 : decode cX7_mirror 13 = .ok (.goto 4, 3) := by decide +kernel
theorem dX7_mirror_16 : decode cX7_mirror 16 = .ok (.iconst 0, 1) := by decide +kernel
theorem dX7_mirror_17 : decode cX7_mirror 17 = .ok (.ireturn, 1) := by decide +kernel
theorem dX7_lastStroke_0 : decode cX7_lastStroke 0 = .ok (.aload_n 0, 1) := by decide +kernel
theorem dX7_lastStroke_1 : decode cX7_lastStroke 1 = .ok (.getfield 62, 3) := by decide +kernel
theorem dX7_lastStroke_4 : decode cX7_lastStroke 4 = .ok (.iconst 1, 1) := by decide +kernel
theorem dX7_lastStroke_5 : decode cX7_lastStroke 5 = .ok (.isub, 1) := by decide +kernel
theorem dX7_lastStroke_6 : decode cX7_lastStroke 6 = .ok (.istore_n 1, 1) := by decide +kernel
theorem dX7_lastStroke_7 : decode cX7_lastStroke 7 = .ok (.iload_n 1, 1) := by decide +kernel
theorem dX7_lastStroke_8 : decode cX7_lastStroke 8 = .ok (.ifCond .lt 22, 3) := by decide +kernel
theorem dX7_lastStroke_11 : decode cX7_lastStroke 11 = .ok (.aload_n 0, 1) := by decide +kernel
theorem dX7_lastStroke_12 : decode cX7_lastStroke 12 = .ok (.getfield 90, 3) := by decide +kernel
theorem dX7_lastStroke_15 : decode cX7_lastStroke 15 = .ok (.iload_n 1, 1) := by decide +kernel
theorem dX7_lastStroke_16 : decode cX7_lastStroke 16 = .ok (.invokestatic 190, 3) := by decide +kernel
theorem dX7_lastStroke_19 : decode cX7_lastStroke 19 = .ok (.ifCond .eq 5, 3) := by decide +kernel
theorem dX7_lastStroke_22 : decode cX7_lastStroke 22 = .ok (.iload_n 1, 1) := by decide +kernel
theorem dX7_lastStroke_23 : decode cX7_lastStroke 23 = .ok (.ireturn, 1) := by decide +kernel
theorem dX7_lastStroke_24 : decode cX7_lastStroke 24 = .ok (.iinc 1 (-1), 3) := by decide +kernel
theorem dX7_lastStroke_27 : decode cX7_lastStroke 27 = .ok (.goto (-20), 3) := by decide +kernel
theorem dX7_lastStroke_30 : decode cX7_lastStroke 30 = .ok (.iconst (-1), 1) := by decide +kernel
theorem dX7_lastStroke_31 : decode cX7_lastStroke 31 = .ok (.ireturn, 1) := by decide +kernel
theorem dX7_shift_0 : decode cX7_shift 0 = .ok (.aload_n 0, 1) := by decide +kernel
theorem dX7_shift_1 : decode cX7_shift 1 = .ok (.iload_n 1, 1) := by decide +kernel
theorem dX7_shift_2 : decode cX7_shift 2 = .ok (.invokevirtual 187, 3) := by decide +kernel
theorem dX7_shift_5 : decode cX7_shift 5 = .ok (.ifCond .ne 10, 3) := by decide +kernel
theorem dX7_shift_8 : decode cX7_shift 8 = .ok (.aload_n 0, 1) := by decide +kernel
theorem dX7_shift_9 : decode cX7_shift 9 = .ok (.bipush (-2), 2) := by decide +kernel
theorem dX7_shift_11 : decode cX7_shift 11 = .ok (.invokevirtual 69, 3) := by decide +kernel
theorem dX7_shift_14 : decode cX7_shift 14 = .ok (.ireturn, 1) := by decide +kernel
theorem dX7_shift_15 : decode cX7_shift 15 = .ok (.lconst 0, 1) := by decide +kernel
theorem dX7_shift_16 : decode cX7_shift 16 = .ok (.lstore_n 2, 1) := by decide +kernel
theorem dX7_shift_17 : decode cX7_shift 17 = .ok (.iconst 0, 1) := by decide +kernel
theorem dX7_shift_18 : decode cX7_shift 18 = .ok (.istore 4, 2) := by decide +kernel
theorem dX7_shift_20 : decode cX7_shift 20 = .ok (.iload 4, 2) := by decide +kernel
theorem dX7_shift_22 : decode cX7_shift 22 = .ok (.aload_n 0, 1) := by decide +kernel
theorem dX7_shift_23 : decode cX7_shift 23 = .ok (.getfield 62, 3) := by decide +kernel
theorem dX7_shift_26 : decode cX7_shift 26 = .ok (.if_icmp .ge 35, 3) := by decide +kernel
theorem dX7_shift_29 : decode cX7_shift 29 = .ok (.aload_n 0, 1) := by decide +kernel
theorem dX7_shift_30 : decode cX7_shift 30 = .ok (.getfield 90, 3) := by decide +kernel
theorem dX7_shift_33 : decode cX7_shift 33 = .ok (.iload_n 1, 1) := by decide +kernel
theorem dX7_shift_34 : decode cX7_shift 34 = .ok (.iload 4, 2) := by decide +kernel
theorem dX7_shift_36 : decode cX7_shift 36 = .ok (.iadd, 1) := by decide +kernel
theorem dX7_shift_37 : decode cX7_shift 37 = .ok (.aload_n 0, 1) := by decide +kernel
theorem dX7_shift_38 : decode cX7_shift 38 = .ok (.getfield 62, 3) := by decide +kernel
theorem dX7_shift_41 : decode cX7_shift 41 = .ok (.irem, 1) := by decide +kernel
theorem dX7_shift_42 : decode cX7_shift 42 = .ok (.invokestatic 190, 3) := by decide +kernel
theorem dX7_shift_45 : decode cX7_shift 45 = .ok (.ifCond .eq 10, 3) := by decide +kernel
theorem dX7_shift_48 : decode cX7_shift 48 = .ok (.lload_n 2, 1) := by decide +kernel
theorem dX7_shift_49 : decode cX7_shift 49 = .ok (.lconst 1, 1) := by decide +kernel
theorem dX7_shift_50 : decode cX7_shift 50 = .ok (.iload 4, 2) := by decide +kernel
theorem dX7_shift_52 : decode cX7_shift 52 = .ok (.lshl, 1) := by decide +kernel
theorem dX7_shift_53 : decode cX7_shift 53 = .ok (.lor, 1) := by decide +kernel
theorem dX7_shift_54 : decode cX7_shift 54 = .ok (.lstore_n 2, 1) := by decide +kernel
theorem dX7_shift_55 : decode cX7_shift 55 = .ok (.iinc 4 1, 3) := by decide +kernel
theorem dX7_shift_58 : decode cX7_shift 58 = .ok (.goto (-38), 3) := by decide +kernel
theorem dX7_shift_61 : decode cX7_shift 61 = .ok (.aload_n 0, 1) := by decide +kernel
theorem dX7_shift_62 : decode cX7_shift 62 = .ok (.lload_n 2, 1) := by decide +kernel
theorem dX7_shift_63 : decode cX7_shift 63 = .ok (.aload_n 0, 1) := by decide +kernel
theorem dX7_shift_64 : decode cX7_shift 64 = .ok (.getfield 62, 3) := by decide +kernel
theorem dX7_shift_67 : decode cX7_shift 67 = .ok (.invokevirtual 240, 3) := by decide +kernel
theorem dX7_shift_70 : decode cX7_shift 70 = .ok (.ireturn, 1) := by decide +kernel
theorem dX7_flip_0 : decode cX7_flip 0 = .ok (.aload_n 0, 1) := by decide +kernel
theorem dX7_flip_1 : decode cX7_flip 1 = .ok (.getfield 62, 3) := by decide +kernel
theorem dX7_flip_4 : decode cX7_flip 4 = .ok (.ifCond .ne 10, 3) := by decide +kernel
theorem dX7_flip_7 : decode cX7_flip 7 = .ok (.aload_n 0, 1) := by decide +kernel
theorem dX7_flip_8 : decode cX7_flip 8 = .ok (.bipush (-5), 2) := by decide +kernel
theorem dX7_flip_10 : decode cX7_flip 10 = .ok (.invokevirtual 69, 3) := by decide +kernel
theorem dX7_flip_13 : decode cX7_flip 13 = .ok (.ireturn, 1) := by decide +kernel
theorem dX7_flip_14 : decode cX7_flip 14 = .ok (.iconst 0, 1) := by decide +kernel
theorem dX7_flip_15 : decode cX7_flip 15 = .ok (.istore_n 1, 1) := by decide +kernel
theorem dX7_flip_16 : decode cX7_flip 16 = .ok (.iconst (-1), 1) := by decide +kernel
theorem dX7_flip_17 : decode cX7_flip 17 = .ok (.istore_n 2, 1) := by decide +kernel
theorem dX7_flip_18 : decode cX7_flip 18 = .ok (.iconst 0, 1) := by decide +kernel
theorem dX7_flip_19 : decode cX7_flip 19 = .ok (.istore_n 3, 1) := by decide +kernel
theorem dX7_flip_20 : decode cX7_flip 20 = .ok (.iload_n 3, 1) := by decide +kernel
theorem dX7_flip_21 : decode cX7_flip 21 = .ok (.aload_n 0, 1) := by decide +kernel
theorem dX7_flip_22 : decode cX7_flip 22 = .ok (.getfield 62, 3) := by decide +kernel
theorem dX7_flip_25 : decode cX7_flip 25 = .ok (.if_icmp .ge 42, 3) := by decide +kernel
theorem dX7_flip_28 : decode cX7_flip 28 = .ok (.aload_n 0, 1) := by decide +kernel
theorem dX7_flip_29 : decode cX7_flip 29 = .ok (.aload_n 0, 1) := by decide +kernel
theorem dX7_flip_30 : decode cX7_flip 30 = .ok (.getfield 90, 3) := by decide +kernel
theorem dX7_flip_33 : decode cX7_flip 33 = .ok (.lconst 1, 1) := by decide +kernel
theorem dX7_flip_34 : decode cX7_flip 34 = .ok (.iload_n 3, 1) := by decide +kernel
theorem dX7_flip_35 : decode cX7_flip 35 = .ok (.lshl, 1) := by decide +kernel
theorem dX7_flip_36 : decode cX7_flip 36 = .ok (.lxor, 1) := by decide +kernel
theorem dX7_flip_37 : decode cX7_flip 37 = .ok (.aload_n 0, 1) := by decide +kernel
theorem dX7_flip_38 : decode cX7_flip 38 = .ok (.getfield 62, 3) := by decide +kernel
theorem dX7_flip_41 : decode cX7_flip 41 = .ok (.iconst 0, 1) := by decide +kernel
theorem dX7_flip_42 : decode cX7_flip 42 = .ok (.invokevirtual 225, 3) := by decide +kernel
theorem dX7_flip_45 : decode cX7_flip 45 = .ok (.istore 4, 2) := by decide +kernel
theorem dX7_flip_47 : decode cX7_flip 47 = .ok (.iload 4, 2) := by decide +kernel
theorem dX7_flip_49 : decode cX7_flip 49 = .ok (.iload_n 2, 1) := by decide +kernel
theorem dX7_flip_50 : decode cX7_flip 50 = .ok (.if_icmp .gt 6, 3) := by decide +kernel
theorem dX7_flip_53 : decode cX7_flip 53 = .ok (.goto 8, 3) := by decide +kernel
theorem dX7_flip_56 : decode cX7_flip 56 = .ok (.iload 4, 2) := by decide +kernel
theorem dX7_flip_58 : decode cX7_flip 58 = .ok (.istore_n 2, 1) := by decide +kernel
theorem dX7_flip_59 : decode cX7_flip 59 = .ok (.iload_n 3, 1) := by decide +kernel
theorem dX7_flip_60 : decode cX7_flip 60 = .ok (.istore_n 1, 1) := by decide +kernel
theorem dX7_flip_61 : decode cX7_flip 61 = .ok (.iinc 3 1, 3) := by decide +kernel
theorem dX7_flip_64 : decode cX7_flip 64 = .ok (.goto (-44), 3) := by decide +kernel
theorem dX7_flip_67 : decode cX7_flip 67 = .ok (.iload_n 1, 1) := by decide +kernel
theorem dX7_flip_68 : decode cX7_flip 68 = .ok (.ireturn, 1) := by decide +kernel
theorem dX7_until_0 : decode cX7_until 0 = .ok (.iload_n 1, 1) := by decide +kernel
theorem dX7_until_1 : decode cX7_until 1 = .ok (.iconst 0, 1) := by decide +kernel
theorem dX7_until_2 : decode cX7_until 2 = .ok (.bipush 40, 2) := by decide +kernel
theorem dX7_until_4 : decode cX7_until 4 = .ok (.invokestatic 55, 3) := by decide +kernel
theorem dX7_until_7 : decode cX7_until 7 = .ok (.ifCond .ne 10, 3) := by decide +kernel
theorem dX7_until_10 : decode cX7_until 10 = .ok (.aload_n 0, 1) := by decide +kernel
theorem dX7_until_11 : decode cX7_until 11 = .ok (.bipush (-2), 2) := by decide +kernel
theorem dX7_until_13 : decode cX7_until 13 = .ok (.invokevirtual 69, 3) := by decide +kernel
theorem dX7_until_16 : decode cX7_until 16 = .ok (.ireturn, 1) := by decide +kernel
theorem dX7_until_17 : decode cX7_until 17 = .ok (.iconst 0, 1) := by decide +kernel
theorem dX7_until_18 : decode cX7_until 18 = .ok (.istore_n 2, 1) := by decide +kernel
theorem dX7_until_19 : decode cX7_until 19 = .ok (.iconst 0, 1) := by decide +kernel
theorem dX7_until_20 : decode cX7_until 20 = .ok (.istore_n 3, 1) := by decide +kernel
theorem dX7_until_21 : decode cX7_until 21 = .ok (.iload_n 3, 1) := by decide +kernel
theorem dX7_until_22 : decode cX7_until 22 = .ok (.aload_n 0, 1) := by decide +kernel
theorem dX7_until_23 : decode cX7_until 23 = .ok (.getfield 62, 3) := by decide +kernel
theorem dX7_until_26 : decode cX7_until 26 = .ok (.if_icmp .gt 43, 3) := by decide +kernel
theorem dX7_until_29 : decode cX7_until 29 = .ok (.iload_n 2, 1) := by decide +kernel
theorem dX7_until_30 : decode cX7_until 30 = .ok (.iload_n 1, 1) := by decide +kernel
theorem dX7_until_31 : decode cX7_until 31 = .ok (.if_icmp .lt 5, 3) := by decide +kernel
theorem dX7_until_34 : decode cX7_until 34 = .ok (.iload_n 3, 1) := by decide +kernel
theorem dX7_until_35 : decode cX7_until 35 = .ok (.ireturn, 1) := by decide +kernel
theorem dX7_until_36 : decode cX7_until 36 = .ok (.iload_n 3, 1) := by decide +kernel
theorem dX7_until_37 : decode cX7_until 37 = .ok (.aload_n 0, 1) := by decide +kernel
theorem dX7_until_38 : decode cX7_until 38 = .ok (.getfield 62, 3) := by decide +kernel
theorem dX7_until_41 : decode cX7_until 41 = .ok (.if_icmp .ge 22, 3) := by decide +kernel
theorem dX7_until_44 : decode cX7_until 44 = .ok (.aload_n 0, 1) := by decide +kernel
theorem dX7_until_45 : decode cX7_until 45 = .ok (.aload_n 0, 1) := by decide +kernel
theorem dX7_until_46 : decode cX7_until 46 = .ok (.getfield 90, 3) := by decide +kernel
theorem dX7_until_49 : decode cX7_until 49 = .ok (.aload_n 0, 1) := by decide +kernel
theorem dX7_until_50 : decode cX7_until 50 = .ok (.getfield 62, 3) := by decide +kernel
theorem dX7_until_53 : decode cX7_until 53 = .ok (.iload_n 3, 1) := by decide +kernel
theorem dX7_until_54 : decode cX7_until 54 = .ok (.invokevirtual 212, 3) := by decide +kernel
theorem dX7_until_57 : decode cX7_until 57 = .ok (.ifCond .eq 6, 3) := by decide +kernel
theorem dX7_until_60 : decode cX7_until 60 = .ok (.iinc 2 1, 3) := by decide +kernel
theorem dX7_until_63 : decode cX7_until 63 = .ok (.iinc 3 1, 3) := by decide +kernel
theorem dX7_until_66 : decode cX7_until 66 = .ok (.goto (-45), 3) := by decide +kernel
theorem dX7_until_69 : decode cX7_until 69 = .ok (.iconst (-1), 1) := by decide +kernel
theorem dX7_until_70 : decode cX7_until 70 = .ok (.ireturn, 1) := by decide +kernel
theorem dX7_sameAs_0 : decode cX7_sameAs 0 = .ok (.aload_n 0, 1) := by decide +kernel
theorem dX7_sameAs_1 : decode cX7_sameAs 1 = .ok (.iload_n 1, 1) := by decide +kernel
theorem dX7_sameAs_2 : decode cX7_sameAs 2 = .ok (.invokevirtual 83, 3) := by decide +kernel
theorem dX7_sameAs_5 : decode cX7_sameAs 5 = .ok (.ifCond .ne 10, 3) := by decide +kernel
theorem dX7_sameAs_8 : decode cX7_sameAs 8 = .ok (.aload_n 0, 1) := by decide +kernel
theorem dX7_sameAs_9 : decode cX7_sameAs 9 = .ok (.bipush (-2), 2) := by decide +kernel
theorem dX7_sameAs_11 : decode cX7_sameAs 11 = .ok (.invokevirtual 69, 3) := by decide +kernel
theorem dX7_sameAs_14 : decode cX7_sameAs 14 = .ok (.ireturn, 1) := by decide +kernel
theorem dX7_sameAs_15 : decode cX7_sameAs 15 = .ok (.iconst 0, 1) := by decide +kernel
theorem dX7_sameAs_16 : decode cX7_sameAs 16 = .ok (.istore_n 2, 1) := by decide +kernel
theorem dX7_sameAs_17 : decode cX7_sameAs 17 = .ok (.iconst 0, 1) := by decide +kernel
theorem dX7_sameAs_18 : decode cX7_sameAs 18 = .ok (.istore_n 3, 1) := by decide +kernel
theorem dX7_sameAs_19 : decode cX7_sameAs 19 = .ok (.iload_n 3, 1) := by decide +kernel
theorem dX7_sameAs_20 : decode cX7_sameAs 20 = .ok (.aload_n 0, 1) := by decide +kernel
theorem dX7_sameAs_21 : decode cX7_sameAs 21 = .ok (.getfield 52, 3) := by decide +kernel
theorem dX7_sameAs_24 : decode cX7_sameAs 24 = .ok (.if_icmp .ge 45, 3) := by decide +kernel
theorem dX7_sameAs_27 : decode cX7_sameAs 27 = .ok (.aload_n 0, 1) := by decide +kernel
theorem dX7_sameAs_28 : decode cX7_sameAs 28 = .ok (.iload_n 3, 1) := by decide +kernel
theorem dX7_sameAs_29 : decode cX7_sameAs 29 = .ok (.aload_n 0, 1) := by decide +kernel
theorem dX7_sameAs_30 : decode cX7_sameAs 30 = .ok (.getfield 90, 3) := by decide +kernel
theorem dX7_sameAs_33 : decode cX7_sameAs 33 = .ok (.aload_n 0, 1) := by decide +kernel
theorem dX7_sameAs_34 : decode cX7_sameAs 34 = .ok (.getfield 62, 3) := by decide +kernel
theorem dX7_sameAs_37 : decode cX7_sameAs 37 = .ok (.invokevirtual 244, 3) := by decide +kernel
theorem dX7_sameAs_40 : decode cX7_sameAs 40 = .ok (.aload_n 0, 1) := by decide +kernel
theorem dX7_sameAs_41 : decode cX7_sameAs 41 = .ok (.iload_n 1, 1) := by decide +kernel
theorem dX7_sameAs_42 : decode cX7_sameAs 42 = .ok (.aload_n 0, 1) := by decide +kernel
theorem dX7_sameAs_43 : decode cX7_sameAs 43 = .ok (.getfield 90, 3) := by decide +kernel
theorem dX7_sameAs_46 : decode cX7_sameAs 46 = .ok (.aload_n 0, 1) := by decide +kernel
theorem dX7_sameAs_47 : decode cX7_sameAs 47 = .ok (.getfield 62, 3) := by decide +kernel
theorem dX7_sameAs_50 : decode cX7_sameAs 50 = .ok (.invokevirtual 244, 3) := by decide +kernel
theorem dX7_sameAs_53 : decode cX7_sameAs 53 = .ok (.lcmp, 1) := by decide +kernel
theorem dX7_sameAs_54 : decode cX7_sameAs 54 = .ok (.ifCond .ne 9, 3) := by decide +kernel
theorem dX7_sameAs_57 : decode cX7_sameAs 57 = .ok (.iload_n 2, 1) := by decide +kernel
theorem dX7_sameAs_58 : decode cX7_sameAs 58 = .ok (.iconst 1, 1) := by decide +kernel
theorem dX7_sameAs_59 : decode cX7_sameAs 59 = .ok (.iload_n 3, 1) := by decide +kernel
theorem dX7_sameAs_60 : decode cX7_sameAs 60 = .ok (.ishl, 1) := by decide +kernel
theorem dX7_sameAs_61 : decode cX7_sameAs 61 = .ok (.ior, 1) := by decide +kernel
theorem dX7_sameAs_62 : decode cX7_sameAs 62 = .ok (.istore_n 2, 1) := by decide +kernel
theorem dX7_sameAs_63 : decode cX7_sameAs 63 = .ok (.iinc 3 1, 3) := by decide +kernel
theorem dX7_sameAs_66 : decode cX7_sameAs 66 = .ok (.goto (-47), 3) := by decide +kernel
theorem dX7_sameAs_69 : decode cX7_sameAs 69 = .ok (.iload_n 2, 1) := by decide +kernel
theorem dX7_sameAs_70 : decode cX7_sameAs 70 = .ok (.ireturn, 1) := by decide +kernel
theorem dX7_areTwo_0 : decode cX7_areTwo 0 = .ok (.aload_n 0, 1) := by decide +kernel
theorem dX7_areTwo_1 : decode cX7_areTwo 1 = .ok (.iload_n 1, 1) := by decide +kernel
theorem dX7_areTwo_2 : decode cX7_areTwo 2 = .ok (.invokevirtual 83, 3) := by decide +kernel
theorem dX7_areTwo_5 : decode cX7_areTwo 5 = .ok (.ifCond .eq 20, 3) := by decide +kernel
theorem dX7_areTwo_8 : decode cX7_areTwo 8 = .ok (.aload_n 0, 1) := by decide +kernel
theorem dX7_areTwo_9 : decode cX7_areTwo 9 = .ok (.iload_n 2, 1) := by decide +kernel
theorem dX7_areTwo_10 : decode cX7_areTwo 10 = .ok (.invokevirtual 83, 3) := by decide +kernel
theorem dX7_areTwo_13 : decode cX7_areTwo 13 = .ok (.ifCond .eq 12, 3) := by decide +kernel
theorem dX7_areTwo_16 : decode cX7_areTwo 16 = .ok (.iload_n 1, 1) := by decide +kernel
theorem dX7_areTwo_17 : decode cX7_areTwo 17 = .ok (.iload_n 2, 1) := by decide +kernel
theorem dX7_areTwo_18 : decode cX7_areTwo 18 = .ok (.if_icmp .eq 7, 3) := by decide +kernel
theorem dX7_areTwo_21 : decode cX7_areTwo 21 = .ok (.iconst 1, 1) := by decide +kernel
theorem dX7_areTwo_22 : decode cX7_areTwo 22 = .ok (.goto 4, 3) := by decide +kernel
theorem dX7_areTwo_25 : decode cX7_areTwo 25 = .ok (.iconst 0, 1) := by decide +kernel
theorem dX7_areTwo_26 : decode cX7_areTwo 26 = .ok (.ireturn, 1) := by decide +kernel
theorem dX7_apart_0 : decode cX7_apart 0 = .ok (.aload_n 0, 1) := by decide +kernel
theorem dX7_apart_1 : decode cX7_apart 1 = .ok (.iload_n 1, 1) := by decide +kernel
theorem dX7_apart_2 : decode cX7_apart 2 = .ok (.iload_n 2, 1) := by decide +kernel
theorem dX7_apart_3 : decode cX7_apart 3 = .ok (.invokevirtual 248, 3) := by decide +kernel
theorem dX7_apart_6 : decode cX7_apart 6 = .ok (.ifCond .ne 10, 3) := by decide +kernel
theorem dX7_apart_9 : decode cX7_apart 9 = .ok (.aload_n 0, 1) := by decide +kernel
theorem dX7_apart_10 : decode cX7_apart 10 = .ok (.bipush (-2), 2) := by decide +kernel
theorem dX7_apart_12 : decode cX7_apart 12 = .ok (.invokevirtual 69, 3) := by decide +kernel
theorem dX7_apart_15 : decode cX7_apart 15 = .ok (.ireturn, 1) := by decide +kernel
theorem dX7_apart_16 : decode cX7_apart 16 = .ok (.aload_n 0, 1) := by decide +kernel
theorem dX7_apart_17 : decode cX7_apart 17 = .ok (.iload_n 1, 1) := by decide +kernel
theorem dX7_apart_18 : decode cX7_apart 18 = .ok (.aload_n 0, 1) := by decide +kernel
theorem dX7_apart_19 : decode cX7_apart 19 = .ok (.getfield 90, 3) := by decide +kernel
theorem dX7_apart_22 : decode cX7_apart 22 = .ok (.aload_n 0, 1) := by decide +kernel
theorem dX7_apart_23 : decode cX7_apart 23 = .ok (.getfield 62, 3) := by decide +kernel
theorem dX7_apart_26 : decode cX7_apart 26 = .ok (.invokevirtual 244, 3) := by decide +kernel
theorem dX7_apart_29 : decode cX7_apart 29 = .ok (.aload_n 0, 1) := by decide +kernel
theorem dX7_apart_30 : decode cX7_apart 30 = .ok (.iload_n 2, 1) := by decide +kernel
theorem dX7_apart_31 : decode cX7_apart 31 = .ok (.aload_n 0, 1) := by decide +kernel
theorem dX7_apart_32 : decode cX7_apart 32 = .ok (.getfield 90, 3) := by decide +kernel
theorem dX7_apart_35 : decode cX7_apart 35 = .ok (.aload_n 0, 1) := by decide +kernel
theorem dX7_apart_36 : decode cX7_apart 36 = .ok (.getfield 62, 3) := by decide +kernel
theorem dX7_apart_39 : decode cX7_apart 39 = .ok (.invokevirtual 244, 3) := by decide +kernel
theorem dX7_apart_42 : decode cX7_apart 42 = .ok (.lxor, 1) := by decide +kernel
theorem dX7_apart_43 : decode cX7_apart 43 = .ok (.lstore_n 3, 1) := by decide +kernel
theorem dX7_apart_44 : decode cX7_apart 44 = .ok (.lload_n 3, 1) := by decide +kernel
theorem dX7_apart_45 : decode cX7_apart 45 = .ok (.lconst 0, 1) := by decide +kernel
theorem dX7_apart_46 : decode cX7_apart 46 = .ok (.lcmp, 1) := by decide +kernel
theorem dX7_apart_47 : decode cX7_apart 47 = .ok (.ifCond .ne 7, 3) := by decide +kernel
theorem dX7_apart_50 : decode cX7_apart 50 = .ok (.iconst (-1), 1) := by decide +kernel
theorem dX7_apart_51 : decode cX7_apart 51 = .ok (.goto 7, 3) := by decide +kernel
theorem dX7_apart_54 : decode cX7_apart 54 = .ok (.lload_n 3, 1) := by decide +kernel
theorem dX7_apart_55 : decode cX7_apart 55 = .ok (.invokestatic 251, 3) := by decide +kernel
theorem dX7_apart_58 : decode cX7_apart 58 = .ok (.ireturn, 1) := by decide +kernel
theorem dX7_parts_0 : decode cX7_parts 0 = .ok (.aload_n 0, 1) := by decide +kernel
theorem dX7_parts_1 : decode cX7_parts 1 = .ok (.iload_n 1, 1) := by decide +kernel
theorem dX7_parts_2 : decode cX7_parts 2 = .ok (.iload_n 2, 1) := by decide +kernel
theorem dX7_parts_3 : decode cX7_parts 3 = .ok (.invokevirtual 248, 3) := by decide +kernel
theorem dX7_parts_6 : decode cX7_parts 6 = .ok (.ifCond .eq 12, 3) := by decide +kernel
theorem dX7_parts_9 : decode cX7_parts 9 = .ok (.iload_n 3, 1) := by decide +kernel
theorem dX7_parts_10 : decode cX7_parts 10 = .ok (.iconst 0, 1) := by decide +kernel
theorem dX7_parts_11 : decode cX7_parts 11 = .ok (.iconst 1, 1) := by decide +kernel
theorem dX7_parts_12 : decode cX7_parts 12 = .ok (.invokestatic 55, 3) := by decide +kernel
theorem dX7_parts_15 : decode cX7_parts 15 = .ok (.ifCond .ne 10, 3) := by decide +kernel
theorem dX7_parts_18 : decode cX7_parts 18 = .ok (.aload_n 0, 1) := by decide +kernel
theorem dX7_parts_19 : decode cX7_parts 19 = .ok (.bipush (-2), 2) := by decide +kernel
theorem dX7_parts_21 : decode cX7_parts 21 = .ok (.invokevirtual 69, 3) := by decide +kernel
theorem dX7_parts_24 : decode cX7_parts 24 = .ok (.ireturn, 1) := by decide +kernel
theorem dX7_parts_25 : decode cX7_parts 25 = .ok (.iconst 1, 1) := by decide +kernel
theorem dX7_parts_26 : decode cX7_parts 26 = .ok (.istore 4, 2) := by decide +kernel
theorem dX7_parts_28 : decode cX7_parts 28 = .ok (.iload 4, 2) := by decide +kernel
theorem dX7_parts_30 : decode cX7_parts 30 = .ok (.bipush 13, 2) := by decide +kernel
theorem dX7_parts_32 : decode cX7_parts 32 = .ok (.if_icmp .ge 63, 3) := by decide +kernel
theorem dX7_parts_35 : decode cX7_parts 35 = .ok (.iconst 0, 1) := by decide +kernel
theorem dX7_parts_36 : decode cX7_parts 36 = .ok (.istore 5, 2) := by decide +kernel
theorem dX7_parts_38 : decode cX7_parts 38 = .ok (.iload 5, 2) := by decide +kernel
theorem dX7_parts_40 : decode cX7_parts 40 = .ok (.iconst 1, 1) := by decide +kernel
theorem dX7_parts_41 : decode cX7_parts 41 = .ok (.iload 4, 2) := by decide +kernel
theorem dX7_parts_43 : decode cX7_parts 43 = .ok (.ishl, 1) := by decide +kernel
theorem dX7_parts_44 : decode cX7_parts 44 = .ok (.if_icmp .ge 45, 3) := by decide +kernel
theorem dX7_parts_47 : decode cX7_parts 47 = .ok (.aload_n 0, 1) := by decide +kernel
theorem dX7_parts_48 : decode cX7_parts 48 = .ok (.iload_n 1, 1) := by decide +kernel
theorem dX7_parts_49 : decode cX7_parts 49 = .ok (.iload 5, 2) := by decide +kernel
theorem dX7_parts_51 : decode cX7_parts 51 = .ok (.i2l, 1) := by decide +kernel
theorem dX7_parts_52 : decode cX7_parts 52 = .ok (.iload 4, 2) := by decide +kernel
theorem dX7_parts_54 : decode cX7_parts 54 = .ok (.invokevirtual 244, 3) := by decide +kernel
theorem dX7_parts_57 : decode cX7_parts 57 = .ok (.aload_n 0, 1) := by decide +kernel
theorem dX7_parts_58 : decode cX7_parts 58 = .ok (.iload_n 2, 1) := by decide +kernel
theorem dX7_parts_59 : decode cX7_parts 59 = .ok (.iload 5, 2) := by decide +kernel
theorem dX7_parts_61 : decode cX7_parts 61 = .ok (.i2l, 1) := by decide +kernel
theorem dX7_parts_62 : decode cX7_parts 62 = .ok (.iload 4, 2) := by decide +kernel
theorem dX7_parts_64 : decode cX7_parts 64 = .ok (.invokevirtual 244, 3) := by decide +kernel
theorem dX7_parts_67 : decode cX7_parts 67 = .ok (.lcmp, 1) := by decide +kernel
theorem dX7_parts_68 : decode cX7_parts 68 = .ok (.ifCond .eq 15, 3) := by decide +kernel
theorem dX7_parts_71 : decode cX7_parts 71 = .ok (.iload_n 3, 1) := by decide +kernel
theorem dX7_parts_72 : decode cX7_parts 72 = .ok (.ifCond .ne 8, 3) := by decide +kernel
theorem dX7_parts_75 : decode cX7_parts 75 = .ok (.iload 4, 2) := by decide +kernel
theorem dX7_parts_77 : decode cX7_parts 77 = .ok (.goto 5, 3) := by decide +kernel
theorem dX7_parts_80 : decode cX7_parts 80 = .ok (.iload 5, 2) := by decide +kernel
theorem dX7_parts_82 : decode cX7_parts 82 = .ok (.ireturn, 1) := by decide +kernel
theorem dX7_parts_83 : decode cX7_parts 83 = .ok (.iinc 5 1, 3) := by decide +kernel
theorem dX7_parts_86 : decode cX7_parts 86 = .ok (.goto (-48), 3) := by decide +kernel
theorem dX7_parts_89 : decode cX7_parts 89 = .ok (.iinc 4 1, 3) := by decide +kernel
theorem dX7_parts_92 : decode cX7_parts 92 = .ok (.goto (-64), 3) := by decide +kernel
theorem dX7_parts_95 : decode cX7_parts 95 = .ok (.iconst (-1), 1) := by decide +kernel
theorem dX7_parts_96 : decode cX7_parts 96 = .ok (.ireturn, 1) := by decide +kernel
theorem dX7_isSet_0 : decode cX7_isSet 0 = .ok (.iload_n 1, 1) := by decide +kernel
theorem dX7_isSet_1 : decode cX7_isSet 1 = .ok (.ifCond .lt 17, 3) := by decide +kernel
theorem dX7_isSet_4 : decode cX7_isSet 4 = .ok (.iload_n 1, 1) := by decide +kernel
theorem dX7_isSet_5 : decode cX7_isSet 5 = .ok (.iconst 1, 1) := by decide +kernel
theorem dX7_isSet_6 : decode cX7_isSet 6 = .ok (.aload_n 0, 1) := by decide +kernel
theorem dX7_isSet_7 : decode cX7_isSet 7 = .ok (.getfield 52, 3) := by decide +kernel
theorem dX7_isSet_10 : decode cX7_isSet 10 = .ok (.ishl, 1) := by decide +kernel
theorem dX7_isSet_11 : decode cX7_isSet 11 = .ok (.if_icmp .ge 7, 3) := by decide +kernel
theorem dX7_isSet_14 : decode cX7_isSet 14 = .ok (.iconst 1, 1) := by decide +kernel
theorem dX7_isSet_15 : decode cX7_isSet 15 = .ok (.goto 4, 3) := by decide +kernel
theorem dX7_isSet_18 : decode cX7_isSet 18 = .ok (.iconst 0, 1) := by decide +kernel
theorem dX7_isSet_19 : decode cX7_isSet 19 = .ok (.ireturn, 1) := by decide +kernel
theorem dX7_common_0 : decode cX7_common 0 = .ok (.aload_n 0, 1) := by decide +kernel
theorem dX7_common_1 : decode cX7_common 1 = .ok (.iload_n 1, 1) := by decide +kernel
theorem dX7_common_2 : decode cX7_common 2 = .ok (.invokevirtual 254, 3) := by decide +kernel
theorem dX7_common_5 : decode cX7_common 5 = .ok (.ifCond .ne 10, 3) := by decide +kernel
theorem dX7_common_8 : decode cX7_common 8 = .ok (.aload_n 0, 1) := by decide +kernel
theorem dX7_common_9 : decode cX7_common 9 = .ok (.bipush (-2), 2) := by decide +kernel
theorem dX7_common_11 : decode cX7_common 11 = .ok (.invokevirtual 69, 3) := by decide +kernel
theorem dX7_common_14 : decode cX7_common 14 = .ok (.ireturn, 1) := by decide +kernel
theorem dX7_common_15 : decode cX7_common 15 = .ok (.lconst 1, 1) := by decide +kernel
theorem dX7_common_16 : decode cX7_common 16 = .ok (.aload_n 0, 1) := by decide +kernel
theorem dX7_common_17 : decode cX7_common 17 = .ok (.getfield 62, 3) := by decide +kernel
theorem dX7_common_20 : decode cX7_common 20 = .ok (.lshl, 1) := by decide +kernel
theorem dX7_common_21 : decode cX7_common 21 = .ok (.lconst 1, 1) := by decide +kernel
theorem dX7_common_22 : decode cX7_common 22 = .ok (.lsub, 1) := by decide +kernel
theorem dX7_common_23 : decode cX7_common 23 = .ok (.lstore_n 2, 1) := by decide +kernel
theorem dX7_common_24 : decode cX7_common 24 = .ok (.iconst 0, 1) := by decide +kernel
theorem dX7_common_25 : decode cX7_common 25 = .ok (.istore 4, 2) := by decide +kernel
theorem dX7_common_27 : decode cX7_common 27 = .ok (.iload 4, 2) := by decide +kernel
theorem dX7_common_29 : decode cX7_common 29 = .ok (.aload_n 0, 1) := by decide +kernel
theorem dX7_common_30 : decode cX7_common 30 = .ok (.getfield 52, 3) := by decide +kernel
theorem dX7_common_33 : decode cX7_common 33 = .ok (.if_icmp .ge 36, 3) := by decide +kernel
theorem dX7_common_36 : decode cX7_common 36 = .ok (.iload_n 1, 1) := by decide +kernel
theorem dX7_common_37 : decode cX7_common 37 = .ok (.i2l, 1) := by decide +kernel
theorem dX7_common_38 : decode cX7_common 38 = .ok (.iload 4, 2) := by decide +kernel
theorem dX7_common_40 : decode cX7_common 40 = .ok (.invokestatic 190, 3) := by decide +kernel
theorem dX7_common_43 : decode cX7_common 43 = .ok (.ifCond .eq 20, 3) := by decide +kernel
theorem dX7_common_46 : decode cX7_common 46 = .ok (.lload_n 2, 1) := by decide +kernel
theorem dX7_common_47 : decode cX7_common 47 = .ok (.aload_n 0, 1) := by decide +kernel
theorem dX7_common_48 : decode cX7_common 48 = .ok (.iload 4, 2) := by decide +kernel
theorem dX7_common_50 : decode cX7_common 50 = .ok (.aload_n 0, 1) := by decide +kernel
theorem dX7_common_51 : decode cX7_common 51 = .ok (.getfield 90, 3) := by decide +kernel
theorem dX7_common_54 : decode cX7_common 54 = .ok (.aload_n 0, 1) := by decide +kernel
theorem dX7_common_55 : decode cX7_common 55 = .ok (.getfield 62, 3) := by decide +kernel
theorem dX7_common_58 : decode cX7_common 58 = .ok (.invokevirtual 244, 3) := by decide +kernel
theorem dX7_common_61 : decode cX7_common 61 = .ok (.land, 1) := by decide +kernel
theorem dX7_common_62 : decode cX7_common 62 = .ok (.lstore_n 2, 1) := by decide +kernel
theorem dX7_common_63 : decode cX7_common 63 = .ok (.iinc 4 1, 3) := by decide +kernel
theorem dX7_common_66 : decode cX7_common 66 = .ok (.goto (-39), 3) := by decide +kernel
theorem dX7_common_69 : decode cX7_common 69 = .ok (.lload_n 2, 1) := by decide +kernel
theorem dX7_common_70 : decode cX7_common 70 = .ok (.invokestatic 194, 3) := by decide +kernel
theorem dX7_common_73 : decode cX7_common 73 = .ok (.ireturn, 1) := by decide +kernel
theorem dX7_alone_0 : decode cX7_alone 0 = .ok (.aload_n 0, 1) := by decide +kernel
theorem dX7_alone_1 : decode cX7_alone 1 = .ok (.iload_n 1, 1) := by decide +kernel
theorem dX7_alone_2 : decode cX7_alone 2 = .ok (.invokevirtual 83, 3) := by decide +kernel
theorem dX7_alone_5 : decode cX7_alone 5 = .ok (.ifCond .ne 10, 3) := by decide +kernel
theorem dX7_alone_8 : decode cX7_alone 8 = .ok (.aload_n 0, 1) := by decide +kernel
theorem dX7_alone_9 : decode cX7_alone 9 = .ok (.bipush (-2), 2) := by decide +kernel
theorem dX7_alone_11 : decode cX7_alone 11 = .ok (.invokevirtual 69, 3) := by decide +kernel
theorem dX7_alone_14 : decode cX7_alone 14 = .ok (.ireturn, 1) := by decide +kernel
theorem dX7_alone_15 : decode cX7_alone 15 = .ok (.aload_n 0, 1) := by decide +kernel
theorem dX7_alone_16 : decode cX7_alone 16 = .ok (.iload_n 1, 1) := by decide +kernel
theorem dX7_alone_17 : decode cX7_alone 17 = .ok (.aload_n 0, 1) := by decide +kernel
theorem dX7_alone_18 : decode cX7_alone 18 = .ok (.getfield 90, 3) := by decide +kernel
theorem dX7_alone_21 : decode cX7_alone 21 = .ok (.aload_n 0, 1) := by decide +kernel
theorem dX7_alone_22 : decode cX7_alone 22 = .ok (.getfield 62, 3) := by decide +kernel
theorem dX7_alone_25 : decode cX7_alone 25 = .ok (.invokevirtual 244, 3) := by decide +kernel
theorem dX7_alone_28 : decode cX7_alone 28 = .ok (.lstore_n 2, 1) := by decide +kernel
theorem dX7_alone_29 : decode cX7_alone 29 = .ok (.iconst 0, 1) := by decide +kernel
theorem dX7_alone_30 : decode cX7_alone 30 = .ok (.istore 4, 2) := by decide +kernel
theorem dX7_alone_32 : decode cX7_alone 32 = .ok (.iload 4, 2) := by decide +kernel
theorem dX7_alone_34 : decode cX7_alone 34 = .ok (.aload_n 0, 1) := by decide +kernel
theorem dX7_alone_35 : decode cX7_alone 35 = .ok (.getfield 52, 3) := by decide +kernel
theorem dX7_alone_38 : decode cX7_alone 38 = .ok (.if_icmp .ge 36, 3) := by decide +kernel
theorem dX7_alone_41 : decode cX7_alone 41 = .ok (.iload 4, 2) := by decide +kernel
theorem dX7_alone_43 : decode cX7_alone 43 = .ok (.iload_n 1, 1) := by decide +kernel
theorem dX7_alone_44 : decode cX7_alone 44 = .ok (.if_icmp .eq 24, 3) := by decide +kernel
theorem dX7_alone_47 : decode cX7_alone 47 = .ok (.lload_n 2, 1) := by decide +kernel
theorem dX7_alone_48 : decode cX7_alone 48 = .ok (.aload_n 0, 1) := by decide +kernel
theorem dX7_alone_49 : decode cX7_alone 49 = .ok (.iload 4, 2) := by decide +kernel
theorem dX7_alone_51 : decode cX7_alone 51 = .ok (.aload_n 0, 1) := by decide +kernel
theorem dX7_alone_52 : decode cX7_alone 52 = .ok (.getfield 90, 3) := by decide +kernel
theorem dX7_alone_55 : decode cX7_alone 55 = .ok (.aload_n 0, 1) := by decide +kernel
theorem dX7_alone_56 : decode cX7_alone 56 = .ok (.getfield 62, 3) := by decide +kernel
theorem dX7_alone_59 : decode cX7_alone 59 = .ok (.invokevirtual 244, 3) := by decide +kernel
theorem dX7_alone_62 : decode cX7_alone 62 = .ok (.ldc2_w 257, 3) := by decide +kernel
theorem dX7_alone_65 : decode cX7_alone 65 = .ok (.lxor, 1) := by decide +kernel
theorem dX7_alone_66 : decode cX7_alone 66 = .ok (.land, 1) := by decide +kernel
theorem dX7_alone_67 : decode cX7_alone 67 = .ok (.lstore_n 2, 1) := by decide +kernel
theorem dX7_alone_68 : decode cX7_alone 68 = .ok (.iinc 4 1, 3) := by decide +kernel
theorem dX7_alone_71 : decode cX7_alone 71 = .ok (.goto (-39), 3) := by decide +kernel
theorem dX7_alone_74 : decode cX7_alone 74 = .ok (.lload_n 2, 1) := by decide +kernel
theorem dX7_alone_75 : decode cX7_alone 75 = .ok (.invokestatic 194, 3) := by decide +kernel
theorem dX7_alone_78 : decode cX7_alone 78 = .ok (.ireturn, 1) := by decide +kernel
theorem dX7_busiest_0 : decode cX7_busiest 0 = .ok (.aload_n 0, 1) := by decide +kernel
theorem dX7_busiest_1 : decode cX7_busiest 1 = .ok (.getfield 52, 3) := by decide +kernel
theorem dX7_busiest_4 : decode cX7_busiest 4 = .ok (.ifCond .ne 10, 3) := by decide +kernel
theorem dX7_busiest_7 : decode cX7_busiest 7 = .ok (.aload_n 0, 1) := by decide +kernel
theorem dX7_busiest_8 : decode cX7_busiest 8 = .ok (.bipush (-5), 2) := by decide +kernel
theorem dX7_busiest_10 : decode cX7_busiest 10 = .ok (.invokevirtual 69, 3) := by decide +kernel
theorem dX7_busiest_13 : decode cX7_busiest 13 = .ok (.ireturn, 1) := by decide +kernel
theorem dX7_busiest_14 : decode cX7_busiest 14 = .ok (.iconst 0, 1) := by decide +kernel
theorem dX7_busiest_15 : decode cX7_busiest 15 = .ok (.istore_n 1, 1) := by decide +kernel
theorem dX7_busiest_16 : decode cX7_busiest 16 = .ok (.iconst 1, 1) := by decide +kernel
theorem dX7_busiest_17 : decode cX7_busiest 17 = .ok (.istore_n 2, 1) := by decide +kernel
theorem dX7_busiest_18 : decode cX7_busiest 18 = .ok (.iload_n 2, 1) := by decide +kernel
theorem dX7_busiest_19 : decode cX7_busiest 19 = .ok (.aload_n 0, 1) := by decide +kernel
theorem dX7_busiest_20 : decode cX7_busiest 20 = .ok (.getfield 52, 3) := by decide +kernel
theorem dX7_busiest_23 : decode cX7_busiest 23 = .ok (.if_icmp .ge 40, 3) := by decide +kernel
theorem dX7_busiest_26 : decode cX7_busiest 26 = .ok (.aload_n 0, 1) := by decide +kernel
theorem dX7_busiest_27 : decode cX7_busiest 27 = .ok (.iload_n 2, 1) := by decide +kernel
theorem dX7_busiest_28 : decode cX7_busiest 28 = .ok (.aload_n 0, 1) := by decide +kernel
theorem dX7_busiest_29 : decode cX7_busiest 29 = .ok (.getfield 90, 3) := by decide +kernel
theorem dX7_busiest_32 : decode cX7_busiest 32 = .ok (.aload_n 0, 1) := by decide +kernel
theorem dX7_busiest_33 : decode cX7_busiest 33 = .ok (.getfield 62, 3) := by decide +kernel
theorem dX7_busiest_36 : decode cX7_busiest 36 = .ok (.invokevirtual 94, 3) := by decide +kernel
theorem dX7_busiest_39 : decode cX7_busiest 39 = .ok (.aload_n 0, 1) := by decide +kernel
theorem dX7_busiest_40 : decode cX7_busiest 40 = .ok (.iload_n 1, 1) := by decide +kernel
theorem dX7_busiest_41 : decode cX7_busiest 41 = .ok (.aload_n 0, 1) := by decide +kernel
theorem dX7_busiest_42 : decode cX7_busiest 42 = .ok (.getfield 90, 3) := by decide +kernel
theorem dX7_busiest_45 : decode cX7_busiest 45 = .ok (.aload_n 0, 1) := by decide +kernel
theorem dX7_busiest_46 : decode cX7_busiest 46 = .ok (.getfield 62, 3) := by decide +kernel
theorem dX7_busiest_49 : decode cX7_busiest 49 = .ok (.invokevirtual 94, 3) := by decide +kernel
theorem dX7_busiest_52 : decode cX7_busiest 52 = .ok (.if_icmp .le 5, 3) := by decide +kernel
theorem dX7_busiest_55 : decode cX7_busiest 55 = .ok (.iload_n 2, 1) := by decide +kernel
theorem dX7_busiest_56 : decode cX7_busiest 56 = .ok (.istore_n 1, 1) := by decide +kernel
theorem dX7_busiest_57 : decode cX7_busiest 57 = .ok (.iinc 2 1, 3) := by decide +kernel
theorem dX7_busiest_60 : decode cX7_busiest 60 = .ok (.goto (-42), 3) := by decide +kernel
theorem dX7_busiest_63 : decode cX7_busiest 63 = .ok (.iload_n 1, 1) := by decide +kernel
theorem dX7_busiest_64 : decode cX7_busiest 64 = .ok (.ireturn, 1) := by decide +kernel
theorem dX7_isPlan_0 : decode cX7_isPlan 0 = .ok (.iload_n 0, 1) := by decide +kernel
theorem dX7_isPlan_1 : decode cX7_isPlan 1 = .ok (.iconst 1, 1) := by decide +kernel
theorem dX7_isPlan_2 : decode cX7_isPlan 2 = .ok (.bipush 12, 2) := by decide +kernel
theorem dX7_isPlan_4 : decode cX7_isPlan 4 = .ok (.invokestatic 55, 3) := by decide +kernel
theorem dX7_isPlan_7 : decode cX7_isPlan 7 = .ok (.ifCond .eq 18, 3) := by decide +kernel
theorem dX7_isPlan_10 : decode cX7_isPlan 10 = .ok (.iload_n 1, 1) := by decide +kernel
theorem dX7_isPlan_11 : decode cX7_isPlan 11 = .ok (.ifCond .lt 14, 3) := by decide +kernel
theorem dX7_isPlan_14 : decode cX7_isPlan 14 = .ok (.iload_n 1, 1) := by decide +kernel
theorem dX7_isPlan_15 : decode cX7_isPlan 15 = .ok (.iconst 1, 1) := by decide +kernel
theorem dX7_isPlan_16 : decode cX7_isPlan 16 = .ok (.iload_n 0, 1) := by decide +kernel
theorem dX7_isPlan_17 : decode cX7_isPlan 17 = .ok (.ishl, 1) := by decide +kernel
theorem dX7_isPlan_18 : decode cX7_isPlan 18 = .ok (.if_icmp .ge 7, 3) := by decide +kernel
theorem dX7_isPlan_21 : decode cX7_isPlan 21 = .ok (.iconst 1, 1) := by decide +kernel
theorem dX7_isPlan_22 : decode cX7_isPlan 22 = .ok (.goto 4, 3) := by decide +kernel
theorem dX7_isPlan_25 : decode cX7_isPlan 25 = .ok (.iconst 0, 1) := by decide +kernel
theorem dX7_isPlan_26 : decode cX7_isPlan 26 = .ok (.ireturn, 1) := by decide +kernel
theorem dX7_planBy_0 : decode cX7_planBy 0 = .ok (.iconst (-1), 1) := by decide +kernel
theorem dX7_planBy_1 : decode cX7_planBy 1 = .ok (.istore 4, 2) := by decide +kernel
theorem dX7_planBy_3 : decode cX7_planBy 3 = .ok (.iconst 0, 1) := by decide +kernel
theorem dX7_planBy_4 : decode cX7_planBy 4 = .ok (.istore 5, 2) := by decide +kernel
theorem dX7_planBy_6 : decode cX7_planBy 6 = .ok (.iload 5, 2) := by decide +kernel
theorem dX7_planBy_8 : decode cX7_planBy 8 = .ok (.iconst 1, 1) := by decide +kernel
theorem dX7_planBy_9 : decode cX7_planBy 9 = .ok (.iload_n 2, 1) := by decide +kernel
theorem dX7_planBy_10 : decode cX7_planBy 10 = .ok (.ishl, 1) := by decide +kernel
theorem dX7_planBy_11 : decode cX7_planBy 11 = .ok (.if_icmp .ge 47, 3) := by decide +kernel
theorem dX7_planBy_14 : decode cX7_planBy 14 = .ok (.iload 4, 2) := by decide +kernel
theorem dX7_planBy_16 : decode cX7_planBy 16 = .ok (.iconst (-1), 1) := by decide +kernel
theorem dX7_planBy_17 : decode cX7_planBy 17 = .ok (.if_icmp .eq 16, 3) := by decide +kernel
theorem dX7_planBy_20 : decode cX7_planBy 20 = .ok (.iload 5, 2) := by decide +kernel
theorem dX7_planBy_22 : decode cX7_planBy 22 = .ok (.invokestatic 259, 3) := by decide +kernel
theorem dX7_planBy_25 : decode cX7_planBy 25 = .ok (.iload 4, 2) := by decide +kernel
theorem dX7_planBy_27 : decode cX7_planBy 27 = .ok (.invokestatic 259, 3) := by decide +kernel
theorem dX7_planBy_30 : decode cX7_planBy 30 = .ok (.if_icmp .ge 22, 3) := by decide +kernel
theorem dX7_planBy_33 : decode cX7_planBy 33 = .ok (.aload_n 0, 1) := by decide +kernel
theorem dX7_planBy_34 : decode cX7_planBy 34 = .ok (.iload_n 1, 1) := by decide +kernel
theorem dX7_planBy_35 : decode cX7_planBy 35 = .ok (.iload 5, 2) := by decide +kernel
theorem dX7_planBy_37 : decode cX7_planBy 37 = .ok (.i2l, 1) := by decide +kernel
theorem dX7_planBy_38 : decode cX7_planBy 38 = .ok (.iload_n 2, 1) := by decide +kernel
theorem dX7_planBy_39 : decode cX7_planBy 39 = .ok (.invokevirtual 244, 3) := by decide +kernel
theorem dX7_planBy_42 : decode cX7_planBy 42 = .ok (.iload_n 3, 1) := by decide +kernel
theorem dX7_planBy_43 : decode cX7_planBy 43 = .ok (.i2l, 1) := by decide +kernel
theorem dX7_planBy_44 : decode cX7_planBy 44 = .ok (.lcmp, 1) := by decide +kernel
theorem dX7_planBy_45 : decode cX7_planBy 45 = .ok (.ifCond .ne 7, 3) := by decide +kernel
theorem dX7_planBy_48 : decode cX7_planBy 48 = .ok (.iload 5, 2) := by decide +kernel
theorem dX7_planBy_50 : decode cX7_planBy 50 = .ok (.istore 4, 2) := by decide +kernel
theorem dX7_planBy_52 : decode cX7_planBy 52 = .ok (.iinc 5 1, 3) := by decide +kernel
theorem dX7_planBy_55 : decode cX7_planBy 55 = .ok (.goto (-49), 3) := by decide +kernel
theorem dX7_planBy_58 : decode cX7_planBy 58 = .ok (.iload 4, 2) := by decide +kernel
theorem dX7_planBy_60 : decode cX7_planBy 60 = .ok (.ireturn, 1) := by decide +kernel
theorem dX7_lawFor_0 : decode cX7_lawFor 0 = .ok (.iload_n 1, 1) := by decide +kernel
theorem dX7_lawFor_1 : decode cX7_lawFor 1 = .ok (.iload_n 2, 1) := by decide +kernel
theorem dX7_lawFor_2 : decode cX7_lawFor 2 = .ok (.invokestatic 263, 3) := by decide +kernel
theorem dX7_lawFor_5 : decode cX7_lawFor 5 = .ok (.ifCond .ne 10, 3) := by decide +kernel
theorem dX7_lawFor_8 : decode cX7_lawFor 8 = .ok (.aload_n 0, 1) := by decide +kernel
theorem dX7_lawFor_9 : decode cX7_lawFor 9 = .ok (.bipush (-2), 2) := by decide +kernel
theorem dX7_lawFor_11 : decode cX7_lawFor 11 = .ok (.invokevirtual 69, 3) := by decide +kernel
theorem dX7_lawFor_14 : decode cX7_lawFor 14 = .ok (.ireturn, 1) := by decide +kernel
theorem dX7_lawFor_15 : decode cX7_lawFor 15 = .ok (.iconst (-1), 1) := by decide +kernel
theorem dX7_lawFor_16 : decode cX7_lawFor 16 = .ok (.istore_n 3, 1) := by decide +kernel
theorem dX7_lawFor_17 : decode cX7_lawFor 17 = .ok (.bipush 99, 2) := by decide +kernel
theorem dX7_lawFor_19 : decode cX7_lawFor 19 = .ok (.istore 4, 2) := by decide +kernel
theorem dX7_lawFor_21 : decode cX7_lawFor 21 = .ok (.iconst 0, 1) := by decide +kernel
theorem dX7_lawFor_22 : decode cX7_lawFor 22 = .ok (.istore 5, 2) := by decide +kernel
theorem dX7_lawFor_24 : decode cX7_lawFor 24 = .ok (.iload 5, 2) := by decide +kernel
theorem dX7_lawFor_26 : decode cX7_lawFor 26 = .ok (.aload_n 0, 1) := by decide +kernel
theorem dX7_lawFor_27 : decode cX7_lawFor 27 = .ok (.getfield 52, 3) := by decide +kernel
theorem dX7_lawFor_30 : decode cX7_lawFor 30 = .ok (.if_icmp .ge 48, 3) := by decide +kernel
theorem dX7_lawFor_33 : decode cX7_lawFor 33 = .ok (.aload_n 0, 1) := by decide +kernel
theorem dX7_lawFor_34 : decode cX7_lawFor 34 = .ok (.iload 5, 2) := by decide +kernel
theorem dX7_lawFor_36 : decode cX7_lawFor 36 = .ok (.iload_n 1, 1) := by decide +kernel
theorem dX7_lawFor_37 : decode cX7_lawFor 37 = .ok (.iload_n 2, 1) := by decide +kernel
theorem dX7_lawFor_38 : decode cX7_lawFor 38 = .ok (.invokevirtual 266, 3) := by decide +kernel
theorem dX7_lawFor_41 : decode cX7_lawFor 41 = .ok (.istore 6, 2) := by decide +kernel
theorem dX7_lawFor_43 : decode cX7_lawFor 43 = .ok (.iload 6, 2) := by decide +kernel
theorem dX7_lawFor_45 : decode cX7_lawFor 45 = .ok (.iconst (-1), 1) := by decide +kernel
theorem dX7_lawFor_46 : decode cX7_lawFor 46 = .ok (.if_icmp .eq 26, 3) := by decide +kernel
theorem dX7_lawFor_49 : decode cX7_lawFor 49 = .ok (.iload 6, 2) := by decide +kernel
theorem dX7_lawFor_51 : decode cX7_lawFor 51 = .ok (.invokestatic 259, 3) := by decide +kernel
theorem dX7_lawFor_54 : decode cX7_lawFor 54 = .ok (.iload 4, 2) := by decide +kernel
theorem dX7_lawFor_56 : decode cX7_lawFor 56 = .ok (.if_icmp .lt 6, 3) := by decide +kernel
theorem dX7_lawFor_59 : decode cX7_lawFor 59 = .ok (.goto 13, 3) := by decide +kernel
theorem dX7_lawFor_62 : decode cX7_lawFor 62 = .ok (.iload 6, 2) := by decide +kernel
theorem dX7_lawFor_64 : decode cX7_lawFor 64 = .ok (.invokestatic 259, 3) := by decide +kernel
theorem dX7_lawFor_67 : decode cX7_lawFor 67 = .ok (.istore 4, 2) := by decide +kernel
theorem dX7_lawFor_69 : decode cX7_lawFor 69 = .ok (.iload 5, 2) := by decide +kernel
theorem dX7_lawFor_71 : decode cX7_lawFor 71 = .ok (.istore_n 3, 1) := by decide +kernel
theorem dX7_lawFor_72 : decode cX7_lawFor 72 = .ok (.iinc 5 1, 3) := by decide +kernel
theorem dX7_lawFor_75 : decode cX7_lawFor 75 = .ok (.goto (-51), 3) := by decide +kernel
theorem dX7_lawFor_78 : decode cX7_lawFor 78 = .ok (.iload_n 3, 1) := by decide +kernel
theorem dX7_lawFor_79 : decode cX7_lawFor 79 = .ok (.ireturn, 1) := by decide +kernel
theorem dX7_plan_0 : decode cX7_plan 0 = .ok (.iload_n 1, 1) := by decide +kernel
theorem dX7_plan_1 : decode cX7_plan 1 = .ok (.iload_n 2, 1) := by decide +kernel
theorem dX7_plan_2 : decode cX7_plan 2 = .ok (.invokestatic 263, 3) := by decide +kernel
theorem dX7_plan_5 : decode cX7_plan 5 = .ok (.ifCond .ne 10, 3) := by decide +kernel
theorem dX7_plan_8 : decode cX7_plan 8 = .ok (.aload_n 0, 1) := by decide +kernel
theorem dX7_plan_9 : decode cX7_plan 9 = .ok (.bipush (-2), 2) := by decide +kernel
theorem dX7_plan_11 : decode cX7_plan 11 = .ok (.invokevirtual 69, 3) := by decide +kernel
theorem dX7_plan_14 : decode cX7_plan 14 = .ok (.ireturn, 1) := by decide +kernel
theorem dX7_plan_15 : decode cX7_plan 15 = .ok (.aload_n 0, 1) := by decide +kernel
theorem dX7_plan_16 : decode cX7_plan 16 = .ok (.getfield 52, 3) := by decide +kernel
theorem dX7_plan_19 : decode cX7_plan 19 = .ok (.ifCond .ne 12, 3) := by decide +kernel
theorem dX7_plan_22 : decode cX7_plan 22 = .ok (.aload_n 0, 1) := by decide +kernel
theorem dX7_plan_23 : decode cX7_plan 23 = .ok (.bipush (-5), 2) := by decide +kernel
theorem dX7_plan_25 : decode cX7_plan 25 = .ok (.invokevirtual 69, 3) := by decide +kernel
theorem dX7_plan_28 : decode cX7_plan 28 = .ok (.goto 13, 3) := by decide +kernel
theorem dX7_plan_31 : decode cX7_plan 31 = .ok (.aload_n 0, 1) := by decide +kernel
theorem dX7_plan_32 : decode cX7_plan 32 = .ok (.aload_n 0, 1) := by decide +kernel
theorem dX7_plan_33 : decode cX7_plan 33 = .ok (.getfield 102, 3) := by decide +kernel
theorem dX7_plan_36 : decode cX7_plan 36 = .ok (.iload_n 1, 1) := by decide +kernel
theorem dX7_plan_37 : decode cX7_plan 37 = .ok (.iload_n 2, 1) := by decide +kernel
theorem dX7_plan_38 : decode cX7_plan 38 = .ok (.invokevirtual 266, 3) := by decide +kernel
theorem dX7_plan_41 : decode cX7_plan 41 = .ok (.ireturn, 1) := by decide +kernel
theorem dX7_fill_0 : decode cX7_fill 0 = .ok (.iload_n 1, 1) := by decide +kernel
theorem dX7_fill_1 : decode cX7_fill 1 = .ok (.iload_n 2, 1) := by decide +kernel
theorem dX7_fill_2 : decode cX7_fill 2 = .ok (.invokestatic 263, 3) := by decide +kernel
theorem dX7_fill_5 : decode cX7_fill 5 = .ok (.ifCond .ne 10, 3) := by decide +kernel
theorem dX7_fill_8 : decode cX7_fill 8 = .ok (.aload_n 0, 1) := by decide +kernel
theorem dX7_fill_9 : decode cX7_fill 9 = .ok (.bipush (-2), 2) := by decide +kernel
theorem dX7_fill_11 : decode cX7_fill 11 = .ok (.invokevirtual 69, 3) := by decide +kernel
theorem dX7_fill_14 : decode cX7_fill 14 = .ok (.ireturn, 1) := by decide +kernel
theorem dX7_fill_15 : decode cX7_fill 15 = .ok (.aload_n 0, 1) := by decide +kernel
theorem dX7_fill_16 : decode cX7_fill 16 = .ok (.getfield 52, 3) := by decide +kernel
theorem dX7_fill_19 : decode cX7_fill 19 = .ok (.ifCond .ne 10, 3) := by decide +kernel
theorem dX7_fill_22 : decode cX7_fill 22 = .ok (.aload_n 0, 1) := by decide +kernel
theorem dX7_fill_23 : decode cX7_fill 23 = .ok (.bipush (-5), 2) := by decide +kernel
