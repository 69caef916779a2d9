theorem dX11_numberOf_174 : decode cX11_numberOf 174 = .ok (.aload_n 0, 1) := by decide +kernel
theorem dX11_numberOf_175 : decode cX11_numberOf 175 = .ok (.getfield 66, 3) := by decide +kernel
theorem dX11_numberOf_178 : decode cX11_numberOf 178 = .ok (.iload_n 1, 1) := by decide +kernel
theorem dX11_numberOf_179 : decode cX11_numberOf 179 = .ok (.aload_n 0, 1) := by decide +kernel
theorem dX11_numberOf_180 : decode cX11_numberOf 180 = .ok (.getfield 63, 3) := by decide +kernel
theorem dX11_numberOf_183 : decode cX11_numberOf 183 = .ok (.iload_n 1, 1) := by decide +kernel
theorem dX11_numberOf_184 : decode cX11_numberOf 184 = .ok (.laload, 1) := by decide +kernel
theorem dX11_numberOf_185 : decode cX11_numberOf 185 = .ok (.lconst 1, 1) := by decide +kernel
theorem dX11_numberOf_186 : decode cX11_numberOf 186 = .ok (.lcmp, 1) := by decide +kernel
theorem dX11_numberOf_187 : decode cX11_numberOf 187 = .ok (.ifCond .ne 17, 3) := by decide +kernel
theorem dX11_numberOf_190 : decode cX11_numberOf 190 = .ok (.aload_n 0, 1) := by decide +kernel
theorem dX11_numberOf_191 : decode cX11_numberOf 191 = .ok (.getfield 66, 3) := by decide +kernel
theorem dX11_numberOf_194 : decode cX11_numberOf 194 = .ok (.aload_n 0, 1) := by decide +kernel
theorem dX11_numberOf_195 : decode cX11_numberOf 195 = .ok (.getfield 57, 3) := by decide +kernel
theorem dX11_numberOf_198 : decode cX11_numberOf 198 = .ok (.iload_n 1, 1) := by decide +kernel
theorem dX11_numberOf_199 : decode cX11_numberOf 199 = .ok (.iaload, 1) := by decide +kernel
theorem dX11_numberOf_200 : decode cX11_numberOf 200 = .ok (.laload, 1) := by decide +kernel
theorem dX11_numberOf_201 : decode cX11_numberOf 201 = .ok (.goto 28, 3) := by decide +kernel
theorem dX11_numberOf_204 : decode cX11_numberOf 204 = .ok (.aload_n 0, 1) := by decide +kernel
theorem dX11_numberOf_205 : decode cX11_numberOf 205 = .ok (.aload_n 0, 1) := by decide +kernel
theorem dX11_numberOf_206 : decode cX11_numberOf 206 = .ok (.getfield 13, 3) := by decide +kernel
theorem dX11_numberOf_209 : decode cX11_numberOf 209 = .ok (.iload_n 2, 1) := by decide +kernel
theorem dX11_numberOf_210 : decode cX11_numberOf 210 = .ok (.iaload, 1) := by decide +kernel
theorem dX11_numberOf_211 : decode cX11_numberOf 211 = .ok (.iload_n 3, 1) := by decide +kernel
theorem dX11_numberOf_212 : decode cX11_numberOf 212 = .ok (.invokevirtual 180, 3) := by decide +kernel
theorem dX11_numberOf_215 : decode cX11_numberOf 215 = .ok (.aload_n 0, 1) := by decide +kernel
theorem dX11_numberOf_216 : decode cX11_numberOf 216 = .ok (.getfield 66, 3) := by decide +kernel
theorem dX11_numberOf_219 : decode cX11_numberOf 219 = .ok (.aload_n 0, 1) := by decide +kernel
theorem dX11_numberOf_220 : decode cX11_numberOf 220 = .ok (.getfield 57, 3) := by decide +kernel
theorem dX11_numberOf_223 : decode cX11_numberOf 223 = .ok (.iload_n 1, 1) := by decide +kernel
theorem dX11_numberOf_224 : decode cX11_numberOf 224 = .ok (.iaload, 1) := by decide +kernel
theorem dX11_numberOf_225 : decode cX11_numberOf 225 = .ok (.laload, 1) := by decide +kernel
theorem dX11_numberOf_226 : decode cX11_numberOf 226 = .ok (.invokestatic 177, 3) := by decide +kernel
theorem dX11_numberOf_229 : decode cX11_numberOf 229 = .ok (.lastore, 1) := by decide +kernel
theorem dX11_numberOf_230 : decode cX11_numberOf 230 = .ok (.goto 65, 3) := by decide +kernel
theorem dX11_numberOf_233 : decode cX11_numberOf 233 = .ok (.aload_n 0, 1) := by decide +kernel
theorem dX11_numberOf_234 : decode cX11_numberOf 234 = .ok (.getfield 66, 3) := by decide +kernel
theorem dX11_numberOf_237 : decode cX11_numberOf 237 = .ok (.iload_n 1, 1) := by decide +kernel
theorem dX11_numberOf_238 : decode cX11_numberOf 238 = .ok (.aload_n 0, 1) := by decide +kernel
theorem dX11_numberOf_239 : decode cX11_numberOf 239 = .ok (.iload_n 2, 1) := by decide +kernel
theorem dX11_numberOf_240 : decode cX11_numberOf 240 = .ok (.iload_n 3, 1) := by decide +kernel
theorem dX11_numberOf_241 : decode cX11_numberOf 241 = .ok (.aload_n 0, 1) := by decide +kernel
theorem dX11_numberOf_242 : decode cX11_numberOf 242 = .ok (.getfield 57, 3) := by decide +kernel
theorem dX11_numberOf_245 : decode cX11_numberOf 245 = .ok (.iload_n 1, 1) := by decide +kernel
theorem dX11_numberOf_246 : decode cX11_numberOf 246 = .ok (.iaload, 1) := by decide +kernel
theorem dX11_numberOf_247 : decode cX11_numberOf 247 = .ok (.invokevirtual 296, 3) := by decide +kernel
theorem dX11_numberOf_250 : decode cX11_numberOf 250 = .ok (.lastore, 1) := by decide +kernel
theorem dX11_numberOf_251 : decode cX11_numberOf 251 = .ok (.goto 44, 3) := by decide +kernel
theorem dX11_numberOf_254 : decode cX11_numberOf 254 = .ok (.aload_n 0, 1) := by decide +kernel
theorem dX11_numberOf_255 : decode cX11_numberOf 255 = .ok (.getfield 66, 3) := by decide +kernel
theorem dX11_numberOf_258 : decode cX11_numberOf 258 = .ok (.iload_n 1, 1) := by decide +kernel
theorem dX11_numberOf_259 : decode cX11_numberOf 259 = .ok (.aload_n 0, 1) := by decide +kernel
theorem dX11_numberOf_260 : decode cX11_numberOf 260 = .ok (.getfield 66, 3) := by decide +kernel
theorem dX11_numberOf_263 : decode cX11_numberOf 263 = .ok (.aload_n 0, 1) := by decide +kernel
theorem dX11_numberOf_264 : decode cX11_numberOf 264 = .ok (.getfield 57, 3) := by decide +kernel
theorem dX11_numberOf_267 : decode cX11_numberOf 267 = .ok (.iload_n 1, 1) := by decide +kernel
theorem dX11_numberOf_268 : decode cX11_numberOf 268 = .ok (.iaload, 1) := by decide +kernel
theorem dX11_numberOf_269 : decode cX11_numberOf 269 = .ok (.laload, 1) := by decide +kernel
theorem dX11_numberOf_270 : decode cX11_numberOf 270 = .ok (.lastore, 1) := by decide +kernel
theorem dX11_numberOf_271 : decode cX11_numberOf 271 = .ok (.goto 24, 3) := by decide +kernel
theorem dX11_numberOf_274 : decode cX11_numberOf 274 = .ok (.aload_n 0, 1) := by decide +kernel
theorem dX11_numberOf_275 : decode cX11_numberOf 275 = .ok (.getfield 66, 3) := by decide +kernel
theorem dX11_numberOf_278 : decode cX11_numberOf 278 = .ok (.iload_n 1, 1) := by decide +kernel
theorem dX11_numberOf_279 : decode cX11_numberOf 279 = .ok (.aload_n 0, 1) := by decide +kernel
theorem dX11_numberOf_280 : decode cX11_numberOf 280 = .ok (.getfield 63, 3) := by decide +kernel
theorem dX11_numberOf_283 : decode cX11_numberOf 283 = .ok (.iload_n 1, 1) := by decide +kernel
theorem dX11_numberOf_284 : decode cX11_numberOf 284 = .ok (.laload, 1) := by decide +kernel
theorem dX11_numberOf_285 : decode cX11_numberOf 285 = .ok (.lastore, 1) := by decide +kernel
theorem dX11_numberOf_286 : decode cX11_numberOf 286 = .ok (.goto 9, 3) := by decide +kernel
theorem dX11_numberOf_289 : decode cX11_numberOf 289 = .ok (.aload_n 0, 1) := by decide +kernel
theorem dX11_numberOf_290 : decode cX11_numberOf 290 = .ok (.iload_n 1, 1) := by decide +kernel
theorem dX11_numberOf_291 : decode cX11_numberOf 291 = .ok (.iload_n 2, 1) := by decide +kernel
theorem dX11_numberOf_292 : decode cX11_numberOf 292 = .ok (.invokevirtual 299, 3) := by decide +kernel
theorem dX11_numberOf_295 : decode cX11_numberOf 295 = .ok (.return_, 1) := by decide +kernel
theorem dX11_numberOfBoth_0 : decode cX11_numberOfBoth 0 = .ok (.lconst 0, 1) := by decide +kernel
theorem dX11_numberOfBoth_1 : decode cX11_numberOfBoth 1 = .ok (.lstore 5, 2) := by decide +kernel
theorem dX11_numberOfBoth_3 : decode cX11_numberOfBoth 3 = .ok (.iconst 0, 1) := by decide +kernel
theorem dX11_numberOfBoth_4 : decode cX11_numberOfBoth 4 = .ok (.istore 7, 2) := by decide +kernel
theorem dX11_numberOfBoth_6 : decode cX11_numberOfBoth 6 = .ok (.iload 7, 2) := by decide +kernel
theorem dX11_numberOfBoth_8 : decode cX11_numberOfBoth 8 = .ok (.aload_n 0, 1) := by decide +kernel
theorem dX11_numberOfBoth_9 : decode cX11_numberOfBoth 9 = .ok (.getfield 54, 3) := by decide +kernel
theorem dX11_numberOfBoth_12 : decode cX11_numberOfBoth 12 = .ok (.iload_n 3, 1) := by decide +kernel
theorem dX11_numberOfBoth_13 : decode cX11_numberOfBoth 13 = .ok (.iaload, 1) := by decide +kernel
theorem dX11_numberOfBoth_14 : decode cX11_numberOfBoth 14 = .ok (.if_icmp .ge 45, 3) := by decide +kernel
theorem dX11_numberOfBoth_17 : decode cX11_numberOfBoth 17 = .ok (.lload 5, 2) := by decide +kernel
theorem dX11_numberOfBoth_19 : decode cX11_numberOfBoth 19 = .ok (.aload_n 0, 1) := by decide +kernel
theorem dX11_numberOfBoth_20 : decode cX11_numberOfBoth 20 = .ok (.aload_n 0, 1) := by decide +kernel
theorem dX11_numberOfBoth_21 : decode cX11_numberOfBoth 21 = .ok (.getfield 13, 3) := by decide +kernel
theorem dX11_numberOfBoth_24 : decode cX11_numberOfBoth 24 = .ok (.iload_n 1, 1) := by decide +kernel
theorem dX11_numberOfBoth_25 : decode cX11_numberOfBoth 25 = .ok (.iaload, 1) := by decide +kernel
theorem dX11_numberOfBoth_26 : decode cX11_numberOfBoth 26 = .ok (.iload 7, 2) := by decide +kernel
theorem dX11_numberOfBoth_28 : decode cX11_numberOfBoth 28 = .ok (.invokevirtual 180, 3) := by decide +kernel
theorem dX11_numberOfBoth_31 : decode cX11_numberOfBoth 31 = .ok (.aload_n 0, 1) := by decide +kernel
theorem dX11_numberOfBoth_32 : decode cX11_numberOfBoth 32 = .ok (.aload_n 0, 1) := by decide +kernel
theorem dX11_numberOfBoth_33 : decode cX11_numberOfBoth 33 = .ok (.getfield 16, 3) := by decide +kernel
theorem dX11_numberOfBoth_36 : decode cX11_numberOfBoth 36 = .ok (.iload_n 1, 1) := by decide +kernel
theorem dX11_numberOfBoth_37 : decode cX11_numberOfBoth 37 = .ok (.iaload, 1) := by decide +kernel
theorem dX11_numberOfBoth_38 : decode cX11_numberOfBoth 38 = .ok (.iload_n 2, 1) := by decide +kernel
theorem dX11_numberOfBoth_39 : decode cX11_numberOfBoth 39 = .ok (.iload 7, 2) := by decide +kernel
theorem dX11_numberOfBoth_41 : decode cX11_numberOfBoth 41 = .ok (.isub, 1) := by decide +kernel
theorem dX11_numberOfBoth_42 : decode cX11_numberOfBoth 42 = .ok (.invokevirtual 180, 3) := by decide +kernel
theorem dX11_numberOfBoth_45 : decode cX11_numberOfBoth 45 = .ok (.invokestatic 166, 3) := by decide +kernel
theorem dX11_numberOfBoth_48 : decode cX11_numberOfBoth 48 = .ok (.invokestatic 177, 3) := by decide +kernel
theorem dX11_numberOfBoth_51 : decode cX11_numberOfBoth 51 = .ok (.lstore 5, 2) := by decide +kernel
theorem dX11_numberOfBoth_53 : decode cX11_numberOfBoth 53 = .ok (.iinc 7 1, 3) := by decide +kernel
theorem dX11_numberOfBoth_56 : decode cX11_numberOfBoth 56 = .ok (.goto (-50), 3) := by decide +kernel
theorem dX11_numberOfBoth_59 : decode cX11_numberOfBoth 59 = .ok (.lload 5, 2) := by decide +kernel
theorem dX11_numberOfBoth_61 : decode cX11_numberOfBoth 61 = .ok (.aload_n 0, 1) := by decide +kernel
theorem dX11_numberOfBoth_62 : decode cX11_numberOfBoth 62 = .ok (.getfield 66, 3) := by decide +kernel
theorem dX11_numberOfBoth_65 : decode cX11_numberOfBoth 65 = .ok (.iload_n 3, 1) := by decide +kernel
theorem dX11_numberOfBoth_66 : decode cX11_numberOfBoth 66 = .ok (.laload, 1) := by decide +kernel
theorem dX11_numberOfBoth_67 : decode cX11_numberOfBoth 67 = .ok (.aload_n 0, 1) := by decide +kernel
theorem dX11_numberOfBoth_68 : decode cX11_numberOfBoth 68 = .ok (.aload_n 0, 1) := by decide +kernel
theorem dX11_numberOfBoth_69 : decode cX11_numberOfBoth 69 = .ok (.getfield 16, 3) := by decide +kernel
theorem dX11_numberOfBoth_72 : decode cX11_numberOfBoth 72 = .ok (.iload_n 1, 1) := by decide +kernel
theorem dX11_numberOfBoth_73 : decode cX11_numberOfBoth 73 = .ok (.iaload, 1) := by decide +kernel
theorem dX11_numberOfBoth_74 : decode cX11_numberOfBoth 74 = .ok (.aload_n 0, 1) := by decide +kernel
theorem dX11_numberOfBoth_75 : decode cX11_numberOfBoth 75 = .ok (.getfield 54, 3) := by decide +kernel
theorem dX11_numberOfBoth_78 : decode cX11_numberOfBoth 78 = .ok (.iload 4, 2) := by decide +kernel
theorem dX11_numberOfBoth_80 : decode cX11_numberOfBoth 80 = .ok (.iaload, 1) := by decide +kernel
theorem dX11_numberOfBoth_81 : decode cX11_numberOfBoth 81 = .ok (.invokevirtual 180, 3) := by decide +kernel
theorem dX11_numberOfBoth_84 : decode cX11_numberOfBoth 84 = .ok (.invokestatic 166, 3) := by decide +kernel
theorem dX11_numberOfBoth_87 : decode cX11_numberOfBoth 87 = .ok (.invokestatic 177, 3) := by decide +kernel
theorem dX11_numberOfBoth_90 : decode cX11_numberOfBoth 90 = .ok (.aload_n 0, 1) := by decide +kernel
theorem dX11_numberOfBoth_91 : decode cX11_numberOfBoth 91 = .ok (.getfield 66, 3) := by decide +kernel
theorem dX11_numberOfBoth_94 : decode cX11_numberOfBoth 94 = .ok (.iload 4, 2) := by decide +kernel
theorem dX11_numberOfBoth_96 : decode cX11_numberOfBoth 96 = .ok (.laload, 1) := by decide +kernel
theorem dX11_numberOfBoth_97 : decode cX11_numberOfBoth 97 = .ok (.invokestatic 177, 3) := by decide +kernel
theorem dX11_numberOfBoth_100 : decode cX11_numberOfBoth 100 = .ok (.lreturn, 1) := by decide +kernel
theorem dX11_numberOfRow_0 : decode cX11_numberOfRow 0 = .ok (.lconst 0, 1) := by decide +kernel
theorem dX11_numberOfRow_1 : decode cX11_numberOfRow 1 = .ok (.lstore 4, 2) := by decide +kernel
theorem dX11_numberOfRow_3 : decode cX11_numberOfRow 3 = .ok (.iload_n 2, 1) := by decide +kernel
theorem dX11_numberOfRow_4 : decode cX11_numberOfRow 4 = .ok (.istore 6, 2) := by decide +kernel
theorem dX11_numberOfRow_6 : decode cX11_numberOfRow 6 = .ok (.iload_n 3, 1) := by decide +kernel
theorem dX11_numberOfRow_7 : decode cX11_numberOfRow 7 = .ok (.istore 7, 2) := by decide +kernel
theorem dX11_numberOfRow_9 : decode cX11_numberOfRow 9 = .ok (.iload 7, 2) := by decide +kernel
theorem dX11_numberOfRow_11 : decode cX11_numberOfRow 11 = .ok (.ifCond .eq 104, 3) := by decide +kernel
theorem dX11_numberOfRow_14 : decode cX11_numberOfRow 14 = .ok (.iconst 1, 1) := by decide +kernel
theorem dX11_numberOfRow_15 : decode cX11_numberOfRow 15 = .ok (.istore 8, 2) := by decide +kernel
theorem dX11_numberOfRow_17 : decode cX11_numberOfRow 17 = .ok (.iload 8, 2) := by decide +kernel
theorem dX11_numberOfRow_19 : decode cX11_numberOfRow 19 = .ok (.aload_n 0, 1) := by decide +kernel
theorem dX11_numberOfRow_20 : decode cX11_numberOfRow 20 = .ok (.getfield 54, 3) := by decide +kernel
theorem dX11_numberOfRow_23 : decode cX11_numberOfRow 23 = .ok (.iload 7, 2) := by decide +kernel
theorem dX11_numberOfRow_25 : decode cX11_numberOfRow 25 = .ok (.iaload, 1) := by decide +kernel
theorem dX11_numberOfRow_26 : decode cX11_numberOfRow 26 = .ok (.if_icmp .ge 41, 3) := by decide +kernel
theorem dX11_numberOfRow_29 : decode cX11_numberOfRow 29 = .ok (.lload 4, 2) := by decide +kernel
theorem dX11_numberOfRow_31 : decode cX11_numberOfRow 31 = .ok (.aload_n 0, 1) := by decide +kernel
theorem dX11_numberOfRow_32 : decode cX11_numberOfRow 32 = .ok (.aload_n 0, 1) := by decide +kernel
theorem dX11_numberOfRow_33 : decode cX11_numberOfRow 33 = .ok (.getfield 13, 3) := by decide +kernel
theorem dX11_numberOfRow_36 : decode cX11_numberOfRow 36 = .ok (.iload_n 1, 1) := by decide +kernel
theorem dX11_numberOfRow_37 : decode cX11_numberOfRow 37 = .ok (.iaload, 1) := by decide +kernel
theorem dX11_numberOfRow_38 : decode cX11_numberOfRow 38 = .ok (.iload 8, 2) := by decide +kernel
theorem dX11_numberOfRow_40 : decode cX11_numberOfRow 40 = .ok (.invokevirtual 180, 3) := by decide +kernel
theorem dX11_numberOfRow_43 : decode cX11_numberOfRow 43 = .ok (.aload_n 0, 1) := by decide +kernel
theorem dX11_numberOfRow_44 : decode cX11_numberOfRow 44 = .ok (.iload_n 1, 1) := by decide +kernel
theorem dX11_numberOfRow_45 : decode cX11_numberOfRow 45 = .ok (.iload 6, 2) := by decide +kernel
theorem dX11_numberOfRow_47 : decode cX11_numberOfRow 47 = .ok (.iload 8, 2) := by decide +kernel
theorem dX11_numberOfRow_49 : decode cX11_numberOfRow 49 = .ok (.isub, 1) := by decide +kernel
theorem dX11_numberOfRow_50 : decode cX11_numberOfRow 50 = .ok (.invokevirtual 180, 3) := by decide +kernel
theorem dX11_numberOfRow_53 : decode cX11_numberOfRow 53 = .ok (.invokestatic 166, 3) := by decide +kernel
theorem dX11_numberOfRow_56 : decode cX11_numberOfRow 56 = .ok (.invokestatic 177, 3) := by decide +kernel
theorem dX11_numberOfRow_59 : decode cX11_numberOfRow 59 = .ok (.lstore 4, 2) := by decide +kernel
theorem dX11_numberOfRow_61 : decode cX11_numberOfRow 61 = .ok (.iinc 8 1, 3) := by decide +kernel
theorem dX11_numberOfRow_64 : decode cX11_numberOfRow 64 = .ok (.goto (-47), 3) := by decide +kernel
theorem dX11_numberOfRow_67 : decode cX11_numberOfRow 67 = .ok (.iload 6, 2) := by decide +kernel
theorem dX11_numberOfRow_69 : decode cX11_numberOfRow 69 = .ok (.aload_n 0, 1) := by decide +kernel
theorem dX11_numberOfRow_70 : decode cX11_numberOfRow 70 = .ok (.getfield 54, 3) := by decide +kernel
theorem dX11_numberOfRow_73 : decode cX11_numberOfRow 73 = .ok (.iload 7, 2) := by decide +kernel
theorem dX11_numberOfRow_75 : decode cX11_numberOfRow 75 = .ok (.iaload, 1) := by decide +kernel
theorem dX11_numberOfRow_76 : decode cX11_numberOfRow 76 = .ok (.isub, 1) := by decide +kernel
theorem dX11_numberOfRow_77 : decode cX11_numberOfRow 77 = .ok (.istore 6, 2) := by decide +kernel
theorem dX11_numberOfRow_79 : decode cX11_numberOfRow 79 = .ok (.lload 4, 2) := by decide +kernel
theorem dX11_numberOfRow_81 : decode cX11_numberOfRow 81 = .ok (.aload_n 0, 1) := by decide +kernel
theorem dX11_numberOfRow_82 : decode cX11_numberOfRow 82 = .ok (.getfield 66, 3) := by decide +kernel
theorem dX11_numberOfRow_85 : decode cX11_numberOfRow 85 = .ok (.iload 7, 2) := by decide +kernel
theorem dX11_numberOfRow_87 : decode cX11_numberOfRow 87 = .ok (.laload, 1) := by decide +kernel
theorem dX11_numberOfRow_88 : decode cX11_numberOfRow 88 = .ok (.aload_n 0, 1) := by decide +kernel
theorem dX11_numberOfRow_89 : decode cX11_numberOfRow 89 = .ok (.iload_n 1, 1) := by decide +kernel
theorem dX11_numberOfRow_90 : decode cX11_numberOfRow 90 = .ok (.iload 6, 2) := by decide +kernel
theorem dX11_numberOfRow_92 : decode cX11_numberOfRow 92 = .ok (.invokevirtual 180, 3) := by decide +kernel
theorem dX11_numberOfRow_95 : decode cX11_numberOfRow 95 = .ok (.invokestatic 166, 3) := by decide +kernel
theorem dX11_numberOfRow_98 : decode cX11_numberOfRow 98 = .ok (.invokestatic 177, 3) := by decide +kernel
theorem dX11_numberOfRow_101 : decode cX11_numberOfRow 101 = .ok (.lstore 4, 2) := by decide +kernel
theorem dX11_numberOfRow_103 : decode cX11_numberOfRow 103 = .ok (.aload_n 0, 1) := by decide +kernel
theorem dX11_numberOfRow_104 : decode cX11_numberOfRow 104 = .ok (.getfield 60, 3) := by decide +kernel
theorem dX11_numberOfRow_107 : decode cX11_numberOfRow 107 = .ok (.iload 7, 2) := by decide +kernel
theorem dX11_numberOfRow_109 : decode cX11_numberOfRow 109 = .ok (.iaload, 1) := by decide +kernel
theorem dX11_numberOfRow_110 : decode cX11_numberOfRow 110 = .ok (.istore 7, 2) := by decide +kernel
theorem dX11_numberOfRow_112 : decode cX11_numberOfRow 112 = .ok (.goto (-103), 3) := by decide +kernel
theorem dX11_numberOfRow_115 : decode cX11_numberOfRow 115 = .ok (.lload 4, 2) := by decide +kernel
theorem dX11_numberOfRow_117 : decode cX11_numberOfRow 117 = .ok (.lreturn, 1) := by decide +kernel
theorem dX11_numberOfSet_0 : decode cX11_numberOfSet 0 = .ok (.iconst 0, 1) := by decide +kernel
theorem dX11_numberOfSet_1 : decode cX11_numberOfSet 1 = .ok (.istore_n 3, 1) := by decide +kernel
theorem dX11_numberOfSet_2 : decode cX11_numberOfSet 2 = .ok (.aload_n 0, 1) := by decide +kernel
theorem dX11_numberOfSet_3 : decode cX11_numberOfSet 3 = .ok (.getfield 57, 3) := by decide +kernel
theorem dX11_numberOfSet_6 : decode cX11_numberOfSet 6 = .ok (.iload_n 1, 1) := by decide +kernel
theorem dX11_numberOfSet_7 : decode cX11_numberOfSet 7 = .ok (.iaload, 1) := by decide +kernel
theorem dX11_numberOfSet_8 : decode cX11_numberOfSet 8 = .ok (.istore 4, 2) := by decide +kernel
theorem dX11_numberOfSet_10 : decode cX11_numberOfSet 10 = .ok (.iload 4, 2) := by decide +kernel
theorem dX11_numberOfSet_12 : decode cX11_numberOfSet 12 = .ok (.ifCond .eq 115, 3) := by decide +kernel
theorem dX11_numberOfSet_15 : decode cX11_numberOfSet 15 = .ok (.aload_n 0, 1) := by decide +kernel
theorem dX11_numberOfSet_16 : decode cX11_numberOfSet 16 = .ok (.aload_n 0, 1) := by decide +kernel
theorem dX11_numberOfSet_17 : decode cX11_numberOfSet 17 = .ok (.getfield 302, 3) := by decide +kernel
theorem dX11_numberOfSet_20 : decode cX11_numberOfSet 20 = .ok (.ifCond .ne 27, 3) := by decide +kernel
theorem dX11_numberOfSet_23 : decode cX11_numberOfSet 23 = .ok (.aload_n 0, 1) := by decide +kernel
theorem dX11_numberOfSet_24 : decode cX11_numberOfSet 24 = .ok (.getfield 69, 3) := by decide +kernel
theorem dX11_numberOfSet_27 : decode cX11_numberOfSet 27 = .ok (.iload 4, 2) := by decide +kernel
theorem dX11_numberOfSet_29 : decode cX11_numberOfSet 29 = .ok (.baload, 1) := by decide +kernel
theorem dX11_numberOfSet_30 : decode cX11_numberOfSet 30 = .ok (.ifCond .ne 21, 3) := by decide +kernel
theorem dX11_numberOfSet_33 : decode cX11_numberOfSet 33 = .ok (.aload_n 0, 1) := by decide +kernel
theorem dX11_numberOfSet_34 : decode cX11_numberOfSet 34 = .ok (.getfield 66, 3) := by decide +kernel
theorem dX11_numberOfSet_37 : decode cX11_numberOfSet 37 = .ok (.iload 4, 2) := by decide +kernel
theorem dX11_numberOfSet_39 : decode cX11_numberOfSet 39 = .ok (.laload, 1) := by decide +kernel
theorem dX11_numberOfSet_40 : decode cX11_numberOfSet 40 = .ok (.ldc2_w 158, 3) := by decide +kernel
theorem dX11_numberOfSet_43 : decode cX11_numberOfSet 43 = .ok (.lcmp, 1) := by decide +kernel
theorem dX11_numberOfSet_44 : decode cX11_numberOfSet 44 = .ok (.ifCond .lt 7, 3) := by decide +kernel
theorem dX11_numberOfSet_47 : decode cX11_numberOfSet 47 = .ok (.iconst 1, 1) := by decide +kernel
theorem dX11_numberOfSet_48 : decode cX11_numberOfSet 48 = .ok (.goto 4, 3) := by decide +kernel
theorem dX11_numberOfSet_51 : decode cX11_numberOfSet 51 = .ok (.iconst 0, 1) := by decide +kernel
theorem dX11_numberOfSet_52 : decode cX11_numberOfSet 52 = .ok (.putfield 302, 3) := by decide +kernel
theorem dX11_numberOfSet_55 : decode cX11_numberOfSet 55 = .ok (.iload_n 3, 1) := by decide +kernel
theorem dX11_numberOfSet_56 : decode cX11_numberOfSet 56 = .ok (.istore 5, 2) := by decide +kernel
theorem dX11_numberOfSet_58 : decode cX11_numberOfSet 58 = .ok (.iload 5, 2) := by decide +kernel
theorem dX11_numberOfSet_60 : decode cX11_numberOfSet 60 = .ok (.ifCond .le 43, 3) := by decide +kernel
theorem dX11_numberOfSet_63 : decode cX11_numberOfSet 63 = .ok (.aload_n 0, 1) := by decide +kernel
theorem dX11_numberOfSet_64 : decode cX11_numberOfSet 64 = .ok (.iload 4, 2) := by decide +kernel
theorem dX11_numberOfSet_66 : decode cX11_numberOfSet 66 = .ok (.aload_n 0, 1) := by decide +kernel
theorem dX11_numberOfSet_67 : decode cX11_numberOfSet 67 = .ok (.getfield 72, 3) := by decide +kernel
theorem dX11_numberOfSet_70 : decode cX11_numberOfSet 70 = .ok (.iload 5, 2) := by decide +kernel
theorem dX11_numberOfSet_72 : decode cX11_numberOfSet 72 = .ok (.iconst 1, 1) := by decide +kernel
theorem dX11_numberOfSet_73 : decode cX11_numberOfSet 73 = .ok (.isub, 1) := by decide +kernel
theorem dX11_numberOfSet_74 : decode cX11_numberOfSet 74 = .ok (.iaload, 1) := by decide +kernel
theorem dX11_numberOfSet_75 : decode cX11_numberOfSet 75 = .ok (.invokevirtual 305, 3) := by decide +kernel
theorem dX11_numberOfSet_78 : decode cX11_numberOfSet 78 = .ok (.ifCond .eq 25, 3) := by decide +kernel
theorem dX11_numberOfSet_81 : decode cX11_numberOfSet 81 = .ok (.aload_n 0, 1) := by decide +kernel
theorem dX11_numberOfSet_82 : decode cX11_numberOfSet 82 = .ok (.getfield 72, 3) := by decide +kernel
theorem dX11_numberOfSet_85 : decode cX11_numberOfSet 85 = .ok (.iload 5, 2) := by decide +kernel
theorem dX11_numberOfSet_87 : decode cX11_numberOfSet 87 = .ok (.aload_n 0, 1) := by decide +kernel
theorem dX11_numberOfSet_88 : decode cX11_numberOfSet 88 = .ok (.getfield 72, 3) := by decide +kernel
theorem dX11_numberOfSet_91 : decode cX11_numberOfSet 91 = .ok (.iload 5, 2) := by decide +kernel
theorem dX11_numberOfSet_93 : decode cX11_numberOfSet 93 = .ok (.iconst 1, 1) := by decide +kernel
theorem dX11_numberOfSet_94 : decode cX11_numberOfSet 94 = .ok (.isub, 1) := by decide +kernel
theorem dX11_numberOfSet_95 : decode cX11_numberOfSet 95 = .ok (.iaload, 1) := by decide +kernel
theorem dX11_numberOfSet_96 : decode cX11_numberOfSet 96 = .ok (.iastore, 1) := by decide +kernel
theorem dX11_numberOfSet_97 : decode cX11_numberOfSet 97 = .ok (.iinc 5 (-1), 3) := by decide +kernel
theorem dX11_numberOfSet_100 : decode cX11_numberOfSet 100 = .ok (.goto (-42), 3) := by decide +kernel
theorem dX11_numberOfSet_103 : decode cX11_numberOfSet 103 = .ok (.aload_n 0, 1) := by decide +kernel
theorem dX11_numberOfSet_104 : decode cX11_numberOfSet 104 = .ok (.getfield 72, 3) := by decide +kernel
theorem dX11_numberOfSet_107 : decode cX11_numberOfSet 107 = .ok (.iload 5, 2) := by decide +kernel
theorem dX11_numberOfSet_109 : decode cX11_numberOfSet 109 = .ok (.iload 4, 2) := by decide +kernel
theorem dX11_numberOfSet_111 : decode cX11_numberOfSet 111 = .ok (.iastore, 1) := by decide +kernel
theorem dX11_numberOfSet_112 : decode cX11_numberOfSet 112 = .ok (.iinc 3 1, 3) := by decide +kernel
theorem dX11_numberOfSet_115 : decode cX11_numberOfSet 115 = .ok (.aload_n 0, 1) := by decide +kernel
theorem dX11_numberOfSet_116 : decode cX11_numberOfSet 116 = .ok (.getfield 60, 3) := by decide +kernel
theorem dX11_numberOfSet_119 : decode cX11_numberOfSet 119 = .ok (.iload 4, 2) := by decide +kernel
theorem dX11_numberOfSet_121 : decode cX11_numberOfSet 121 = .ok (.iaload, 1) := by decide +kernel
theorem dX11_numberOfSet_122 : decode cX11_numberOfSet 122 = .ok (.istore 4, 2) := by decide +kernel
theorem dX11_numberOfSet_124 : decode cX11_numberOfSet 124 = .ok (.goto (-114), 3) := by decide +kernel
theorem dX11_numberOfSet_127 : decode cX11_numberOfSet 127 = .ok (.aload_n 0, 1) := by decide +kernel
theorem dX11_numberOfSet_128 : decode cX11_numberOfSet 128 = .ok (.getfield 7, 3) := by decide +kernel
theorem dX11_numberOfSet_131 : decode cX11_numberOfSet 131 = .ok (.iload_n 2, 1) := by decide +kernel
theorem dX11_numberOfSet_132 : decode cX11_numberOfSet 132 = .ok (.iaload, 1) := by decide +kernel
theorem dX11_numberOfSet_133 : decode cX11_numberOfSet 133 = .ok (.bipush 6, 2) := by decide +kernel
theorem dX11_numberOfSet_135 : decode cX11_numberOfSet 135 = .ok (.if_icmp .ne 8, 3) := by decide +kernel
theorem dX11_numberOfSet_138 : decode cX11_numberOfSet 138 = .ok (.aload_n 0, 1) := by decide +kernel
theorem dX11_numberOfSet_139 : decode cX11_numberOfSet 139 = .ok (.iload_n 1, 1) := by decide +kernel
theorem dX11_numberOfSet_140 : decode cX11_numberOfSet 140 = .ok (.invokevirtual 309, 3) := by decide +kernel
theorem dX11_numberOfSet_143 : decode cX11_numberOfSet 143 = .ok (.lconst 0, 1) := by decide +kernel
theorem dX11_numberOfSet_144 : decode cX11_numberOfSet 144 = .ok (.lstore 4, 2) := by decide +kernel
theorem dX11_numberOfSet_146 : decode cX11_numberOfSet 146 = .ok (.aload_n 0, 1) := by decide +kernel
theorem dX11_numberOfSet_147 : decode cX11_numberOfSet 147 = .ok (.getfield 54, 3) := by decide +kernel
theorem dX11_numberOfSet_150 : decode cX11_numberOfSet 150 = .ok (.iload_n 1, 1) := by decide +kernel
theorem dX11_numberOfSet_151 : decode cX11_numberOfSet 151 = .ok (.iaload, 1) := by decide +kernel
theorem dX11_numberOfSet_152 : decode cX11_numberOfSet 152 = .ok (.istore 6, 2) := by decide +kernel
theorem dX11_numberOfSet_154 : decode cX11_numberOfSet 154 = .ok (.iconst 0, 1) := by decide +kernel
theorem dX11_numberOfSet_155 : decode cX11_numberOfSet 155 = .ok (.istore 7, 2) := by decide +kernel
theorem dX11_numberOfSet_157 : decode cX11_numberOfSet 157 = .ok (.iload 7, 2) := by decide +kernel
theorem dX11_numberOfSet_159 : decode cX11_numberOfSet 159 = .ok (.iload_n 3, 1) := by decide +kernel
theorem dX11_numberOfSet_160 : decode cX11_numberOfSet 160 = .ok (.if_icmp .ge 58, 3) := by decide +kernel
theorem dX11_numberOfSet_163 : decode cX11_numberOfSet 163 = .ok (.aload_n 0, 1) := by decide +kernel
theorem dX11_numberOfSet_164 : decode cX11_numberOfSet 164 = .ok (.getfield 72, 3) := by decide +kernel
theorem dX11_numberOfSet_167 : decode cX11_numberOfSet 167 = .ok (.iload 7, 2) := by decide +kernel
theorem dX11_numberOfSet_169 : decode cX11_numberOfSet 169 = .ok (.iaload, 1) := by decide +kernel
theorem dX11_numberOfSet_170 : decode cX11_numberOfSet 170 = .ok (.istore 8, 2) := by decide +kernel
theorem dX11_numberOfSet_172 : decode cX11_numberOfSet 172 = .ok (.lload 4, 2) := by decide +kernel
theorem dX11_numberOfSet_174 : decode cX11_numberOfSet 174 = .ok (.aload_n 0, 1) := by decide +kernel
theorem dX11_numberOfSet_175 : decode cX11_numberOfSet 175 = .ok (.iload_n 2, 1) := by decide +kernel
theorem dX11_numberOfSet_176 : decode cX11_numberOfSet 176 = .ok (.iload 6, 2) := by decide +kernel
theorem dX11_numberOfSet_178 : decode cX11_numberOfSet 178 = .ok (.aload_n 0, 1) := by decide +kernel
theorem dX11_numberOfSet_179 : decode cX11_numberOfSet 179 = .ok (.getfield 54, 3) := by decide +kernel
theorem dX11_numberOfSet_182 : decode cX11_numberOfSet 182 = .ok (.iload 8, 2) := by decide +kernel
theorem dX11_numberOfSet_184 : decode cX11_numberOfSet 184 = .ok (.iaload, 1) := by decide +kernel
theorem dX11_numberOfSet_185 : decode cX11_numberOfSet 185 = .ok (.aload_n 0, 1) := by decide +kernel
theorem dX11_numberOfSet_186 : decode cX11_numberOfSet 186 = .ok (.getfield 66, 3) := by decide +kernel
theorem dX11_numberOfSet_189 : decode cX11_numberOfSet 189 = .ok (.iload 8, 2) := by decide +kernel
theorem dX11_numberOfSet_191 : decode cX11_numberOfSet 191 = .ok (.laload, 1) := by decide +kernel
theorem dX11_numberOfSet_192 : decode cX11_numberOfSet 192 = .ok (.invokevirtual 184, 3) := by decide +kernel
theorem dX11_numberOfSet_195 : decode cX11_numberOfSet 195 = .ok (.invokestatic 177, 3) := by decide +kernel
theorem dX11_numberOfSet_198 : decode cX11_numberOfSet 198 = .ok (.lstore 4, 2) := by decide +kernel
theorem dX11_numberOfSet_200 : decode cX11_numberOfSet 200 = .ok (.iload 6, 2) := by decide +kernel
theorem dX11_numberOfSet_202 : decode cX11_numberOfSet 202 = .ok (.aload_n 0, 1) := by decide +kernel
theorem dX11_numberOfSet_203 : decode cX11_numberOfSet 203 = .ok (.getfield 54, 3) := by decide +kernel
theorem dX11_numberOfSet_206 : decode cX11_numberOfSet 206 = .ok (.iload 8, 2) := by decide +kernel
theorem dX11_numberOfSet_208 : decode cX11_numberOfSet 208 = .ok (.iaload, 1) := by decide +kernel
theorem dX11_numberOfSet_209 : decode cX11_numberOfSet 209 = .ok (.isub, 1) := by decide +kernel
theorem dX11_numberOfSet_210 : decode cX11_numberOfSet 210 = .ok (.istore 6, 2) := by decide +kernel
theorem dX11_numberOfSet_212 : decode cX11_numberOfSet 212 = .ok (.iinc 7 1, 3) := by decide +kernel
theorem dX11_numberOfSet_215 : decode cX11_numberOfSet 215 = .ok (.goto (-58), 3) := by decide +kernel
theorem dX11_numberOfSet_218 : decode cX11_numberOfSet 218 = .ok (.aload_n 0, 1) := by decide +kernel
theorem dX11_numberOfSet_219 : decode cX11_numberOfSet 219 = .ok (.getfield 66, 3) := by decide +kernel
theorem dX11_numberOfSet_222 : decode cX11_numberOfSet 222 = .ok (.iload_n 1, 1) := by decide +kernel
theorem dX11_numberOfSet_223 : decode cX11_numberOfSet 223 = .ok (.lload 4, 2) := by decide +kernel
theorem dX11_numberOfSet_225 : decode cX11_numberOfSet 225 = .ok (.lastore, 1) := by decide +kernel
theorem dX11_numberOfSet_226 : decode cX11_numberOfSet 226 = .ok (.return_, 1) := by decide +kernel
theorem dX11_findAlike_0 : decode cX11_findAlike 0 = .ok (.aload_n 0, 1) := by decide +kernel
theorem dX11_findAlike_1 : decode cX11_findAlike 1 = .ok (.getfield 57, 3) := by decide +kernel
theorem dX11_findAlike_4 : decode cX11_findAlike 4 = .ok (.iload_n 1, 1) := by decide +kernel
theorem dX11_findAlike_5 : decode cX11_findAlike 5 = .ok (.iaload, 1) := by decide +kernel
theorem dX11_findAlike_6 : decode cX11_findAlike 6 = .ok (.istore_n 2, 1) := by decide +kernel
theorem dX11_findAlike_7 : decode cX11_findAlike 7 = .ok (.iload_n 2, 1) := by decide +kernel
theorem dX11_findAlike_8 : decode cX11_findAlike 8 = .ok (.ifCond .eq 164, 3) := by decide +kernel
theorem dX11_findAlike_11 : decode cX11_findAlike 11 = .ok (.iconst 0, 1) := by decide +kernel
theorem dX11_findAlike_12 : decode cX11_findAlike 12 = .ok (.istore_n 3, 1) := by decide +kernel
theorem dX11_findAlike_13 : decode cX11_findAlike 13 = .ok (.aload_n 0, 1) := by decide +kernel
theorem dX11_findAlike_14 : decode cX11_findAlike 14 = .ok (.getfield 57, 3) := by decide +kernel
theorem dX11_findAlike_17 : decode cX11_findAlike 17 = .ok (.iload_n 1, 1) := by decide +kernel
theorem dX11_findAlike_18 : decode cX11_findAlike 18 = .ok (.iaload, 1) := by decide +kernel
theorem dX11_findAlike_19 : decode cX11_findAlike 19 = .ok (.istore 4, 2) := by decide +kernel
theorem dX11_findAlike_21 : decode cX11_findAlike 21 = .ok (.iload 4, 2) := by decide +kernel
theorem dX11_findAlike_23 : decode cX11_findAlike 23 = .ok (.iload_n 2, 1) := by decide +kernel
theorem dX11_findAlike_24 : decode cX11_findAlike 24 = .ok (.if_icmp .eq 90, 3) := by decide +kernel
theorem dX11_findAlike_27 : decode cX11_findAlike 27 = .ok (.iload_n 3, 1) := by decide +kernel
theorem dX11_findAlike_28 : decode cX11_findAlike 28 = .ok (.ifCond .ne 68, 3) := by decide +kernel
theorem dX11_findAlike_31 : decode cX11_findAlike 31 = .ok (.aload_n 0, 1) := by decide +kernel
theorem dX11_findAlike_32 : decode cX11_findAlike 32 = .ok (.getfield 69, 3) := by decide +kernel
theorem dX11_findAlike_35 : decode cX11_findAlike 35 = .ok (.iload_n 2, 1) := by decide +kernel
theorem dX11_findAlike_36 : decode cX11_findAlike 36 = .ok (.baload, 1) := by decide +kernel
theorem dX11_findAlike_37 : decode cX11_findAlike 37 = .ok (.ifCond .ne 63, 3) := by decide +kernel
theorem dX11_findAlike_40 : decode cX11_findAlike 40 = .ok (.aload_n 0, 1) := by decide +kernel
theorem dX11_findAlike_41 : decode cX11_findAlike 41 = .ok (.getfield 69, 3) := by decide +kernel
theorem dX11_findAlike_44 : decode cX11_findAlike 44 = .ok (.iload 4, 2) := by decide +kernel
theorem dX11_findAlike_46 : decode cX11_findAlike 46 = .ok (.baload, 1) := by decide +kernel
theorem dX11_findAlike_47 : decode cX11_findAlike 47 = .ok (.ifCond .ne 53, 3) := by decide +kernel
theorem dX11_findAlike_50 : decode cX11_findAlike 50 = .ok (.aload_n 0, 1) := by decide +kernel
theorem dX11_findAlike_51 : decode cX11_findAlike 51 = .ok (.getfield 66, 3) := by decide +kernel
theorem dX11_findAlike_54 : decode cX11_findAlike 54 = .ok (.iload_n 2, 1) := by decide +kernel
theorem dX11_findAlike_55 : decode cX11_findAlike 55 = .ok (.laload, 1) := by decide +kernel
theorem dX11_findAlike_56 : decode cX11_findAlike 56 = .ok (.ldc2_w 158, 3) := by decide +kernel
theorem dX11_findAlike_59 : decode cX11_findAlike 59 = .ok (.lcmp, 1) := by decide +kernel
theorem dX11_findAlike_60 : decode cX11_findAlike 60 = .ok (.ifCond .ge 40, 3) := by decide +kernel
theorem dX11_findAlike_63 : decode cX11_findAlike 63 = .ok (.aload_n 0, 1) := by decide +kernel
theorem dX11_findAlike_64 : decode cX11_findAlike 64 = .ok (.getfield 54, 3) := by decide +kernel
theorem dX11_findAlike_67 : decode cX11_findAlike 67 = .ok (.iload_n 2, 1) := by decide +kernel
theorem dX11_findAlike_68 : decode cX11_findAlike 68 = .ok (.iaload, 1) := by decide +kernel
theorem dX11_findAlike_69 : decode cX11_findAlike 69 = .ok (.aload_n 0, 1) := by decide +kernel
theorem dX11_findAlike_70 : decode cX11_findAlike 70 = .ok (.getfield 54, 3) := by decide +kernel
theorem dX11_findAlike_73 : decode cX11_findAlike 73 = .ok (.iload 4, 2) := by decide +kernel
theorem dX11_findAlike_75 : decode cX11_findAlike 75 = .ok (.iaload, 1) := by decide +kernel
theorem dX11_findAlike_76 : decode cX11_findAlike 76 = .ok (.if_icmp .ne 24, 3) := by decide +kernel
theorem dX11_findAlike_79 : decode cX11_findAlike 79 = .ok (.aload_n 0, 1) := by decide +kernel
theorem dX11_findAlike_80 : decode cX11_findAlike 80 = .ok (.getfield 66, 3) := by decide +kernel
theorem dX11_findAlike_83 : decode cX11_findAlike 83 = .ok (.iload_n 2, 1) := by decide +kernel
theorem dX11_findAlike_84 : decode cX11_findAlike 84 = .ok (.laload, 1) := by decide +kernel
theorem dX11_findAlike_85 : decode cX11_findAlike 85 = .ok (.aload_n 0, 1) := by decide +kernel
theorem dX11_findAlike_86 : decode cX11_findAlike 86 = .ok (.getfield 66, 3) := by decide +kernel
theorem dX11_findAlike_89 : decode cX11_findAlike 89 = .ok (.iload 4, 2) := by decide +kernel
theorem dX11_findAlike_91 : decode cX11_findAlike 91 = .ok (.laload, 1) := by decide +kernel
theorem dX11_findAlike_92 : decode cX11_findAlike 92 = .ok (.lcmp, 1) := by decide +kernel
theorem dX11_findAlike_93 : decode cX11_findAlike 93 = .ok (.ifCond .ne 7, 3) := by decide +kernel
theorem dX11_findAlike_96 : decode cX11_findAlike 96 = .ok (.iconst 1, 1) := by decide +kernel
theorem dX11_findAlike_97 : decode cX11_findAlike 97 = .ok (.goto 4, 3) := by decide +kernel
theorem dX11_findAlike_100 : decode cX11_findAlike 100 = .ok (.iconst 0, 1) := by decide +kernel
theorem dX11_findAlike_101 : decode cX11_findAlike 101 = .ok (.istore_n 3, 1) := by decide +kernel
theorem dX11_findAlike_102 : decode cX11_findAlike 102 = .ok (.aload_n 0, 1) := by decide +kernel
theorem dX11_findAlike_103 : decode cX11_findAlike 103 = .ok (.getfield 60, 3) := by decide +kernel
theorem dX11_findAlike_106 : decode cX11_findAlike 106 = .ok (.iload 4, 2) := by decide +kernel
theorem dX11_findAlike_108 : decode cX11_findAlike 108 = .ok (.iaload, 1) := by decide +kernel
theorem dX11_findAlike_109 : decode cX11_findAlike 109 = .ok (.istore 4, 2) := by decide +kernel
theorem dX11_findAlike_111 : decode cX11_findAlike 111 = .ok (.goto (-90), 3) := by decide +kernel
theorem dX11_findAlike_114 : decode cX11_findAlike 114 = .ok (.iload_n 3, 1) := by decide +kernel
theorem dX11_findAlike_115 : decode cX11_findAlike 115 = .ok (.ifCond .eq 47, 3) := by decide +kernel
theorem dX11_findAlike_118 : decode cX11_findAlike 118 = .ok (.aload_n 0, 1) := by decide +kernel
theorem dX11_findAlike_119 : decode cX11_findAlike 119 = .ok (.getfield 69, 3) := by decide +kernel
theorem dX11_findAlike_122 : decode cX11_findAlike 122 = .ok (.iload_n 1, 1) := by decide +kernel
theorem dX11_findAlike_123 : decode cX11_findAlike 123 = .ok (.iconst 1, 1) := by decide +kernel
theorem dX11_findAlike_124 : decode cX11_findAlike 124 = .ok (.bastore, 1) := by decide +kernel
theorem dX11_findAlike_125 : decode cX11_findAlike 125 = .ok (.aload_n 0, 1) := by decide +kernel
theorem dX11_findAlike_126 : decode cX11_findAlike 126 = .ok (.aload_n 0, 1) := by decide +kernel
theorem dX11_findAlike_127 : decode cX11_findAlike 127 = .ok (.getfield 312, 3) := by decide +kernel
theorem dX11_findAlike_130 : decode cX11_findAlike 130 = .ok (.ifCond .lt 16, 3) := by decide +kernel
theorem dX11_findAlike_133 : decode cX11_findAlike 133 = .ok (.aload_n 0, 1) := by decide +kernel
theorem dX11_findAlike_134 : decode cX11_findAlike 134 = .ok (.getfield 51, 3) := by decide +kernel
theorem dX11_findAlike_137 : decode cX11_findAlike 137 = .ok (.iload_n 2, 1) := by decide +kernel
theorem dX11_findAlike_138 : decode cX11_findAlike 138 = .ok (.iaload, 1) := by decide +kernel
theorem dX11_findAlike_139 : decode cX11_findAlike 139 = .ok (.aload_n 0, 1) := by decide +kernel
theorem dX11_findAlike_140 : decode cX11_findAlike 140 = .ok (.getfield 312, 3) := by decide +kernel
theorem dX11_findAlike_143 : decode cX11_findAlike 143 = .ok (.if_icmp .ge 12, 3) := by decide +kernel
theorem dX11_findAlike_146 : decode cX11_findAlike 146 = .ok (.aload_n 0, 1) := by decide +kernel
theorem dX11_findAlike_147 : decode cX11_findAlike 147 = .ok (.getfield 51, 3) := by decide +kernel
theorem dX11_findAlike_150 : decode cX11_findAlike 150 = .ok (.iload_n 2, 1) := by decide +kernel
theorem dX11_findAlike_151 : decode cX11_findAlike 151 = .ok (.iaload, 1) := by decide +kernel
theorem dX11_findAlike_152 : decode cX11_findAlike 152 = .ok (.goto 7, 3) := by decide +kernel
theorem dX11_findAlike_155 : decode cX11_findAlike 155 = .ok (.aload_n 0, 1) := by decide +kernel
theorem dX11_findAlike_156 : decode cX11_findAlike 156 = .ok (.getfield 312, 3) := by decide +kernel
theorem dX11_findAlike_159 : decode cX11_findAlike 159 = .ok (.putfield 312, 3) := by decide +kernel
theorem dX11_findAlike_162 : decode cX11_findAlike 162 = .ok (.aload_n 0, 1) := by decide +kernel
theorem dX11_findAlike_163 : decode cX11_findAlike 163 = .ok (.getfield 60, 3) := by decide +kernel
theorem dX11_findAlike_166 : decode cX11_findAlike 166 = .ok (.iload_n 2, 1) := by decide +kernel
theorem dX11_findAlike_167 : decode cX11_findAlike 167 = .ok (.iaload, 1) := by decide +kernel
theorem dX11_findAlike_168 : decode cX11_findAlike 168 = .ok (.istore_n 2, 1) := by decide +kernel
theorem dX11_findAlike_169 : decode cX11_findAlike 169 = .ok (.goto (-162), 3) := by decide +kernel
theorem dX11_findAlike_172 : decode cX11_findAlike 172 = .ok (.return_, 1) := by decide +kernel
theorem dX11_fault_0 : decode cX11_fault 0 = .ok (.aload_n 0, 1) := by decide +kernel
theorem dX11_fault_1 : decode cX11_fault 1 = .ok (.iload_n 1, 1) := by decide +kernel
theorem dX11_fault_2 : decode cX11_fault 2 = .ok (.putfield 315, 3) := by decide +kernel
theorem dX11_fault_5 : decode cX11_fault 5 = .ok (.aload_n 0, 1) := by decide +kernel
theorem dX11_fault_6 : decode cX11_fault 6 = .ok (.iload_n 3, 1) := by decide +kernel
theorem dX11_fault_7 : decode cX11_fault 7 = .ok (.putfield 318, 3) := by decide +kernel
theorem dX11_fault_10 : decode cX11_fault 10 = .ok (.ldc2_w 321, 3) := by decide +kernel
theorem dX11_fault_13 : decode cX11_fault 13 = .ok (.iload_n 2, 1) := by decide +kernel
theorem dX11_fault_14 : decode cX11_fault 14 = .ok (.i2l, 1) := by decide +kernel
theorem dX11_fault_15 : decode cX11_fault 15 = .ok (.lsub, 1) := by decide +kernel
theorem dX11_fault_16 : decode cX11_fault 16 = .ok (.lreturn, 1) := by decide +kernel
theorem dX11_readHere_0 : decode cX11_readHere 0 = .ok (.aload_n 0, 1) := by decide +kernel
theorem dX11_readHere_1 : decode cX11_readHere 1 = .ok (.iconst 0, 1) := by decide +kernel
theorem dX11_readHere_2 : decode cX11_readHere 2 = .ok (.putfield 260, 3) := by decide +kernel
theorem dX11_readHere_5 : decode cX11_readHere 5 = .ok (.aload_n 0, 1) := by decide +kernel
theorem dX11_readHere_6 : decode cX11_readHere 6 = .ok (.iconst (-1), 1) := by decide +kernel
theorem dX11_readHere_7 : decode cX11_readHere 7 = .ok (.putfield 263, 3) := by decide +kernel
theorem dX11_readHere_10 : decode cX11_readHere 10 = .ok (.aload_n 0, 1) := by decide +kernel
theorem dX11_readHere_11 : decode cX11_readHere 11 = .ok (.iconst 0, 1) := by decide +kernel
theorem dX11_readHere_12 : decode cX11_readHere 12 = .ok (.putfield 270, 3) := by decide +kernel
theorem dX11_readHere_15 : decode cX11_readHere 15 = .ok (.aload_n 0, 1) := by decide +kernel
theorem dX11_readHere_16 : decode cX11_readHere 16 = .ok (.iload_n 1, 1) := by decide +kernel
theorem dX11_readHere_17 : decode cX11_readHere 17 = .ok (.invokevirtual 276, 3) := by decide +kernel
theorem dX11_readHere_20 : decode cX11_readHere 20 = .ok (.istore_n 2, 1) := by decide +kernel
theorem dX11_readHere_21 : decode cX11_readHere 21 = .ok (.aload_n 0, 1) := by decide +kernel
theorem dX11_readHere_22 : decode cX11_readHere 22 = .ok (.getfield 263, 3) := by decide +kernel
theorem dX11_readHere_25 : decode cX11_readHere 25 = .ok (.ifCond .ge 22, 3) := by decide +kernel
theorem dX11_readHere_28 : decode cX11_readHere 28 = .ok (.aload_n 0, 1) := by decide +kernel
theorem dX11_readHere_29 : decode cX11_readHere 29 = .ok (.getfield 260, 3) := by decide +kernel
theorem dX11_readHere_32 : decode cX11_readHere 32 = .ok (.aload_n 0, 1) := by decide +kernel
theorem dX11_readHere_33 : decode cX11_readHere 33 = .ok (.getfield 254, 3) := by decide +kernel
theorem dX11_readHere_36 : decode cX11_readHere 36 = .ok (.if_icmp .ge 11, 3) := by decide +kernel
theorem dX11_readHere_39 : decode cX11_readHere 39 = .ok (.aload_n 0, 1) := by decide +kernel
theorem dX11_readHere_40 : decode cX11_readHere 40 = .ok (.aload_n 0, 1) := by decide +kernel
theorem dX11_readHere_41 : decode cX11_readHere 41 = .ok (.getfield 260, 3) := by decide +kernel
theorem dX11_readHere_44 : decode cX11_readHere 44 = .ok (.putfield 263, 3) := by decide +kernel
theorem dX11_readHere_47 : decode cX11_readHere 47 = .ok (.aload_n 0, 1) := by decide +kernel
theorem dX11_readHere_48 : decode cX11_readHere 48 = .ok (.getfield 263, 3) := by decide +kernel
theorem dX11_readHere_51 : decode cX11_readHere 51 = .ok (.ifCond .lt 14, 3) := by decide +kernel
theorem dX11_readHere_54 : decode cX11_readHere 54 = .ok (.aload_n 0, 1) := by decide +kernel
theorem dX11_readHere_55 : decode cX11_readHere 55 = .ok (.iconst 1, 1) := by decide +kernel
theorem dX11_readHere_56 : decode cX11_readHere 56 = .ok (.aload_n 0, 1) := by decide +kernel
theorem dX11_readHere_57 : decode cX11_readHere 57 = .ok (.getfield 263, 3) := by decide +kernel
theorem dX11_readHere_60 : decode cX11_readHere 60 = .ok (.iconst (-1), 1) := by decide +kernel
theorem dX11_readHere_61 : decode cX11_readHere 61 = .ok (.invokevirtual 323, 3) := by decide +kernel
theorem dX11_readHere_64 : decode cX11_readHere 64 = .ok (.lreturn, 1) := by decide +kernel
theorem dX11_readHere_65 : decode cX11_readHere 65 = .ok (.aload_n 0, 1) := by decide +kernel
theorem dX11_readHere_66 : decode cX11_readHere 66 = .ok (.invokevirtual 326, 3) := by decide +kernel
theorem dX11_readHere_69 : decode cX11_readHere 69 = .ok (.istore_n 3, 1) := by decide +kernel
theorem dX11_readHere_70 : decode cX11_readHere 70 = .ok (.iload_n 3, 1) := by decide +kernel
theorem dX11_readHere_71 : decode cX11_readHere 71 = .ok (.ifCond .lt 11, 3) := by decide +kernel
theorem dX11_readHere_74 : decode cX11_readHere 74 = .ok (.aload_n 0, 1) := by decide +kernel
theorem dX11_readHere_75 : decode cX11_readHere 75 = .ok (.iconst 2, 1) := by decide +kernel
theorem dX11_readHere_76 : decode cX11_readHere 76 = .ok (.iload_n 3, 1) := by decide +kernel
theorem dX11_readHere_77 : decode cX11_readHere 77 = .ok (.iconst (-1), 1) := by decide +kernel
theorem dX11_readHere_78 : decode cX11_readHere 78 = .ok (.invokevirtual 323, 3) := by decide +kernel
theorem dX11_readHere_81 : decode cX11_readHere 81 = .ok (.lreturn, 1) := by decide +kernel
theorem dX11_readHere_82 : decode cX11_readHere 82 = .ok (.aload_n 0, 1) := by decide +kernel
theorem dX11_readHere_83 : decode cX11_readHere 83 = .ok (.getfield 54, 3) := by decide +kernel
theorem dX11_readHere_86 : decode cX11_readHere 86 = .ok (.iload_n 2, 1) := by decide +kernel
theorem dX11_readHere_87 : decode cX11_readHere 87 = .ok (.iaload, 1) := by decide +kernel
theorem dX11_readHere_88 : decode cX11_readHere 88 = .ok (.bipush 25, 2) := by decide +kernel
theorem dX11_readHere_90 : decode cX11_readHere 90 = .ok (.if_icmp .lt 11, 3) := by decide +kernel
theorem dX11_readHere_93 : decode cX11_readHere 93 = .ok (.aload_n 0, 1) := by decide +kernel
theorem dX11_readHere_94 : decode cX11_readHere 94 = .ok (.iconst 4, 1) := by decide +kernel
theorem dX11_readHere_95 : decode cX11_readHere 95 = .ok (.iconst 0, 1) := by decide +kernel
theorem dX11_readHere_96 : decode cX11_readHere 96 = .ok (.iconst (-1), 1) := by decide +kernel
theorem dX11_readHere_97 : decode cX11_readHere 97 = .ok (.invokevirtual 323, 3) := by decide +kernel
theorem dX11_readHere_100 : decode cX11_readHere 100 = .ok (.lreturn, 1) := by decide +kernel
theorem dX11_readHere_101 : decode cX11_readHere 101 = .ok (.aload_n 0, 1) := by decide +kernel
theorem dX11_readHere_102 : decode cX11_readHere 102 = .ok (.iconst (-1), 1) := by decide +kernel
theorem dX11_readHere_103 : decode cX11_readHere 103 = .ok (.putfield 312, 3) := by decide +kernel
theorem dX11_readHere_106 : decode cX11_readHere 106 = .ok (.aload_n 0, 1) := by decide +kernel
theorem dX11_readHere_107 : decode cX11_readHere 107 = .ok (.iconst 0, 1) := by decide +kernel
theorem dX11_readHere_108 : decode cX11_readHere 108 = .ok (.putfield 302, 3) := by decide +kernel
theorem dX11_readHere_111 : decode cX11_readHere 111 = .ok (.aload_n 0, 1) := by decide +kernel
theorem dX11_readHere_112 : decode cX11_readHere 112 = .ok (.getfield 270, 3) := by decide +kernel
theorem dX11_readHere_115 : decode cX11_readHere 115 = .ok (.istore 4, 2) := by decide +kernel
theorem dX11_readHere_117 : decode cX11_readHere 117 = .ok (.iload 4, 2) := by decide +kernel
theorem dX11_readHere_119 : decode cX11_readHere 119 = .ok (.iconst 1, 1) := by decide +kernel
theorem dX11_readHere_120 : decode cX11_readHere 120 = .ok (.if_icmp .lt 15, 3) := by decide +kernel
theorem dX11_readHere_123 : decode cX11_readHere 123 = .ok (.aload_n 0, 1) := by decide +kernel
theorem dX11_readHere_124 : decode cX11_readHere 124 = .ok (.iload 4, 2) := by decide +kernel
theorem dX11_readHere_126 : decode cX11_readHere 126 = .ok (.invokevirtual 329, 3) := by decide +kernel
theorem dX11_readHere_129 : decode cX11_readHere 129 = .ok (.iinc 4 (-1), 3) := by decide +kernel
theorem dX11_readHere_132 : decode cX11_readHere 132 = .ok (.goto (-15), 3) := by decide +kernel
theorem dX11_readHere_135 : decode cX11_readHere 135 = .ok (.aload_n 0, 1) := by decide +kernel
theorem dX11_readHere_136 : decode cX11_readHere 136 = .ok (.getfield 302, 3) := by decide +kernel
theorem dX11_readHere_139 : decode cX11_readHere 139 = .ok (.ifCond .ne 26, 3) := by decide +kernel
theorem dX11_readHere_142 : decode cX11_readHere 142 = .ok (.aload_n 0, 1) := by decide +kernel
theorem dX11_readHere_143 : decode cX11_readHere 143 = .ok (.getfield 312, 3) := by decide +kernel
theorem dX11_readHere_146 : decode cX11_readHere 146 = .ok (.ifCond .lt 19, 3) := by decide +kernel
theorem dX11_readHere_149 : decode cX11_readHere 149 = .ok (.aload_n 0, 1) := by decide +kernel
theorem dX11_readHere_150 : decode cX11_readHere 150 = .ok (.iconst 3, 1) := by decide +kernel
theorem dX11_readHere_151 : decode cX11_readHere 151 = .ok (.aload_n 0, 1) := by decide +kernel
theorem dX11_readHere_152 : decode cX11_readHere 152 = .ok (.getfield 312, 3) := by decide +kernel
theorem dX11_readHere_155 : decode cX11_readHere 155 = .ok (.aload_n 0, 1) := by decide +kernel
theorem dX11_readHere_156 : decode cX11_readHere 156 = .ok (.getfield 54, 3) := by decide +kernel
theorem dX11_readHere_159 : decode cX11_readHere 159 = .ok (.iload_n 2, 1) := by decide +kernel
theorem dX11_readHere_160 : decode cX11_readHere 160 = .ok (.iaload, 1) := by decide +kernel
theorem dX11_readHere_161 : decode cX11_readHere 161 = .ok (.invokevirtual 323, 3) := by decide +kernel
theorem dX11_readHere_164 : decode cX11_readHere 164 = .ok (.lreturn, 1) := by decide +kernel
theorem dX11_readHere_165 : decode cX11_readHere 165 = .ok (.aload_n 0, 1) := by decide +kernel
theorem dX11_readHere_166 : decode cX11_readHere 166 = .ok (.iconst 0, 1) := by decide +kernel
theorem dX11_readHere_167 : decode cX11_readHere 167 = .ok (.putfield 315, 3) := by decide +kernel
theorem dX11_readHere_170 : decode cX11_readHere 170 = .ok (.aload_n 0, 1) := by decide +kernel
theorem dX11_readHere_171 : decode cX11_readHere 171 = .ok (.aload_n 0, 1) := by decide +kernel
theorem dX11_readHere_172 : decode cX11_readHere 172 = .ok (.getfield 54, 3) := by decide +kernel
theorem dX11_readHere_175 : decode cX11_readHere 175 = .ok (.iload_n 2, 1) := by decide +kernel
theorem dX11_readHere_176 : decode cX11_readHere 176 = .ok (.iaload, 1) := by decide +kernel
theorem dX11_readHere_177 : decode cX11_readHere 177 = .ok (.putfield 318, 3) := by decide +kernel
theorem dX11_readHere_180 : decode cX11_readHere 180 = .ok (.aload_n 0, 1) := by decide +kernel
theorem dX11_readHere_181 : decode cX11_readHere 181 = .ok (.getfield 302, 3) := by decide +kernel
theorem dX11_readHere_184 : decode cX11_readHere 184 = .ok (.ifCond .ne 16, 3) := by decide +kernel
theorem dX11_readHere_187 : decode cX11_readHere 187 = .ok (.aload_n 0, 1) := by decide +kernel
theorem dX11_readHere_188 : decode cX11_readHere 188 = .ok (.getfield 66, 3) := by decide +kernel
theorem dX11_readHere_191 : decode cX11_readHere 191 = .ok (.iload_n 2, 1) := by decide +kernel
theorem dX11_readHere_192 : decode cX11_readHere 192 = .ok (.laload, 1) := by decide +kernel
theorem dX11_readHere_193 : decode cX11_readHere 193 = .ok (.ldc2_w 158, 3) := by decide +kernel
theorem dX11_readHere_196 : decode cX11_readHere 196 = .ok (.lcmp, 1) := by decide +kernel
theorem dX11_readHere_197 : decode cX11_readHere 197 = .ok (.ifCond .lt 9, 3) := by decide +kernel
theorem dX11_readHere_200 : decode cX11_readHere 200 = .ok (.ldc2_w 210, 3) := by decide +kernel
theorem dX11_readHere_203 : decode cX11_readHere 203 = .ok (.goto 9, 3) := by decide +kernel
theorem dX11_readHere_206 : decode cX11_readHere 206 = .ok (.aload_n 0, 1) := by decide +kernel
theorem dX11_readHere_207 : decode cX11_readHere 207 = .ok (.getfield 66, 3) := by decide +kernel
theorem dX11_readHere_210 : decode cX11_readHere 210 = .ok (.iload_n 2, 1) := by decide +kernel
theorem dX11_readHere_211 : decode cX11_readHere 211 = .ok (.laload, 1) := by decide +kernel
theorem dX11_readHere_212 : decode cX11_readHere 212 = .ok (.lreturn, 1) := by decide +kernel
theorem dX11_read_0 : decode cX11_read 0 = .ok (.ldc2_w 105, 3) := by decide +kernel
theorem dX11_read_3 : decode cX11_read 3 = .ok (.lstore_n 2, 1) := by decide +kernel
theorem dX11_read_4 : decode cX11_read 4 = .ok (.aload_n 0, 1) := by decide +kernel
theorem dX11_read_5 : decode cX11_read 5 = .ok (.iload_n 1, 1) := by decide +kernel
theorem dX11_read_6 : decode cX11_read 6 = .ok (.invokevirtual 116, 3) := by decide +kernel
theorem dX11_read_9 : decode cX11_read 9 = .ok (.ifCond .eq 33, 3) := by decide +kernel
theorem dX11_read_12 : decode cX11_read 12 = .ok (.ldc2_w 120, 3) := by decide +kernel
theorem dX11_read_15 : decode cX11_read 15 = .ok (.lstore_n 2, 1) := by decide +kernel
theorem dX11_read_16 : decode cX11_read 16 = .ok (.aload_n 0, 1) := by decide +kernel
theorem dX11_read_17 : decode cX11_read 17 = .ok (.getfield 98, 3) := by decide +kernel
theorem dX11_read_20 : decode cX11_read 20 = .ok (.ifCond .eq 22, 3) := by decide +kernel
theorem dX11_read_23 : decode cX11_read 23 = .ok (.aload_n 0, 1) := by decide +kernel
theorem dX11_read_24 : decode cX11_read 24 = .ok (.iconst 1, 1) := by decide +kernel
theorem dX11_read_25 : decode cX11_read 25 = .ok (.putfield 75, 3) := by decide +kernel
theorem dX11_read_28 : decode cX11_read 28 = .ok (.aload_n 0, 1) := by decide +kernel
theorem dX11_read_29 : decode cX11_read 29 = .ok (.aload_n 0, 1) := by decide +kernel
theorem dX11_read_30 : decode cX11_read 30 = .ok (.getfield 254, 3) := by decide +kernel
theorem dX11_read_33 : decode cX11_read 33 = .ok (.putfield 332, 3) := by decide +kernel
theorem dX11_read_36 : decode cX11_read 36 = .ok (.aload_n 0, 1) := by decide +kernel
theorem dX11_read_37 : decode cX11_read 37 = .ok (.iload_n 1, 1) := by decide +kernel
theorem dX11_read_38 : decode cX11_read 38 = .ok (.invokevirtual 335, 3) := by decide +kernel
theorem dX11_read_41 : decode cX11_read 41 = .ok (.lstore_n 2, 1) := by decide +kernel
theorem dX11_read_42 : decode cX11_read 42 = .ok (.aload_n 0, 1) := by decide +kernel
theorem dX11_read_43 : decode cX11_read 43 = .ok (.iconst 0, 1) := by decide +kernel
theorem dX11_read_44 : decode cX11_read 44 = .ok (.putfield 254, 3) := by decide +kernel
theorem dX11_read_47 : decode cX11_read 47 = .ok (.lload_n 2, 1) := by decide +kernel
theorem dX11_read_48 : decode cX11_read 48 = .ok (.lreturn, 1) := by decide +kernel
theorem dX11_found_0 : decode cX11_found 0 = .ok (.iload_n 1, 1) := by decide +kernel
theorem dX11_found_1 : decode cX11_found 1 = .ok (.i2l, 1) := by decide +kernel
theorem dX11_found_2 : decode cX11_found 2 = .ok (.lconst 0, 1) := by decide +kernel
theorem dX11_found_3 : decode cX11_found 3 = .ok (.ldc2_w 122, 3) := by decide +kernel
theorem dX11_found_6 : decode cX11_found 6 = .ok (.invokestatic 81, 3) := by decide +kernel
theorem dX11_found_9 : decode cX11_found 9 = .ok (.ifCond .ne 7, 3) := by decide +kernel
theorem dX11_found_12 : decode cX11_found 12 = .ok (.ldc2_w 105, 3) := by decide +kernel
theorem dX11_found_15 : decode cX11_found 15 = .ok (.lreturn, 1) := by decide +kernel
theorem dX11_found_16 : decode cX11_found 16 = .ok (.aload_n 0, 1) := by decide +kernel
theorem dX11_found_17 : decode cX11_found 17 = .ok (.getfield 75, 3) := by decide +kernel
theorem dX11_found_20 : decode cX11_found 20 = .ok (.ifCond .ne 7, 3) := by decide +kernel
theorem dX11_found_23 : decode cX11_found 23 = .ok (.ldc2_w 219, 3) := by decide +kernel
theorem dX11_found_26 : decode cX11_found 26 = .ok (.lreturn, 1) := by decide +kernel
theorem dX11_found_27 : decode cX11_found 27 = .ok (.iload_n 1, 1) := by decide +kernel
theorem dX11_found_28 : decode cX11_found 28 = .ok (.ifCond .ne 11, 3) := by decide +kernel
theorem dX11_found_31 : decode cX11_found 31 = .ok (.aload_n 0, 1) := by decide +kernel
theorem dX11_found_32 : decode cX11_found 32 = .ok (.getfield 315, 3) := by decide +kernel
theorem dX11_found_35 : decode cX11_found 35 = .ok (.i2l, 1) := by decide +kernel
theorem dX11_found_36 : decode cX11_found 36 = .ok (.goto 34, 3) := by decide +kernel
theorem dX11_found_39 : decode cX11_found 39 = .ok (.iload_n 1, 1) := by decide +kernel
theorem dX11_found_40 : decode cX11_found 40 = .ok (.iconst 2, 1) := by decide +kernel
theorem dX11_found_41 : decode cX11_found 41 = .ok (.if_icmp .ne 11, 3) := by decide +kernel
theorem dX11_found_44 : decode cX11_found 44 = .ok (.aload_n 0, 1) := by decide +kernel
theorem dX11_found_45 : decode cX11_found 45 = .ok (.getfield 332, 3) := by decide +kernel
theorem dX11_found_48 : decode cX11_found 48 = .ok (.i2l, 1) := by decide +kernel
theorem dX11_found_49 : decode cX11_found 49 = .ok (.goto 21, 3) := by decide +kernel
theorem dX11_found_52 : decode cX11_found 52 = .ok (.aload_n 0, 1) := by decide +kernel
theorem dX11_found_53 : decode cX11_found 53 = .ok (.getfield 318, 3) := by decide +kernel
theorem dX11_found_56 : decode cX11_found 56 = .ok (.ifCond .ge 9, 3) := by decide +kernel
theorem dX11_found_59 : decode cX11_found 59 = .ok (.ldc2_w 219, 3) := by decide +kernel
theorem dX11_found_62 : decode cX11_found 62 = .ok (.goto 8, 3) := by decide +kernel
theorem dX11_found_65 : decode cX11_found 65 = .ok (.aload_n 0, 1) := by decide +kernel
theorem dX11_found_66 : decode cX11_found 66 = .ok (.getfield 318, 3) := by decide +kernel
theorem dX11_found_69 : decode cX11_found 69 = .ok (.i2l, 1) := by decide +kernel
theorem dX11_found_70 : decode cX11_found 70 = .ok (.lreturn, 1) := by decide +kernel
theorem dX11_out_0 : decode cX11_out 0 = .ok (.iload_n 1, 1) := by decide +kernel
theorem dX11_out_1 : decode cX11_out 1 = .ok (.i2l, 1) := by decide +kernel
theorem dX11_out_2 : decode cX11_out 2 = .ok (.lconst 0, 1) := by decide +kernel
theorem dX11_out_3 : decode cX11_out 3 = .ok (.aload_n 0, 1) := by decide +kernel
theorem dX11_out_4 : decode cX11_out 4 = .ok (.getfield 251, 3) := by decide +kernel
theorem dX11_out_7 : decode cX11_out 7 = .ok (.iconst 1, 1) := by decide +kernel
theorem dX11_out_8 : decode cX11_out 8 = .ok (.isub, 1) := by decide +kernel
theorem dX11_out_9 : decode cX11_out 9 = .ok (.i2l, 1) := by decide +kernel
theorem dX11_out_10 : decode cX11_out 10 = .ok (.invokestatic 81, 3) := by decide +kernel
theorem dX11_out_13 : decode cX11_out 13 = .ok (.ifCond .eq 13, 3) := by decide +kernel
theorem dX11_out_16 : decode cX11_out 16 = .ok (.aload_n 0, 1) := by decide +kernel
theorem dX11_out_17 : decode cX11_out 17 = .ok (.getfield 25, 3) := by decide +kernel
theorem dX11_out_20 : decode cX11_out 20 = .ok (.iload_n 1, 1) := by decide +kernel
theorem dX11_out_21 : decode cX11_out 21 = .ok (.iaload, 1) := by decide +kernel
theorem dX11_out_22 : decode cX11_out 22 = .ok (.i2l, 1) := by decide +kernel
theorem dX11_out_23 : decode cX11_out 23 = .ok (.goto 6, 3) := by decide +kernel
theorem dX11_out_26 : decode cX11_out 26 = .ok (.ldc2_w 219, 3) := by decide +kernel
theorem dX11_out_29 : decode cX11_out 29 = .ok (.lreturn, 1) := by decide +kernel
theorem dX11_state_0 : decode cX11_state 0 = .ok (.iload_n 1, 1) := by decide +kernel
theorem dX11_state_1 : decode cX11_state 1 = .ok (.tableswitch 72 0 4 #[35, 41, 47, 53, 59], 35) := by decide +kernel
theorem dX11_state_36 : decode cX11_state 36 = .ok (.aload_n 0, 1) := by decide +kernel
theorem dX11_state_37 : decode cX11_state 37 = .ok (.getfield 95, 3) := by decide +kernel
theorem dX11_state_40 : decode cX11_state 40 = .ok (.i2l, 1) := by decide +kernel
theorem dX11_state_41 : decode cX11_state 41 = .ok (.lreturn, 1) := by decide +kernel
theorem dX11_state_42 : decode cX11_state 42 = .ok (.aload_n 0, 1) := by decide +kernel
theorem dX11_state_43 : decode cX11_state 43 = .ok (.getfield 254, 3) := by decide +kernel
theorem dX11_state_46 : decode cX11_state 46 = .ok (.i2l, 1) := by decide +kernel
theorem dX11_state_47 : decode cX11_state 47 = .ok (.lreturn, 1) := by decide +kernel
theorem dX11_state_48 : decode cX11_state 48 = .ok (.aload_n 0, 1) := by decide +kernel
theorem dX11_state_49 : decode cX11_state 49 = .ok (.getfield 251, 3) := by decide +kernel
theorem dX11_state_52 : decode cX11_state 52 = .ok (.i2l, 1) := by decide +kernel
theorem dX11_state_53 : decode cX11_state 53 = .ok (.lreturn, 1) := by decide +kernel
theorem dX11_state_54 : decode cX11_state 54 = .ok (.aload_n 0, 1) := by decide +kernel
theorem dX11_state_55 : decode cX11_state 55 = .ok (.getfield 91, 3) := by decide +kernel
theorem dX11_state_58 : decode cX11_state 58 = .ok (.i2l, 1) := by decide +kernel
theorem dX11_state_59 : decode cX11_state 59 = .ok (.lreturn, 1) := by decide +kernel
theorem dX11_state_60 : decode cX11_state 60 = .ok (.aload_n 0, 1) := by decide +kernel
theorem dX11_state_61 : decode cX11_state 61 = .ok (.getfield 98, 3) := by decide +kernel
theorem dX11_state_64 : decode cX11_state 64 = .ok (.ifCond .eq 7, 3) := by decide +kernel
theorem dX11_state_67 : decode cX11_state 67 = .ok (.lconst 1, 1) := by decide +kernel
theorem dX11_state_68 : decode cX11_state 68 = .ok (.goto 4, 3) := by decide +kernel
theorem dX11_state_71 : decode cX11_state 71 = .ok (.lconst 0, 1) := by decide +kernel
theorem dX11_state_72 : decode cX11_state 72 = .ok (.lreturn, 1) := by decide +kernel
theorem dX11_state_73 : decode cX11_state 73 = .ok (.ldc2_w 105, 3) := by decide +kernel
theorem dX11_state_76 : decode cX11_state 76 = .ok (.lreturn, 1) := by decide +kernel
theorem dJ6_bitCount_0f7a4_0 : decode cJ6_bitCount_0f7a4 0 = .ok (.iload_n 0, 1) := by decide +kernel
theorem dJ6_bitCount_0f7a4_1 : decode cJ6_bitCount_0f7a4 1 = .ok (.iload_n 0, 1) := by decide +kernel
theorem dJ6_bitCount_0f7a4_2 : decode cJ6_bitCount_0f7a4 2 = .ok (.iconst 1, 1) := by decide +kernel
theorem dJ6_bitCount_0f7a4_3 : decode cJ6_bitCount_0f7a4 3 = .ok (.iushr, 1) := by decide +kernel
theorem dJ6_bitCount_0f7a4_4 : decode cJ6_bitCount_0f7a4 4 = .ok (.ldc_w 265, 3) := by decide +kernel
theorem dJ6_bitCount_0f7a4_7 : decode cJ6_bitCount_0f7a4 7 = .ok (.iand, 1) := by decide +kernel
theorem dJ6_bitCount_0f7a4_8 : decode cJ6_bitCount_0f7a4 8 = .ok (.isub, 1) := by decide +kernel
theorem dJ6_bitCount_0f7a4_9 : decode cJ6_bitCount_0f7a4 9 = .ok (.istore_n 0, 1) := by decide +kernel
theorem dJ6_bitCount_0f7a4_10 : decode cJ6_bitCount_0f7a4 10 = .ok (.iload_n 0, 1) := by decide +kernel
theorem dJ6_bitCount_0f7a4_11 : decode cJ6_bitCount_0f7a4 11 = .ok (.ldc_w 266, 3) := by decide +kernel
theorem dJ6_bitCount_0f7a4_14 : decode cJ6_bitCount_0f7a4 14 = .ok (.iand, 1) := by decide +kernel
theorem dJ6_bitCount_0f7a4_15 : decode cJ6_bitCount_0f7a4 15 = .ok (.iload_n 0, 1) := by decide +kernel
theorem dJ6_bitCount_0f7a4_16 : decode cJ6_bitCount_0f7a4 16 = .ok (.iconst 2, 1) := by decide +kernel
theorem dJ6_bitCount_0f7a4_17 : decode cJ6_bitCount_0f7a4 17 = .ok (.iushr, 1) := by decide +kernel
theorem dJ6_bitCount_0f7a4_18 : decode cJ6_bitCount_0f7a4 18 = .ok (.ldc_w 266, 3) := by decide +kernel
theorem dJ6_bitCount_0f7a4_21 : decode cJ6_bitCount_0f7a4 21 = .ok (.iand, 1) := by decide +kernel
theorem dJ6_bitCount_0f7a4_22 : decode cJ6_bitCount_0f7a4 22 = .ok (.iadd, 1) := by decide +kernel
theorem dJ6_bitCount_0f7a4_23 : decode cJ6_bitCount_0f7a4 23 = .ok (.istore_n 0, 1) := by decide +kernel
theorem dJ6_bitCount_0f7a4_24 : decode cJ6_bitCount_0f7a4 24 = .ok (.iload_n 0, 1) := by decide +kernel
theorem dJ6_bitCount_0f7a4_25 : decode cJ6_bitCount_0f7a4 25 = .ok (.iload_n 0, 1) := by decide +kernel
theorem dJ6_bitCount_0f7a4_26 : decode cJ6_bitCount_0f7a4 26 = .ok (.iconst 4, 1) := by decide +kernel
theorem dJ6_bitCount_0f7a4_27 : decode cJ6_bitCount_0f7a4 27 = .ok (.iushr, 1) := by decide +kernel
theorem dJ6_bitCount_0f7a4_28 : decode cJ6_bitCount_0f7a4 28 = .ok (.iadd, 1) := by decide +kernel
theorem dJ6_bitCount_0f7a4_29 : decode cJ6_bitCount_0f7a4 29 = .ok (.ldc_w 267, 3) := by decide +kernel
theorem dJ6_bitCount_0f7a4_32 : decode cJ6_bitCount_0f7a4 32 = .ok (.iand, 1) := by decide +kernel
theorem dJ6_bitCount_0f7a4_33 : decode cJ6_bitCount_0f7a4 33 = .ok (.istore_n 0, 1) := by decide +kernel
theorem dJ6_bitCount_0f7a4_34 : decode cJ6_bitCount_0f7a4 34 = .ok (.iload_n 0, 1) := by decide +kernel
theorem dJ6_bitCount_0f7a4_35 : decode cJ6_bitCount_0f7a4 35 = .ok (.iload_n 0, 1) := by decide +kernel
theorem dJ6_bitCount_0f7a4_36 : decode cJ6_bitCount_0f7a4 36 = .ok (.bipush 8, 2) := by decide +kernel
theorem dJ6_bitCount_0f7a4_38 : decode cJ6_bitCount_0f7a4 38 = .ok (.iushr, 1) := by decide +kernel
theorem dJ6_bitCount_0f7a4_39 : decode cJ6_bitCount_0f7a4 39 = .ok (.iadd, 1) := by decide +kernel
theorem dJ6_bitCount_0f7a4_40 : decode cJ6_bitCount_0f7a4 40 = .ok (.istore_n 0, 1) := by decide +kernel
theorem dJ6_bitCount_0f7a4_41 : decode cJ6_bitCount_0f7a4 41 = .ok (.iload_n 0, 1) := by decide +kernel
theorem dJ6_bitCount_0f7a4_42 : decode cJ6_bitCount_0f7a4 42 = .ok (.iload_n 0, 1) := by decide +kernel
theorem dJ6_bitCount_0f7a4_43 : decode cJ6_bitCount_0f7a4 43 = .ok (.bipush 16, 2) := by decide +kernel
theorem dJ6_bitCount_0f7a4_45 : decode cJ6_bitCount_0f7a4 45 = .ok (.iushr, 1) := by decide +kernel
theorem dJ6_bitCount_0f7a4_46 : decode cJ6_bitCount_0f7a4 46 = .ok (.iadd, 1) := by decide +kernel
theorem dJ6_bitCount_0f7a4_47 : decode cJ6_bitCount_0f7a4 47 = .ok (.istore_n 0, 1) := by decide +kernel
theorem dJ6_bitCount_0f7a4_48 : decode cJ6_bitCount_0f7a4 48 = .ok (.iload_n 0, 1) := by decide +kernel
theorem dJ6_bitCount_0f7a4_49 : decode cJ6_bitCount_0f7a4 49 = .ok (.bipush 63, 2) := by decide +kernel
theorem dJ6_bitCount_0f7a4_51 : decode cJ6_bitCount_0f7a4 51 = .ok (.iand, 1) := by decide +kernel
theorem dJ6_bitCount_0f7a4_52 : decode cJ6_bitCount_0f7a4 52 = .ok (.ireturn, 1) := by decide +kernel
theorem dJ9_max_7cf53_0 : decode cJ9_max_7cf53 0 = .ok (.iload_n 0, 1) := by decide +kernel
theorem dJ9_max_7cf53_1 : decode cJ9_max_7cf53 1 = .ok (.iload_n 1, 1) := by decide +kernel
theorem dJ9_max_7cf53_2 : decode cJ9_max_7cf53 2 = .ok (.if_icmp .lt 7, 3) := by decide +kernel
theorem dJ9_max_7cf53_5 : decode cJ9_max_7cf53 5 = .ok (.iload_n 0, 1) := by decide +kernel
theorem dJ9_max_7cf53_6 : decode cJ9_max_7cf53 6 = .ok (.goto 4, 3) := by decide +kernel
theorem dJ9_max_7cf53_9 : decode cJ9_max_7cf53 9 = .ok (.iload_n 1, 1) := by decide +kernel
theorem dJ9_max_7cf53_10 : decode cJ9_max_7cf53 10 = .ok (.ireturn, 1) := by decide +kernel
theorem dJ9_max_f86c9_0 : decode cJ9_max_f86c9 0 = .ok (.lload_n 0, 1) := by decide +kernel
theorem dJ9_max_f86c9_1 : decode cJ9_max_f86c9 1 = .ok (.lload_n 2, 1) := by decide +kernel
theorem dJ9_max_f86c9_2 : decode cJ9_max_f86c9 2 = .ok (.lcmp, 1) := by decide +kernel
theorem dJ9_max_f86c9_3 : decode cJ9_max_f86c9 3 = .ok (.ifCond .lt 7, 3) := by decide +kernel
theorem dJ9_max_f86c9_6 : decode cJ9_max_f86c9 6 = .ok (.lload_n 0, 1) := by decide +kernel
theorem dJ9_max_f86c9_7 : decode cJ9_max_f86c9 7 = .ok (.goto 4, 3) := by decide +kernel
theorem dJ9_max_f86c9_10 : decode cJ9_max_f86c9 10 = .ok (.lload_n 2, 1) := by decide +kernel
theorem dJ9_max_f86c9_11 : decode cJ9_max_f86c9 11 = .ok (.lreturn, 1) := by decide +kernel
theorem dJ9_min_7cf53_0 : decode cJ9_min_7cf53 0 = .ok (.iload_n 0, 1) := by decide +kernel
theorem dJ9_min_7cf53_1 : decode cJ9_min_7cf53 1 = .ok (.iload_n 1, 1) := by decide +kernel
theorem dJ9_min_7cf53_2 : decode cJ9_min_7cf53 2 = .ok (.if_icmp .gt 7, 3) := by decide +kernel
theorem dJ9_min_7cf53_5 : decode cJ9_min_7cf53 5 = .ok (.iload_n 0, 1) := by decide +kernel
theorem dJ9_min_7cf53_6 : decode cJ9_min_7cf53 6 = .ok (.goto 4, 3) := by decide +kernel
theorem dJ9_min_7cf53_9 : decode cJ9_min_7cf53 9 = .ok (.iload_n 1, 1) := by decide +kernel
theorem dJ9_min_7cf53_10 : decode cJ9_min_7cf53 10 = .ok (.ireturn, 1) := by decide +kernel
theorem dJ9_min_f86c9_0 : decode cJ9_min_f86c9 0 = .ok (.lload_n 0, 1) := by decide +kernel
theorem dJ9_min_f86c9_1 : decode cJ9_min_f86c9 1 = .ok (.lload_n 2, 1) := by decide +kernel
theorem dJ9_min_f86c9_2 : decode cJ9_min_f86c9 2 = .ok (.lcmp, 1) := by decide +kernel
theorem dJ9_min_f86c9_3 : decode cJ9_min_f86c9 3 = .ok (.ifCond .gt 7, 3) := by decide +kernel
theorem dJ9_min_f86c9_6 : decode cJ9_min_f86c9 6 = .ok (.lload_n 0, 1) := by decide +kernel
theorem dJ9_min_f86c9_7 : decode cJ9_min_f86c9 7 = .ok (.goto 4, 3) := by decide +kernel
theorem dJ9_min_f86c9_10 : decode cJ9_min_f86c9 10 = .ok (.lload_n 2, 1) := by decide +kernel
theorem dJ9_min_f86c9_11 : decode cJ9_min_f86c9 11 = .ok (.lreturn, 1) := by decide +kernel
theorem dL_law_0 : decode cL_law 0 = .ok (.new 7, 3) := by decide +kernel
theorem dL_law_3 : decode cL_law 3 = .ok (.dup, 1) := by decide +kernel
theorem dL_law_4 : decode cL_law 4 = .ok (.invokespecial 9, 3) := by decide +kernel
theorem dL_law_7 : decode cL_law 7 = .ok (.astore_n 1, 1) := by decide +kernel
theorem dL_law_8 : decode cL_law 8 = .ok (.new 10, 3) := by decide +kernel
theorem dL_law_11 : decode cL_law 11 = .ok (.dup, 1) := by decide +kernel
theorem dL_law_12 : decode cL_law 12 = .ok (.invokespecial 12, 3) := by decide +kernel
theorem dL_law_15 : decode cL_law 15 = .ok (.astore_n 2, 1) := by decide +kernel
theorem dL_law_16 : decode cL_law 16 = .ok (.iconst 0, 1) := by decide +kernel
theorem dL_law_17 : decode cL_law 17 = .ok (.istore_n 3, 1) := by decide +kernel
theorem dL_law_18 : decode cL_law 18 = .ok (.iload_n 3, 1) := by decide +kernel
theorem dL_law_19 : decode cL_law 19 = .ok (.aload_n 0, 1) := by decide +kernel
theorem dL_law_20 : decode cL_law 20 = .ok (.arraylength, 1) := by decide +kernel
theorem dL_law_21 : decode cL_law 21 = .ok (.bipush 6, 2) := by decide +kernel
theorem dL_law_23 : decode cL_law 23 = .ok (.isub, 1) := by decide +kernel
theorem dL_law_24 : decode cL_law 24 = .ok (.if_icmp .gt 638, 3) := by decide +kernel
theorem dL_law_27 : decode cL_law 27 = .ok (.aload_n 0, 1) := by decide +kernel
theorem dL_law_28 : decode cL_law 28 = .ok (.iload_n 3, 1) := by decide +kernel
theorem dL_law_29 : decode cL_law 29 = .ok (.iaload, 1) := by decide +kernel
theorem dL_law_30 : decode cL_law 30 = .ok (.bipush 15, 2) := by decide +kernel
theorem dL_law_32 : decode cL_law 32 = .ok (.iand, 1) := by decide +kernel
theorem dL_law_33 : decode cL_law 33 = .ok (.tableswitch 623 0 15 #[79, 123, 177, 191, 225, 239, 273, 307, 351, 425, 489, 513, 527, 551, 575, 599], 79) := by decide +kernel
theorem dL_law_112 : decode cL_law 112 = .ok (.aload_n 1, 1) := by decide +kernel
theorem dL_law_113 : decode cL_law 113 = .ok (.aload_n 0, 1) := by decide +kernel
theorem dL_law_114 : decode cL_law 114 = .ok (.iload_n 3, 1) := by decide +kernel
theorem dL_law_115 : decode cL_law 115 = .ok (.iconst 1, 1) := by decide +kernel
theorem dL_law_116 : decode cL_law 116 = .ok (.iadd, 1) := by decide +kernel
theorem dL_law_117 : decode cL_law 117 = .ok (.iaload, 1) := by decide +kernel
theorem dL_law_118 : decode cL_law 118 = .ok (.aload_n 0, 1) := by decide +kernel
theorem dL_law_119 : decode cL_law 119 = .ok (.iload_n 3, 1) := by decide +kernel
theorem dL_law_120 : decode cL_law 120 = .ok (.iconst 2, 1) := by decide +kernel
theorem dL_law_121 : decode cL_law 121 = .ok (.iadd, 1) := by decide +kernel
theorem dL_law_122 : decode cL_law 122 = .ok (.iaload, 1) := by decide +kernel
theorem dL_law_123 : decode cL_law 123 = .ok (.aload_n 0, 1) := by decide +kernel
theorem dL_law_124 : decode cL_law 124 = .ok (.iload_n 3, 1) := by decide +kernel
theorem dL_law_125 : decode cL_law 125 = .ok (.iconst 3, 1) := by decide +kernel
theorem dL_law_126 : decode cL_law 126 = .ok (.iadd, 1) := by decide +kernel
theorem dL_law_127 : decode cL_law 127 = .ok (.iaload, 1) := by decide +kernel
theorem dL_law_128 : decode cL_law 128 = .ok (.invokevirtual 13, 3) := by decide +kernel
theorem dL_law_131 : decode cL_law 131 = .ok (.aload_n 2, 1) := by decide +kernel
theorem dL_law_132 : decode cL_law 132 = .ok (.aload_n 0, 1) := by decide +kernel
theorem dL_law_133 : decode cL_law 133 = .ok (.iload_n 3, 1) := by decide +kernel
theorem dL_law_134 : decode cL_law 134 = .ok (.iconst 1, 1) := by decide +kernel
theorem dL_law_135 : decode cL_law 135 = .ok (.iadd, 1) := by decide +kernel
theorem dL_law_136 : decode cL_law 136 = .ok (.iaload, 1) := by decide +kernel
theorem dL_law_137 : decode cL_law 137 = .ok (.aload_n 0, 1) := by decide +kernel
theorem dL_law_138 : decode cL_law 138 = .ok (.iload_n 3, 1) := by decide +kernel
theorem dL_law_139 : decode cL_law 139 = .ok (.iconst 2, 1) := by decide +kernel
theorem dL_law_140 : decode cL_law 140 = .ok (.iadd, 1) := by decide +kernel
theorem dL_law_141 : decode cL_law 141 = .ok (.iaload, 1) := by decide +kernel
theorem dL_law_142 : decode cL_law 142 = .ok (.aload_n 0, 1) := by decide +kernel
theorem dL_law_143 : decode cL_law 143 = .ok (.iload_n 3, 1) := by decide +kernel
theorem dL_law_144 : decode cL_law 144 = .ok (.iconst 3, 1) := by decide +kernel
theorem dL_law_145 : decode cL_law 145 = .ok (.iadd, 1) := by decide +kernel
theorem dL_law_146 : decode cL_law 146 = .ok (.iaload, 1) := by decide +kernel
theorem dL_law_147 : decode cL_law 147 = .ok (.invokevirtual 17, 3) := by decide +kernel
theorem dL_law_150 : decode cL_law 150 = .ok (.lcmp, 1) := by decide +kernel
theorem dL_law_151 : decode cL_law 151 = .ok (.ifCond .eq 505, 3) := by decide +kernel
theorem dL_law_154 : decode cL_law 154 = .ok (.iconst 0, 1) := by decide +kernel
theorem dL_law_155 : decode cL_law 155 = .ok (.ireturn, 1) := by decide +kernel
theorem dL_law_156 : decode cL_law 156 = .ok (.aload_n 1, 1) := by decide +kernel
theorem dL_law_157 : decode cL_law 157 = .ok (.aload_n 0, 1) := by decide +kernel
theorem dL_law_158 : decode cL_law 158 = .ok (.iload_n 3, 1) := by decide +kernel
theorem dL_law_159 : decode cL_law 159 = .ok (.iconst 1, 1) := by decide +kernel
theorem dL_law_160 : decode cL_law 160 = .ok (.iadd, 1) := by decide +kernel
theorem dL_law_161 : decode cL_law 161 = .ok (.iaload, 1) := by decide +kernel
theorem dL_law_162 : decode cL_law 162 = .ok (.aload_n 0, 1) := by decide +kernel
theorem dL_law_163 : decode cL_law 163 = .ok (.iload_n 3, 1) := by decide +kernel
theorem dL_law_164 : decode cL_law 164 = .ok (.iconst 2, 1) := by decide +kernel
theorem dL_law_165 : decode cL_law 165 = .ok (.iadd, 1) := by decide +kernel
theorem dL_law_166 : decode cL_law 166 = .ok (.iaload, 1) := by decide +kernel
theorem dL_law_167 : decode cL_law 167 = .ok (.aload_n 0, 1) := by decide +kernel
theorem dL_law_168 : decode cL_law 168 = .ok (.iload_n 3, 1) := by decide +kernel
theorem dL_law_169 : decode cL_law 169 = .ok (.iconst 3, 1) := by decide +kernel
theorem dL_law_170 : decode cL_law 170 = .ok (.iadd, 1) := by decide +kernel
theorem dL_law_171 : decode cL_law 171 = .ok (.iaload, 1) := by decide +kernel
theorem dL_law_172 : decode cL_law 172 = .ok (.aload_n 0, 1) := by decide +kernel
theorem dL_law_173 : decode cL_law 173 = .ok (.iload_n 3, 1) := by decide +kernel
theorem dL_law_174 : decode cL_law 174 = .ok (.iconst 4, 1) := by decide +kernel
theorem dL_law_175 : decode cL_law 175 = .ok (.iadd, 1) := by decide +kernel
theorem dL_law_176 : decode cL_law 176 = .ok (.iaload, 1) := by decide +kernel
theorem dL_law_177 : decode cL_law 177 = .ok (.invokevirtual 18, 3) := by decide +kernel
theorem dL_law_180 : decode cL_law 180 = .ok (.aload_n 2, 1) := by decide +kernel
theorem dL_law_181 : decode cL_law 181 = .ok (.aload_n 0, 1) := by decide +kernel
theorem dL_law_182 : decode cL_law 182 = .ok (.iload_n 3, 1) := by decide +kernel
theorem dL_law_183 : decode cL_law 183 = .ok (.iconst 1, 1) := by decide +kernel
theorem dL_law_184 : decode cL_law 184 = .ok (.iadd, 1) := by decide +kernel
theorem dL_law_185 : decode cL_law 185 = .ok (.iaload, 1) := by decide +kernel
theorem dL_law_186 : decode cL_law 186 = .ok (.aload_n 0, 1) := by decide +kernel
theorem dL_law_187 : decode cL_law 187 = .ok (.iload_n 3, 1) := by decide +kernel
theorem dL_law_188 : decode cL_law 188 = .ok (.iconst 2, 1) := by decide +kernel
theorem dL_law_189 : decode cL_law 189 = .ok (.iadd, 1) := by decide +kernel
theorem dL_law_190 : decode cL_law 190 = .ok (.iaload, 1) := by decide +kernel
theorem dL_law_191 : decode cL_law 191 = .ok (.aload_n 0, 1) := by decide +kernel
theorem dL_law_192 : decode cL_law 192 = .ok (.iload_n 3, 1) := by decide +kernel
theorem dL_law_193 : decode cL_law 193 = .ok (.iconst 3, 1) := by decide +kernel
theorem dL_law_194 : decode cL_law 194 = .ok (.iadd, 1) := by decide +kernel
theorem dL_law_195 : decode cL_law 195 = .ok (.iaload, 1) := by decide +kernel
theorem dL_law_196 : decode cL_law 196 = .ok (.aload_n 0, 1) := by decide +kernel
theorem dL_law_197 : decode cL_law 197 = .ok (.iload_n 3, 1) := by decide +kernel
theorem dL_law_198 : decode cL_law 198 = .ok (.iconst 4, 1) := by decide +kernel
theorem dL_law_199 : decode cL_law 199 = .ok (.iadd, 1) := by decide +kernel
theorem dL_law_200 : decode cL_law 200 = .ok (.iaload, 1) := by decide +kernel
theorem dL_law_201 : decode cL_law 201 = .ok (.invokevirtual 22, 3) := by decide +kernel
theorem dL_law_204 : decode cL_law 204 = .ok (.lcmp, 1) := by decide +kernel
theorem dL_law_205 : decode cL_law 205 = .ok (.ifCond .eq 451, 3) := by decide +kernel
theorem dL_law_208 : decode cL_law 208 = .ok (.iconst 0, 1) := by decide +kernel
theorem dL_law_209 : decode cL_law 209 = .ok (.ireturn, 1) := by decide +kernel
theorem dL_law_210 : decode cL_law 210 = .ok (.aload_n 1, 1) := by decide +kernel
theorem dL_law_211 : decode cL_law 211 = .ok (.invokevirtual 23, 3) := by decide +kernel
theorem dL_law_214 : decode cL_law 214 = .ok (.aload_n 2, 1) := by decide +kernel
theorem dL_law_215 : decode cL_law 215 = .ok (.invokevirtual 27, 3) := by decide +kernel
theorem dL_law_218 : decode cL_law 218 = .ok (.lcmp, 1) := by decide +kernel
theorem dL_law_219 : decode cL_law 219 = .ok (.ifCond .eq 437, 3) := by decide +kernel
theorem dL_law_222 : decode cL_law 222 = .ok (.iconst 0, 1) := by decide +kernel
theorem dL_law_223 : decode cL_law 223 = .ok (.ireturn, 1) := by decide +kernel
theorem dL_law_224 : decode cL_law 224 = .ok (.aload_n 1, 1) := by decide +kernel
theorem dL_law_225 : decode cL_law 225 = .ok (.aload_n 0, 1) := by decide +kernel
theorem dL_law_226 : decode cL_law 226 = .ok (.iload_n 3, 1) := by decide +kernel
theorem dL_law_227 : decode cL_law 227 = .ok (.iconst 1, 1) := by decide +kernel
theorem dL_law_228 : decode cL_law 228 = .ok (.iadd, 1) := by decide +kernel
theorem dL_law_229 : decode cL_law 229 = .ok (.iaload, 1) := by decide +kernel
theorem dL_law_230 : decode cL_law 230 = .ok (.aload_n 0, 1) := by decide +kernel
theorem dL_law_231 : decode cL_law 231 = .ok (.iload_n 3, 1) := by decide +kernel
theorem dL_law_232 : decode cL_law 232 = .ok (.iconst 2, 1) := by decide +kernel
theorem dL_law_233 : decode cL_law 233 = .ok (.iadd, 1) := by decide +kernel
theorem dL_law_234 : decode cL_law 234 = .ok (.iaload, 1) := by decide +kernel
theorem dL_law_235 : decode cL_law 235 = .ok (.invokevirtual 28, 3) := by decide +kernel
theorem dL_law_238 : decode cL_law 238 = .ok (.aload_n 2, 1) := by decide +kernel
theorem dL_law_239 : decode cL_law 239 = .ok (.aload_n 0, 1) := by decide +kernel
theorem dL_law_240 : decode cL_law 240 = .ok (.iload_n 3, 1) := by decide +kernel
theorem dL_law_241 : decode cL_law 241 = .ok (.iconst 1, 1) := by decide +kernel
theorem dL_law_242 : decode cL_law 242 = .ok (.iadd, 1) := by decide +kernel
theorem dL_law_243 : decode cL_law 243 = .ok (.iaload, 1) := by decide +kernel
theorem dL_law_244 : decode cL_law 244 = .ok (.aload_n 0, 1) := by decide +kernel
theorem dL_law_245 : decode cL_law 245 = .ok (.iload_n 3, 1) := by decide +kernel
theorem dL_law_246 : decode cL_law 246 = .ok (.iconst 2, 1) := by decide +kernel
theorem dL_law_247 : decode cL_law 247 = .ok (.iadd, 1) := by decide +kernel
theorem dL_law_248 : decode cL_law 248 = .ok (.iaload, 1) := by decide +kernel
theorem dL_law_249 : decode cL_law 249 = .ok (.invokevirtual 32, 3) := by decide +kernel
theorem dL_law_252 : decode cL_law 252 = .ok (.lcmp, 1) := by decide +kernel
theorem dL_law_253 : decode cL_law 253 = .ok (.ifCond .eq 403, 3) := by decide +kernel
theorem dL_law_256 : decode cL_law 256 = .ok (.iconst 0, 1) := by decide +kernel
theorem dL_law_257 : decode cL_law 257 = .ok (.ireturn, 1) := by decide +kernel
theorem dL_law_258 : decode cL_law 258 = .ok (.aload_n 1, 1) := by decide +kernel
theorem dL_law_259 : decode cL_law 259 = .ok (.invokevirtual 33, 3) := by decide +kernel
theorem dL_law_262 : decode cL_law 262 = .ok (.aload_n 2, 1) := by decide +kernel
theorem dL_law_263 : decode cL_law 263 = .ok (.invokevirtual 36, 3) := by decide +kernel
theorem dL_law_266 : decode cL_law 266 = .ok (.lcmp, 1) := by decide +kernel
theorem dL_law_267 : decode cL_law 267 = .ok (.ifCond .eq 389, 3) := by decide +kernel
theorem dL_law_270 : decode cL_law 270 = .ok (.iconst 0, 1) := by decide +kernel
theorem dL_law_271 : decode cL_law 271 = .ok (.ireturn, 1) := by decide +kernel
theorem dL_law_272 : decode cL_law 272 = .ok (.aload_n 1, 1) := by decide +kernel
theorem dL_law_273 : decode cL_law 273 = .ok (.aload_n 0, 1) := by decide +kernel
theorem dL_law_274 : decode cL_law 274 = .ok (.iload_n 3, 1) := by decide +kernel
theorem dL_law_275 : decode cL_law 275 = .ok (.iconst 1, 1) := by decide +kernel
theorem dL_law_276 : decode cL_law 276 = .ok (.iadd, 1) := by decide +kernel
theorem dL_law_277 : decode cL_law 277 = .ok (.iaload, 1) := by decide +kernel
theorem dL_law_278 : decode cL_law 278 = .ok (.aload_n 0, 1) := by decide +kernel
theorem dL_law_279 : decode cL_law 279 = .ok (.iload_n 3, 1) := by decide +kernel
theorem dL_law_280 : decode cL_law 280 = .ok (.iconst 2, 1) := by decide +kernel
theorem dL_law_281 : decode cL_law 281 = .ok (.iadd, 1) := by decide +kernel
theorem dL_law_282 : decode cL_law 282 = .ok (.iaload, 1) := by decide +kernel
theorem dL_law_283 : decode cL_law 283 = .ok (.invokevirtual 37, 3) := by decide +kernel
theorem dL_law_286 : decode cL_law 286 = .ok (.aload_n 2, 1) := by decide +kernel
theorem dL_law_287 : decode cL_law 287 = .ok (.aload_n 0, 1) := by decide +kernel
theorem dL_law_288 : decode cL_law 288 = .ok (.iload_n 3, 1) := by decide +kernel
theorem dL_law_289 : decode cL_law 289 = .ok (.iconst 1, 1) := by decide +kernel
theorem dL_law_290 : decode cL_law 290 = .ok (.iadd, 1) := by decide +kernel
theorem dL_law_291 : decode cL_law 291 = .ok (.iaload, 1) := by decide +kernel
theorem dL_law_292 : decode cL_law 292 = .ok (.aload_n 0, 1) := by decide +kernel
theorem dL_law_293 : decode cL_law 293 = .ok (.iload_n 3, 1) := by decide +kernel
theorem dL_law_294 : decode cL_law 294 = .ok (.iconst 2, 1) := by decide +kernel
theorem dL_law_295 : decode cL_law 295 = .ok (.iadd, 1) := by decide +kernel
theorem dL_law_296 : decode cL_law 296 = .ok (.iaload, 1) := by decide +kernel
theorem dL_law_297 : decode cL_law 297 = .ok (.invokevirtual 40, 3) := by decide +kernel
theorem dL_law_300 : decode cL_law 300 = .ok (.lcmp, 1) := by decide +kernel
theorem dL_law_301 : decode cL_law 301 = .ok (.ifCond .eq 355, 3) := by decide +kernel
theorem dL_law_304 : decode cL_law 304 = .ok (.iconst 0, 1) := by decide +kernel
theorem dL_law_305 : decode cL_law 305 = .ok (.ireturn, 1) := by decide +kernel
theorem dL_law_306 : decode cL_law 306 = .ok (.aload_n 1, 1) := by decide +kernel
theorem dL_law_307 : decode cL_law 307 = .ok (.aload_n 0, 1) := by decide +kernel
theorem dL_law_308 : decode cL_law 308 = .ok (.iload_n 3, 1) := by decide +kernel
theorem dL_law_309 : decode cL_law 309 = .ok (.iconst 1, 1) := by decide +kernel
theorem dL_law_310 : decode cL_law 310 = .ok (.iadd, 1) := by decide +kernel
theorem dL_law_311 : decode cL_law 311 = .ok (.iaload, 1) := by decide +kernel
theorem dL_law_312 : decode cL_law 312 = .ok (.aload_n 0, 1) := by decide +kernel
theorem dL_law_313 : decode cL_law 313 = .ok (.iload_n 3, 1) := by decide +kernel
theorem dL_law_314 : decode cL_law 314 = .ok (.iconst 2, 1) := by decide +kernel
theorem dL_law_315 : decode cL_law 315 = .ok (.iadd, 1) := by decide +kernel
theorem dL_law_316 : decode cL_law 316 = .ok (.iaload, 1) := by decide +kernel
theorem dL_law_317 : decode cL_law 317 = .ok (.invokevirtual 41, 3) := by decide +kernel
theorem dL_law_320 : decode cL_law 320 = .ok (.aload_n 2, 1) := by decide +kernel
theorem dL_law_321 : decode cL_law 321 = .ok (.aload_n 0, 1) := by decide +kernel
theorem dL_law_322 : decode cL_law 322 = .ok (.iload_n 3, 1) := by decide +kernel
theorem dL_law_323 : decode cL_law 323 = .ok (.iconst 1, 1) := by decide +kernel
theorem dL_law_324 : decode cL_law 324 = .ok (.iadd, 1) := by decide +kernel
theorem dL_law_325 : decode cL_law 325 = .ok (.iaload, 1) := by decide +kernel
theorem dL_law_326 : decode cL_law 326 = .ok (.aload_n 0, 1) := by decide +kernel
theorem dL_law_327 : decode cL_law 327 = .ok (.iload_n 3, 1) := by decide +kernel
theorem dL_law_328 : decode cL_law 328 = .ok (.iconst 2, 1) := by decide +kernel
theorem dL_law_329 : decode cL_law 329 = .ok (.iadd, 1) := by decide +kernel
theorem dL_law_330 : decode cL_law 330 = .ok (.iaload, 1) := by decide +kernel
theorem dL_law_331 : decode cL_law 331 = .ok (.invokevirtual 44, 3) := by decide +kernel
theorem dL_law_334 : decode cL_law 334 = .ok (.lcmp, 1) := by decide +kernel
theorem dL_law_335 : decode cL_law 335 = .ok (.ifCond .eq 321, 3) := by decide +kernel
theorem dL_law_338 : decode cL_law 338 = .ok (.iconst 0, 1) := by decide +kernel
theorem dL_law_339 : decode cL_law 339 = .ok (.ireturn, 1) := by decide +kernel
theorem dL_law_340 : decode cL_law 340 = .ok (.aload_n 1, 1) := by decide +kernel
theorem dL_law_341 : decode cL_law 341 = .ok (.aload_n 0, 1) := by decide +kernel
theorem dL_law_342 : decode cL_law 342 = .ok (.iload_n 3, 1) := by decide +kernel
theorem dL_law_343 : decode cL_law 343 = .ok (.iconst 1, 1) := by decide +kernel
theorem dL_law_344 : decode cL_law 344 = .ok (.iadd, 1) := by decide +kernel
theorem dL_law_345 : decode cL_law 345 = .ok (.iaload, 1) := by decide +kernel
theorem dL_law_346 : decode cL_law 346 = .ok (.aload_n 0, 1) := by decide +kernel
theorem dL_law_347 : decode cL_law 347 = .ok (.iload_n 3, 1) := by decide +kernel
theorem dL_law_348 : decode cL_law 348 = .ok (.iconst 2, 1) := by decide +kernel
theorem dL_law_349 : decode cL_law 349 = .ok (.iadd, 1) := by decide +kernel
theorem dL_law_350 : decode cL_law 350 = .ok (.iaload, 1) := by decide +kernel
theorem dL_law_351 : decode cL_law 351 = .ok (.aload_n 0, 1) := by decide +kernel
theorem dL_law_352 : decode cL_law 352 = .ok (.iload_n 3, 1) := by decide +kernel
theorem dL_law_353 : decode cL_law 353 = .ok (.iconst 3, 1) := by decide +kernel
theorem dL_law_354 : decode cL_law 354 = .ok (.iadd, 1) := by decide +kernel
theorem dL_law_355 : decode cL_law 355 = .ok (.iaload, 1) := by decide +kernel
theorem dL_law_356 : decode cL_law 356 = .ok (.invokevirtual 45, 3) := by decide +kernel
theorem dL_law_359 : decode cL_law 359 = .ok (.aload_n 2, 1) := by decide +kernel
theorem dL_law_360 : decode cL_law 360 = .ok (.aload_n 0, 1) := by decide +kernel
theorem dL_law_361 : decode cL_law 361 = .ok (.iload_n 3, 1) := by decide +kernel
theorem dL_law_362 : decode cL_law 362 = .ok (.iconst 1, 1) := by decide +kernel
theorem dL_law_363 : decode cL_law 363 = .ok (.iadd, 1) := by decide +kernel
theorem dL_law_364 : decode cL_law 364 = .ok (.iaload, 1) := by decide +kernel
theorem dL_law_365 : decode cL_law 365 = .ok (.aload_n 0, 1) := by decide +kernel
theorem dL_law_366 : decode cL_law 366 = .ok (.iload_n 3, 1) := by decide +kernel
theorem dL_law_367 : decode cL_law 367 = .ok (.iconst 2, 1) := by decide +kernel
theorem dL_law_368 : decode cL_law 368 = .ok (.iadd, 1) := by decide +kernel
theorem dL_law_369 : decode cL_law 369 = .ok (.iaload, 1) := by decide +kernel
theorem dL_law_370 : decode cL_law 370 = .ok (.aload_n 0, 1) := by decide +kernel
theorem dL_law_371 : decode cL_law 371 = .ok (.iload_n 3, 1) := by decide +kernel
theorem dL_law_372 : decode cL_law 372 = .ok (.iconst 3, 1) := by decide +kernel
theorem dL_law_373 : decode cL_law 373 = .ok (.iadd, 1) := by decide +kernel
theorem dL_law_374 : decode cL_law 374 = .ok (.iaload, 1) := by decide +kernel
theorem dL_law_375 : decode cL_law 375 = .ok (.invokevirtual 48, 3) := by decide +kernel
theorem dL_law_378 : decode cL_law 378 = .ok (.lcmp, 1) := by decide +kernel
theorem dL_law_379 : decode cL_law 379 = .ok (.ifCond .eq 277, 3) := by decide +kernel
theorem dL_law_382 : decode cL_law 382 = .ok (.iconst 0, 1) := by decide +kernel
theorem dL_law_383 : decode cL_law 383 = .ok (.ireturn, 1) := by decide +kernel
theorem dL_law_384 : decode cL_law 384 = .ok (.aload_n 1, 1) := by decide +kernel
theorem dL_law_385 : decode cL_law 385 = .ok (.aload_n 0, 1) := by decide +kernel
theorem dL_law_386 : decode cL_law 386 = .ok (.iload_n 3, 1) := by decide +kernel
theorem dL_law_387 : decode cL_law 387 = .ok (.iconst 1, 1) := by decide +kernel
theorem dL_law_388 : decode cL_law 388 = .ok (.iadd, 1) := by decide +kernel
theorem dL_law_389 : decode cL_law 389 = .ok (.iaload, 1) := by decide +kernel
theorem dL_law_390 : decode cL_law 390 = .ok (.aload_n 0, 1) := by decide +kernel
theorem dL_law_391 : decode cL_law 391 = .ok (.iload_n 3, 1) := by decide +kernel
theorem dL_law_392 : decode cL_law 392 = .ok (.iconst 2, 1) := by decide +kernel
theorem dL_law_393 : decode cL_law 393 = .ok (.iadd, 1) := by decide +kernel
theorem dL_law_394 : decode cL_law 394 = .ok (.iaload, 1) := by decide +kernel
theorem dL_law_395 : decode cL_law 395 = .ok (.aload_n 0, 1) := by decide +kernel
theorem dL_law_396 : decode cL_law 396 = .ok (.iload_n 3, 1) := by decide +kernel
theorem dL_law_397 : decode cL_law 397 = .ok (.iconst 3, 1) := by decide +kernel
theorem dL_law_398 : decode cL_law 398 = .ok (.iadd, 1) := by decide +kernel
theorem dL_law_399 : decode cL_law 399 = .ok (.iaload, 1) := by decide +kernel
theorem dL_law_400 : decode cL_law 400 = .ok (.i2l, 1) := by decide +kernel
theorem dL_law_401 : decode cL_law 401 = .ok (.bipush 32, 2) := by decide +kernel
theorem dL_law_403 : decode cL_law 403 = .ok (.lshl, 1) := by decide +kernel
theorem dL_law_404 : decode cL_law 404 = .ok (.aload_n 0, 1) := by decide +kernel
theorem dL_law_405 : decode cL_law 405 = .ok (.iload_n 3, 1) := by decide +kernel
theorem dL_law_406 : decode cL_law 406 = .ok (.iconst 4, 1) := by decide +kernel
theorem dL_law_407 : decode cL_law 407 = .ok (.iadd, 1) := by decide +kernel
theorem dL_law_408 : decode cL_law 408 = .ok (.iaload, 1) := by decide +kernel
theorem dL_law_409 : decode cL_law 409 = .ok (.i2l, 1) := by decide +kernel
theorem dL_law_410 : decode cL_law 410 = .ok (.ldc2_w 49, 3) := by decide +kernel
theorem dL_law_413 : decode cL_law 413 = .ok (.land, 1) := by decide +kernel
theorem dL_law_414 : decode cL_law 414 = .ok (.lor, 1) := by decide +kernel
theorem dL_law_415 : decode cL_law 415 = .ok (.invokevirtual 51, 3) := by decide +kernel
theorem dL_law_418 : decode cL_law 418 = .ok (.aload_n 2, 1) := by decide +kernel
theorem dL_law_419 : decode cL_law 419 = .ok (.aload_n 0, 1) := by decide +kernel
theorem dL_law_420 : decode cL_law 420 = .ok (.iload_n 3, 1) := by decide +kernel
theorem dL_law_421 : decode cL_law 421 = .ok (.iconst 1, 1) := by decide +kernel
theorem dL_law_422 : decode cL_law 422 = .ok (.iadd, 1) := by decide +kernel
theorem dL_law_423 : decode cL_law 423 = .ok (.iaload, 1) := by decide +kernel
theorem dL_law_424 : decode cL_law 424 = .ok (.aload_n 0, 1) := by decide +kernel
theorem dL_law_425 : decode cL_law 425 = .ok (.iload_n 3, 1) := by decide +kernel
theorem dL_law_426 : decode cL_law 426 = .ok (.iconst 2, 1) := by decide +kernel
theorem dL_law_427 : decode cL_law 427 = .ok (.iadd, 1) := by decide +kernel
theorem dL_law_428 : decode cL_law 428 = .ok (.iaload, 1) := by decide +kernel
theorem dL_law_429 : decode cL_law 429 = .ok (.aload_n 0, 1) := by decide +kernel
theorem dL_law_430 : decode cL_law 430 = .ok (.iload_n 3, 1) := by decide +kernel
theorem dL_law_431 : decode cL_law 431 = .ok (.iconst 3, 1) := by decide +kernel
theorem dL_law_432 : decode cL_law 432 = .ok (.iadd, 1) := by decide +kernel
theorem dL_law_433 : decode cL_law 433 = .ok (.iaload, 1) := by decide +kernel
theorem dL_law_434 : decode cL_law 434 = .ok (.i2l, 1) := by decide +kernel
theorem dL_law_435 : decode cL_law 435 = .ok (.bipush 32, 2) := by decide +kernel
theorem dL_law_437 : decode cL_law 437 = .ok (.lshl, 1) := by decide +kernel
theorem dL_law_438 : decode cL_law 438 = .ok (.aload_n 0, 1) := by decide +kernel
theorem dL_law_439 : decode cL_law 439 = .ok (.iload_n 3, 1) := by decide +kernel
theorem dL_law_440 : decode cL_law 440 = .ok (.iconst 4, 1) := by decide +kernel
theorem dL_law_441 : decode cL_law 441 = .ok (.iadd, 1) := by decide +kernel
theorem dL_law_442 : decode cL_law 442 = .ok (.iaload, 1) := by decide +kernel
theorem dL_law_443 : decode cL_law 443 = .ok (.i2l, 1) := by decide +kernel
theorem dL_law_444 : decode cL_law 444 = .ok (.ldc2_w 49, 3) := by decide +kernel
theorem dL_law_447 : decode cL_law 447 = .ok (.land, 1) := by decide +kernel
theorem dL_law_448 : decode cL_law 448 = .ok (.lor, 1) := by decide +kernel
theorem dL_law_449 : decode cL_law 449 = .ok (.invokevirtual 55, 3) := by decide +kernel
theorem dL_law_452 : decode cL_law 452 = .ok (.lcmp, 1) := by decide +kernel
theorem dL_law_453 : decode cL_law 453 = .ok (.ifCond .eq 203, 3) := by decide +kernel
theorem dL_law_456 : decode cL_law 456 = .ok (.iconst 0, 1) := by decide +kernel
theorem dL_law_457 : decode cL_law 457 = .ok (.ireturn, 1) := by decide +kernel
theorem dL_law_458 : decode cL_law 458 = .ok (.aload_n 1, 1) := by decide +kernel
theorem dL_law_459 : decode cL_law 459 = .ok (.aload_n 0, 1) := by decide +kernel
theorem dL_law_460 : decode cL_law 460 = .ok (.iload_n 3, 1) := by decide +kernel
theorem dL_law_461 : decode cL_law 461 = .ok (.iconst 1, 1) := by decide +kernel
theorem dL_law_462 : decode cL_law 462 = .ok (.iadd, 1) := by decide +kernel
theorem dL_law_463 : decode cL_law 463 = .ok (.iaload, 1) := by decide +kernel
theorem dL_law_464 : decode cL_law 464 = .ok (.aload_n 0, 1) := by decide +kernel
theorem dL_law_465 : decode cL_law 465 = .ok (.iload_n 3, 1) := by decide +kernel
theorem dL_law_466 : decode cL_law 466 = .ok (.iconst 2, 1) := by decide +kernel
theorem dL_law_467 : decode cL_law 467 = .ok (.iadd, 1) := by decide +kernel
theorem dL_law_468 : decode cL_law 468 = .ok (.iaload, 1) := by decide +kernel
theorem dL_law_469 : decode cL_law 469 = .ok (.aload_n 0, 1) := by decide +kernel
theorem dL_law_470 : decode cL_law 470 = .ok (.iload_n 3, 1) := by decide +kernel
theorem dL_law_471 : decode cL_law 471 = .ok (.iconst 3, 1) := by decide +kernel
theorem dL_law_472 : decode cL_law 472 = .ok (.iadd, 1) := by decide +kernel
theorem dL_law_473 : decode cL_law 473 = .ok (.iaload, 1) := by decide +kernel
theorem dL_law_474 : decode cL_law 474 = .ok (.aload_n 0, 1) := by decide +kernel
theorem dL_law_475 : decode cL_law 475 = .ok (.iload_n 3, 1) := by decide +kernel
theorem dL_law_476 : decode cL_law 476 = .ok (.iconst 4, 1) := by decide +kernel
theorem dL_law_477 : decode cL_law 477 = .ok (.iadd, 1) := by decide +kernel
theorem dL_law_478 : decode cL_law 478 = .ok (.iaload, 1) := by decide +kernel
theorem dL_law_479 : decode cL_law 479 = .ok (.aload_n 0, 1) := by decide +kernel
theorem dL_law_480 : decode cL_law 480 = .ok (.iload_n 3, 1) := by decide +kernel
theorem dL_law_481 : decode cL_law 481 = .ok (.iconst 5, 1) := by decide +kernel
theorem dL_law_482 : decode cL_law 482 = .ok (.iadd, 1) := by decide +kernel
theorem dL_law_483 : decode cL_law 483 = .ok (.iaload, 1) := by decide +kernel
theorem dL_law_484 : decode cL_law 484 = .ok (.invokevirtual 56, 3) := by decide +kernel
theorem dL_law_487 : decode cL_law 487 = .ok (.aload_n 2, 1) := by decide +kernel
theorem dL_law_488 : decode cL_law 488 = .ok (.aload_n 0, 1) := by decide +kernel
theorem dL_law_489 : decode cL_law 489 = .ok (.iload_n 3, 1) := by decide +kernel
theorem dL_law_490 : decode cL_law 490 = .ok (.iconst 1, 1) := by decide +kernel
theorem dL_law_491 : decode cL_law 491 = .ok (.iadd, 1) := by decide +kernel
theorem dL_law_492 : decode cL_law 492 = .ok (.iaload, 1) := by decide +kernel
theorem dL_law_493 : decode cL_law 493 = .ok (.aload_n 0, 1) := by decide +kernel
theorem dL_law_494 : decode cL_law 494 = .ok (.iload_n 3, 1) := by decide +kernel
theorem dL_law_495 : decode cL_law 495 = .ok (.iconst 2, 1) := by decide +kernel
theorem dL_law_496 : decode cL_law 496 = .ok (.iadd, 1) := by decide +kernel
theorem dL_law_497 : decode cL_law 497 = .ok (.iaload, 1) := by decide +kernel
theorem dL_law_498 : decode cL_law 498 = .ok (.aload_n 0, 1) := by decide +kernel
theorem dL_law_499 : decode cL_law 499 = .ok (.iload_n 3, 1) := by decide +kernel
theorem dL_law_500 : decode cL_law 500 = .ok (.iconst 3, 1) := by decide +kernel
theorem dL_law_501 : decode cL_law 501 = .ok (.iadd, 1) := by decide +kernel
theorem dL_law_502 : decode cL_law 502 = .ok (.iaload, 1) := by decide +kernel
theorem dL_law_503 : decode cL_law 503 = .ok (.aload_n 0, 1) := by decide +kernel
theorem dL_law_504 : decode cL_law 504 = .ok (.iload_n 3, 1) := by decide +kernel
theorem dL_law_505 : decode cL_law 505 = .ok (.iconst 4, 1) := by decide +kernel
theorem dL_law_506 : decode cL_law 506 = .ok (.iadd, 1) := by decide +kernel
theorem dL_law_507 : decode cL_law 507 = .ok (.iaload, 1) := by decide +kernel
theorem dL_law_508 : decode cL_law 508 = .ok (.aload_n 0, 1) := by decide +kernel
theorem dL_law_509 : decode cL_law 509 = .ok (.iload_n 3, 1) := by decide +kernel
theorem dL_law_510 : decode cL_law 510 = .ok (.iconst 5, 1) := by decide +kernel
theorem dL_law_511 : decode cL_law 511 = .ok (.iadd, 1) := by decide +kernel
theorem dL_law_512 : decode cL_law 512 = .ok (.iaload, 1) := by decide +kernel
theorem dL_law_513 : decode cL_law 513 = .ok (.invokevirtual 60, 3) := by decide +kernel
theorem dL_law_516 : decode cL_law 516 = .ok (.lcmp, 1) := by decide +kernel
theorem dL_law_517 : decode cL_law 517 = .ok (.ifCond .eq 139, 3) := by decide +kernel
theorem dL_law_520 : decode cL_law 520 = .ok (.iconst 0, 1) := by decide +kernel
theorem dL_law_521 : decode cL_law 521 = .ok (.ireturn, 1) := by decide +kernel
theorem dL_law_522 : decode cL_law 522 = .ok (.aload_n 1, 1) := by decide +kernel
theorem dL_law_523 : decode cL_law 523 = .ok (.aload_n 0, 1) := by decide +kernel
theorem dL_law_524 : decode cL_law 524 = .ok (.iload_n 3, 1) := by decide +kernel
theorem dL_law_525 : decode cL_law 525 = .ok (.iconst 1, 1) := by decide +kernel
theorem dL_law_526 : decode cL_law 526 = .ok (.iadd, 1) := by decide +kernel
theorem dL_law_527 : decode cL_law 527 = .ok (.iaload, 1) := by decide +kernel
theorem dL_law_528 : decode cL_law 528 = .ok (.invokevirtual 61, 3) := by decide +kernel
theorem dL_law_531 : decode cL_law 531 = .ok (.aload_n 2, 1) := by decide +kernel
theorem dL_law_532 : decode cL_law 532 = .ok (.aload_n 0, 1) := by decide +kernel
theorem dL_law_533 : decode cL_law 533 = .ok (.iload_n 3, 1) := by decide +kernel
theorem dL_law_534 : decode cL_law 534 = .ok (.iconst 1, 1) := by decide +kernel
theorem dL_law_535 : decode cL_law 535 = .ok (.iadd, 1) := by decide +kernel
theorem dL_law_536 : decode cL_law 536 = .ok (.iaload, 1) := by decide +kernel
theorem dL_law_537 : decode cL_law 537 = .ok (.invokevirtual 65, 3) := by decide +kernel
theorem dL_law_540 : decode cL_law 540 = .ok (.lcmp, 1) := by decide +kernel
theorem dL_law_541 : decode cL_law 541 = .ok (.ifCond .eq 115, 3) := by decide +kernel
theorem dL_law_544 : decode cL_law 544 = .ok (.iconst 0, 1) := by decide +kernel
theorem dL_law_545 : decode cL_law 545 = .ok (.ireturn, 1) := by decide +kernel
theorem dL_law_546 : decode cL_law 546 = .ok (.aload_n 1, 1) := by decide +kernel
theorem dL_law_547 : decode cL_law 547 = .ok (.invokevirtual 66, 3) := by decide +kernel
theorem dL_law_550 : decode cL_law 550 = .ok (.aload_n 2, 1) := by decide +kernel
theorem dL_law_551 : decode cL_law 551 = .ok (.invokevirtual 69, 3) := by decide +kernel
theorem dL_law_554 : decode cL_law 554 = .ok (.lcmp, 1) := by decide +kernel
theorem dL_law_555 : decode cL_law 555 = .ok (.ifCond .eq 101, 3) := by decide +kernel
theorem dL_law_558 : decode cL_law 558 = .ok (.iconst 0, 1) := by decide +kernel
theorem dL_law_559 : decode cL_law 559 = .ok (.ireturn, 1) := by decide +kernel
theorem dL_law_560 : decode cL_law 560 = .ok (.aload_n 1, 1) := by decide +kernel
theorem dL_law_561 : decode cL_law 561 = .ok (.aload_n 0, 1) := by decide +kernel
theorem dL_law_562 : decode cL_law 562 = .ok (.iload_n 3, 1) := by decide +kernel
theorem dL_law_563 : decode cL_law 563 = .ok (.iconst 1, 1) := by decide +kernel
theorem dL_law_564 : decode cL_law 564 = .ok (.iadd, 1) := by decide +kernel
theorem dL_law_565 : decode cL_law 565 = .ok (.iaload, 1) := by decide +kernel
theorem dL_law_566 : decode cL_law 566 = .ok (.invokevirtual 70, 3) := by decide +kernel
theorem dL_law_569 : decode cL_law 569 = .ok (.aload_n 2, 1) := by decide +kernel
theorem dL_law_570 : decode cL_law 570 = .ok (.aload_n 0, 1) := by decide +kernel
theorem dL_law_571 : decode cL_law 571 = .ok (.iload_n 3, 1) := by decide +kernel
theorem dL_law_572 : decode cL_law 572 = .ok (.iconst 1, 1) := by decide +kernel
theorem dL_law_573 : decode cL_law 573 = .ok (.iadd, 1) := by decide +kernel
theorem dL_law_574 : decode cL_law 574 = .ok (.iaload, 1) := by decide +kernel
theorem dL_law_575 : decode cL_law 575 = .ok (.invokevirtual 73, 3) := by decide +kernel
theorem dL_law_578 : decode cL_law 578 = .ok (.lcmp, 1) := by decide +kernel
theorem dL_law_579 : decode cL_law 579 = .ok (.ifCond .eq 77, 3) := by decide +kernel
theorem dL_law_582 : decode cL_law 582 = .ok (.iconst 0, 1) := by decide +kernel
theorem dL_law_583 : decode cL_law 583 = .ok (.ireturn, 1) := by decide +kernel
theorem dL_law_584 : decode cL_law 584 = .ok (.aload_n 1, 1) := by decide +kernel
theorem dL_law_585 : decode cL_law 585 = .ok (.aload_n 0, 1) := by decide +kernel
theorem dL_law_586 : decode cL_law 586 = .ok (.iload_n 3, 1) := by decide +kernel
theorem dL_law_587 : decode cL_law 587 = .ok (.iconst 1, 1) := by decide +kernel
theorem dL_law_588 : decode cL_law 588 = .ok (.iadd, 1) := by decide +kernel
theorem dL_law_589 : decode cL_law 589 = .ok (.iaload, 1) := by decide +kernel
theorem dL_law_590 : decode cL_law 590 = .ok (.invokevirtual 74, 3) := by decide +kernel
theorem dL_law_593 : decode cL_law 593 = .ok (.aload_n 2, 1) := by decide +kernel
theorem dL_law_594 : decode cL_law 594 = .ok (.aload_n 0, 1) := by decide +kernel
theorem dL_law_595 : decode cL_law 595 = .ok (.iload_n 3, 1) := by decide +kernel
theorem dL_law_596 : decode cL_law 596 = .ok (.iconst 1, 1) := by decide +kernel
theorem dL_law_597 : decode cL_law 597 = .ok (.iadd, 1) := by decide +kernel
theorem dL_law_598 : decode cL_law 598 = .ok (.iaload, 1) := by decide +kernel
theorem dL_law_599 : decode cL_law 599 = .ok (.invokevirtual 77, 3) := by decide +kernel
theorem dL_law_602 : decode cL_law 602 = .ok (.lcmp, 1) := by decide +kernel
theorem dL_law_603 : decode cL_law 603 = .ok (.ifCond .eq 53, 3) := by decide +kernel
theorem dL_law_606 : decode cL_law 606 = .ok (.iconst 0, 1) := by decide +kernel
theorem dL_law_607 : decode cL_law 607 = .ok (.ireturn, 1) := by decide +kernel
theorem dL_law_608 : decode cL_law 608 = .ok (.aload_n 1, 1) := by decide +kernel
theorem dL_law_609 : decode cL_law 609 = .ok (.aload_n 0, 1) := by decide +kernel
theorem dL_law_610 : decode cL_law 610 = .ok (.iload_n 3, 1) := by decide +kernel
theorem dL_law_611 : decode cL_law 611 = .ok (.iconst 1, 1) := by decide +kernel
theorem dL_law_612 : decode cL_law 612 = .ok (.iadd, 1) := by decide +kernel
theorem dL_law_613 : decode cL_law 613 = .ok (.iaload, 1) := by decide +kernel
theorem dL_law_614 : decode cL_law 614 = .ok (.invokevirtual 78, 3) := by decide +kernel
theorem dL_law_617 : decode cL_law 617 = .ok (.aload_n 2, 1) := by decide +kernel
theorem dL_law_618 : decode cL_law 618 = .ok (.aload_n 0, 1) := by decide +kernel
theorem dL_law_619 : decode cL_law 619 = .ok (.iload_n 3, 1) := by decide +kernel
theorem dL_law_620 : decode cL_law 620 = .ok (.iconst 1, 1) := by decide +kernel
theorem dL_law_621 : decode cL_law 621 = .ok (.iadd, 1) := by decide +kernel
theorem dL_law_622 : decode cL_law 622 = .ok (.iaload, 1) := by decide +kernel
theorem dL_law_623 : decode cL_law 623 = .ok (.invokevirtual 81, 3) := by decide +kernel
theorem dL_law_626 : decode cL_law 626 = .ok (.lcmp, 1) := by decide +kernel
theorem dL_law_627 : decode cL_law 627 = .ok (.ifCond .eq 29, 3) := by decide +kernel
theorem dL_law_630 : decode cL_law 630 = .ok (.iconst 0, 1) := by decide +kernel
theorem dL_law_631 : decode cL_law 631 = .ok (.ireturn, 1) := by decide +kernel
theorem dL_law_632 : decode cL_law 632 = .ok (.aload_n 1, 1) := by decide +kernel
theorem dL_law_633 : decode cL_law 633 = .ok (.aload_n 0, 1) := by decide +kernel
theorem dL_law_634 : decode cL_law 634 = .ok (.iload_n 3, 1) := by decide +kernel
theorem dL_law_635 : decode cL_law 635 = .ok (.iconst 1, 1) := by decide +kernel
theorem dL_law_636 : decode cL_law 636 = .ok (.iadd, 1) := by decide +kernel
theorem dL_law_637 : decode cL_law 637 = .ok (.iaload, 1) := by decide +kernel
theorem dL_law_638 : decode cL_law 638 = .ok (.invokevirtual 82, 3) := by decide +kernel
theorem dL_law_641 : decode cL_law 641 = .ok (.aload_n 2, 1) := by decide +kernel
theorem dL_law_642 : decode cL_law 642 = .ok (.aload_n 0, 1) := by decide +kernel
theorem dL_law_643 : decode cL_law 643 = .ok (.iload_n 3, 1) := by decide +kernel
theorem dL_law_644 : decode cL_law 644 = .ok (.iconst 1, 1) := by decide +kernel
theorem dL_law_645 : decode cL_law 645 = .ok (.iadd, 1) := by decide +kernel
theorem dL_law_646 : decode cL_law 646 = .ok (.iaload, 1) := by decide +kernel
theorem dL_law_647 : decode cL_law 647 = .ok (.invokevirtual 85, 3) := by decide +kernel
theorem dL_law_650 : decode cL_law 650 = .ok (.lcmp, 1) := by decide +kernel
theorem dL_law_651 : decode cL_law 651 = .ok (.ifCond .eq 5, 3) := by decide +kernel
theorem dL_law_654 : decode cL_law 654 = .ok (.iconst 0, 1) := by decide +kernel
theorem dL_law_655 : decode cL_law 655 = .ok (.ireturn, 1) := by decide +kernel
theorem dL_law_656 : decode cL_law 656 = .ok (.iinc 3 6, 3) := by decide +kernel
theorem dL_law_659 : decode cL_law 659 = .ok (.goto (-641), 3) := by decide +kernel
theorem dL_law_662 : decode cL_law 662 = .ok (.iconst 1, 1) := by decide +kernel
theorem dL_law_663 : decode cL_law 663 = .ok (.ireturn, 1) := by decide +kernel
