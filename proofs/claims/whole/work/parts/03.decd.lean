theorem dX11_isGood_83 : decode cX11_isGood 83 = .ok (.ifCond .ne 11, 3) := by decide +kernel
theorem dX11_isGood_86 : decode cX11_isGood 86 = .ok (.iload_n 2, 1) := by decide +kernel
theorem dX11_isGood_87 : decode cX11_isGood 87 = .ok (.ifCond .ne 7, 3) := by decide +kernel
theorem dX11_isGood_90 : decode cX11_isGood 90 = .ok (.iconst 1, 1) := by decide +kernel
theorem dX11_isGood_91 : decode cX11_isGood 91 = .ok (.goto 4, 3) := by decide +kernel
theorem dX11_isGood_94 : decode cX11_isGood 94 = .ok (.iconst 0, 1) := by decide +kernel
theorem dX11_isGood_95 : decode cX11_isGood 95 = .ok (.ireturn, 1) := by decide +kernel
theorem dX11_isGood_96 : decode cX11_isGood 96 = .ok (.iload_n 1, 1) := by decide +kernel
theorem dX11_isGood_97 : decode cX11_isGood 97 = .ok (.i2l, 1) := by decide +kernel
theorem dX11_isGood_98 : decode cX11_isGood 98 = .ok (.lconst 0, 1) := by decide +kernel
theorem dX11_isGood_99 : decode cX11_isGood 99 = .ok (.ldc2_w 87, 3) := by decide +kernel
theorem dX11_isGood_102 : decode cX11_isGood 102 = .ok (.invokestatic 81, 3) := by decide +kernel
theorem dX11_isGood_105 : decode cX11_isGood 105 = .ok (.ifCond .eq 19, 3) := by decide +kernel
theorem dX11_isGood_108 : decode cX11_isGood 108 = .ok (.iload_n 2, 1) := by decide +kernel
theorem dX11_isGood_109 : decode cX11_isGood 109 = .ok (.i2l, 1) := by decide +kernel
theorem dX11_isGood_110 : decode cX11_isGood 110 = .ok (.lconst 0, 1) := by decide +kernel
theorem dX11_isGood_111 : decode cX11_isGood 111 = .ok (.ldc2_w 87, 3) := by decide +kernel
theorem dX11_isGood_114 : decode cX11_isGood 114 = .ok (.invokestatic 81, 3) := by decide +kernel
theorem dX11_isGood_117 : decode cX11_isGood 117 = .ok (.ifCond .eq 7, 3) := by decide +kernel
theorem dX11_isGood_120 : decode cX11_isGood 120 = .ok (.iconst 1, 1) := by decide +kernel
theorem dX11_isGood_121 : decode cX11_isGood 121 = .ok (.goto 4, 3) := by decide +kernel
theorem dX11_isGood_124 : decode cX11_isGood 124 = .ok (.iconst 0, 1) := by decide +kernel
theorem dX11_isGood_125 : decode cX11_isGood 125 = .ok (.ireturn, 1) := by decide +kernel
theorem dX11_isGood_126 : decode cX11_isGood 126 = .ok (.iload_n 1, 1) := by decide +kernel
theorem dX11_isGood_127 : decode cX11_isGood 127 = .ok (.i2l, 1) := by decide +kernel
theorem dX11_isGood_128 : decode cX11_isGood 128 = .ok (.lconst 0, 1) := by decide +kernel
theorem dX11_isGood_129 : decode cX11_isGood 129 = .ok (.ldc2_w 87, 3) := by decide +kernel
theorem dX11_isGood_132 : decode cX11_isGood 132 = .ok (.invokestatic 81, 3) := by decide +kernel
theorem dX11_isGood_135 : decode cX11_isGood 135 = .ok (.ifCond .eq 11, 3) := by decide +kernel
theorem dX11_isGood_138 : decode cX11_isGood 138 = .ok (.iload_n 2, 1) := by decide +kernel
theorem dX11_isGood_139 : decode cX11_isGood 139 = .ok (.ifCond .ne 7, 3) := by decide +kernel
theorem dX11_isGood_142 : decode cX11_isGood 142 = .ok (.iconst 1, 1) := by decide +kernel
theorem dX11_isGood_143 : decode cX11_isGood 143 = .ok (.goto 4, 3) := by decide +kernel
theorem dX11_isGood_146 : decode cX11_isGood 146 = .ok (.iconst 0, 1) := by decide +kernel
theorem dX11_isGood_147 : decode cX11_isGood 147 = .ok (.ireturn, 1) := by decide +kernel
theorem dX11_isGood_148 : decode cX11_isGood 148 = .ok (.iload_n 1, 1) := by decide +kernel
theorem dX11_isGood_149 : decode cX11_isGood 149 = .ok (.i2l, 1) := by decide +kernel
theorem dX11_isGood_150 : decode cX11_isGood 150 = .ok (.lconst 0, 1) := by decide +kernel
theorem dX11_isGood_151 : decode cX11_isGood 151 = .ok (.ldc2_w 87, 3) := by decide +kernel
theorem dX11_isGood_154 : decode cX11_isGood 154 = .ok (.invokestatic 81, 3) := by decide +kernel
theorem dX11_isGood_157 : decode cX11_isGood 157 = .ok (.ifCond .eq 31, 3) := by decide +kernel
theorem dX11_isGood_160 : decode cX11_isGood 160 = .ok (.iload_n 2, 1) := by decide +kernel
theorem dX11_isGood_161 : decode cX11_isGood 161 = .ok (.ifCond .lt 27, 3) := by decide +kernel
theorem dX11_isGood_164 : decode cX11_isGood 164 = .ok (.iload_n 2, 1) := by decide +kernel
theorem dX11_isGood_165 : decode cX11_isGood 165 = .ok (.bipush 32, 2) := by decide +kernel
theorem dX11_isGood_167 : decode cX11_isGood 167 = .ok (.idiv, 1) := by decide +kernel
theorem dX11_isGood_168 : decode cX11_isGood 168 = .ok (.iload_n 2, 1) := by decide +kernel
theorem dX11_isGood_169 : decode cX11_isGood 169 = .ok (.bipush 32, 2) := by decide +kernel
theorem dX11_isGood_171 : decode cX11_isGood 171 = .ok (.irem, 1) := by decide +kernel
theorem dX11_isGood_172 : decode cX11_isGood 172 = .ok (.if_icmp .gt 16, 3) := by decide +kernel
theorem dX11_isGood_175 : decode cX11_isGood 175 = .ok (.iload_n 2, 1) := by decide +kernel
theorem dX11_isGood_176 : decode cX11_isGood 176 = .ok (.bipush 32, 2) := by decide +kernel
theorem dX11_isGood_178 : decode cX11_isGood 178 = .ok (.irem, 1) := by decide +kernel
theorem dX11_isGood_179 : decode cX11_isGood 179 = .ok (.bipush 24, 2) := by decide +kernel
theorem dX11_isGood_181 : decode cX11_isGood 181 = .ok (.if_icmp .gt 7, 3) := by decide +kernel
theorem dX11_isGood_184 : decode cX11_isGood 184 = .ok (.iconst 1, 1) := by decide +kernel
theorem dX11_isGood_185 : decode cX11_isGood 185 = .ok (.goto 4, 3) := by decide +kernel
theorem dX11_isGood_188 : decode cX11_isGood 188 = .ok (.iconst 0, 1) := by decide +kernel
theorem dX11_isGood_189 : decode cX11_isGood 189 = .ok (.ireturn, 1) := by decide +kernel
theorem dX11_isGood_190 : decode cX11_isGood 190 = .ok (.iload_n 1, 1) := by decide +kernel
theorem dX11_isGood_191 : decode cX11_isGood 191 = .ok (.i2l, 1) := by decide +kernel
theorem dX11_isGood_192 : decode cX11_isGood 192 = .ok (.lconst 1, 1) := by decide +kernel
theorem dX11_isGood_193 : decode cX11_isGood 193 = .ok (.ldc2_w 89, 3) := by decide +kernel
theorem dX11_isGood_196 : decode cX11_isGood 196 = .ok (.invokestatic 81, 3) := by decide +kernel
theorem dX11_isGood_199 : decode cX11_isGood 199 = .ok (.ifCond .eq 11, 3) := by decide +kernel
theorem dX11_isGood_202 : decode cX11_isGood 202 = .ok (.iload_n 2, 1) := by decide +kernel
theorem dX11_isGood_203 : decode cX11_isGood 203 = .ok (.ifCond .ne 7, 3) := by decide +kernel
theorem dX11_isGood_206 : decode cX11_isGood 206 = .ok (.iconst 1, 1) := by decide +kernel
theorem dX11_isGood_207 : decode cX11_isGood 207 = .ok (.goto 4, 3) := by decide +kernel
theorem dX11_isGood_210 : decode cX11_isGood 210 = .ok (.iconst 0, 1) := by decide +kernel
theorem dX11_isGood_211 : decode cX11_isGood 211 = .ok (.ireturn, 1) := by decide +kernel
theorem dX11_isGood_212 : decode cX11_isGood 212 = .ok (.iconst 0, 1) := by decide +kernel
theorem dX11_isGood_213 : decode cX11_isGood 213 = .ok (.ireturn, 1) := by decide +kernel
theorem dX11_keep_0 : decode cX11_keep 0 = .ok (.aload_n 0, 1) := by decide +kernel
theorem dX11_keep_1 : decode cX11_keep 1 = .ok (.getfield 91, 3) := by decide +kernel
theorem dX11_keep_4 : decode cX11_keep 4 = .ok (.bipush 8, 2) := by decide +kernel
theorem dX11_keep_6 : decode cX11_keep 6 = .ok (.if_icmp .ne 43, 3) := by decide +kernel
theorem dX11_keep_9 : decode cX11_keep 9 = .ok (.iconst 0, 1) := by decide +kernel
theorem dX11_keep_10 : decode cX11_keep 10 = .ok (.istore_n 1, 1) := by decide +kernel
theorem dX11_keep_11 : decode cX11_keep 11 = .ok (.iload_n 1, 1) := by decide +kernel
theorem dX11_keep_12 : decode cX11_keep 12 = .ok (.sipush 343, 3) := by decide +kernel
theorem dX11_keep_15 : decode cX11_keep 15 = .ok (.if_icmp .ge 24, 3) := by decide +kernel
theorem dX11_keep_18 : decode cX11_keep 18 = .ok (.aload_n 0, 1) := by decide +kernel
theorem dX11_keep_19 : decode cX11_keep 19 = .ok (.getfield 19, 3) := by decide +kernel
theorem dX11_keep_22 : decode cX11_keep 22 = .ok (.iload_n 1, 1) := by decide +kernel
theorem dX11_keep_23 : decode cX11_keep 23 = .ok (.aload_n 0, 1) := by decide +kernel
theorem dX11_keep_24 : decode cX11_keep 24 = .ok (.getfield 19, 3) := by decide +kernel
theorem dX11_keep_27 : decode cX11_keep 27 = .ok (.iload_n 1, 1) := by decide +kernel
theorem dX11_keep_28 : decode cX11_keep 28 = .ok (.bipush 49, 2) := by decide +kernel
theorem dX11_keep_30 : decode cX11_keep 30 = .ok (.iadd, 1) := by decide +kernel
theorem dX11_keep_31 : decode cX11_keep 31 = .ok (.iaload, 1) := by decide +kernel
theorem dX11_keep_32 : decode cX11_keep 32 = .ok (.iastore, 1) := by decide +kernel
theorem dX11_keep_33 : decode cX11_keep 33 = .ok (.iinc 1 1, 3) := by decide +kernel
theorem dX11_keep_36 : decode cX11_keep 36 = .ok (.goto (-25), 3) := by decide +kernel
theorem dX11_keep_39 : decode cX11_keep 39 = .ok (.aload_n 0, 1) := by decide +kernel
theorem dX11_keep_40 : decode cX11_keep 40 = .ok (.dup, 1) := by decide +kernel
theorem dX11_keep_41 : decode cX11_keep 41 = .ok (.getfield 91, 3) := by decide +kernel
theorem dX11_keep_44 : decode cX11_keep 44 = .ok (.iconst 1, 1) := by decide +kernel
theorem dX11_keep_45 : decode cX11_keep 45 = .ok (.isub, 1) := by decide +kernel
theorem dX11_keep_46 : decode cX11_keep 46 = .ok (.putfield 91, 3) := by decide +kernel
theorem dX11_keep_49 : decode cX11_keep 49 = .ok (.bipush 49, 2) := by decide +kernel
theorem dX11_keep_51 : decode cX11_keep 51 = .ok (.aload_n 0, 1) := by decide +kernel
theorem dX11_keep_52 : decode cX11_keep 52 = .ok (.getfield 91, 3) := by decide +kernel
theorem dX11_keep_55 : decode cX11_keep 55 = .ok (.imul, 1) := by decide +kernel
theorem dX11_keep_56 : decode cX11_keep 56 = .ok (.istore_n 1, 1) := by decide +kernel
theorem dX11_keep_57 : decode cX11_keep 57 = .ok (.aload_n 0, 1) := by decide +kernel
theorem dX11_keep_58 : decode cX11_keep 58 = .ok (.getfield 19, 3) := by decide +kernel
theorem dX11_keep_61 : decode cX11_keep 61 = .ok (.iload_n 1, 1) := by decide +kernel
theorem dX11_keep_62 : decode cX11_keep 62 = .ok (.aload_n 0, 1) := by decide +kernel
theorem dX11_keep_63 : decode cX11_keep 63 = .ok (.getfield 95, 3) := by decide +kernel
theorem dX11_keep_66 : decode cX11_keep 66 = .ok (.iastore, 1) := by decide +kernel
theorem dX11_keep_67 : decode cX11_keep 67 = .ok (.iconst 0, 1) := by decide +kernel
theorem dX11_keep_68 : decode cX11_keep 68 = .ok (.istore_n 2, 1) := by decide +kernel
theorem dX11_keep_69 : decode cX11_keep 69 = .ok (.iload_n 2, 1) := by decide +kernel
theorem dX11_keep_70 : decode cX11_keep 70 = .ok (.bipush 16, 2) := by decide +kernel
theorem dX11_keep_72 : decode cX11_keep 72 = .ok (.if_icmp .ge 63, 3) := by decide +kernel
theorem dX11_keep_75 : decode cX11_keep 75 = .ok (.aload_n 0, 1) := by decide +kernel
theorem dX11_keep_76 : decode cX11_keep 76 = .ok (.getfield 19, 3) := by decide +kernel
theorem dX11_keep_79 : decode cX11_keep 79 = .ok (.iload_n 1, 1) := by decide +kernel
theorem dX11_keep_80 : decode cX11_keep 80 = .ok (.iconst 1, 1) := by decide +kernel
theorem dX11_keep_81 : decode cX11_keep 81 = .ok (.iadd, 1) := by decide +kernel
theorem dX11_keep_82 : decode cX11_keep 82 = .ok (.iconst 3, 1) := by decide +kernel
theorem dX11_keep_83 : decode cX11_keep 83 = .ok (.iload_n 2, 1) := by decide +kernel
theorem dX11_keep_84 : decode cX11_keep 84 = .ok (.imul, 1) := by decide +kernel
theorem dX11_keep_85 : decode cX11_keep 85 = .ok (.iadd, 1) := by decide +kernel
theorem dX11_keep_86 : decode cX11_keep 86 = .ok (.aload_n 0, 1) := by decide +kernel
theorem dX11_keep_87 : decode cX11_keep 87 = .ok (.getfield 7, 3) := by decide +kernel
theorem dX11_keep_90 : decode cX11_keep 90 = .ok (.iload_n 2, 1) := by decide +kernel
theorem dX11_keep_91 : decode cX11_keep 91 = .ok (.iaload, 1) := by decide +kernel
theorem dX11_keep_92 : decode cX11_keep 92 = .ok (.iastore, 1) := by decide +kernel
theorem dX11_keep_93 : decode cX11_keep 93 = .ok (.aload_n 0, 1) := by decide +kernel
theorem dX11_keep_94 : decode cX11_keep 94 = .ok (.getfield 19, 3) := by decide +kernel
theorem dX11_keep_97 : decode cX11_keep 97 = .ok (.iload_n 1, 1) := by decide +kernel
theorem dX11_keep_98 : decode cX11_keep 98 = .ok (.iconst 2, 1) := by decide +kernel
theorem dX11_keep_99 : decode cX11_keep 99 = .ok (.iadd, 1) := by decide +kernel
theorem dX11_keep_100 : decode cX11_keep 100 = .ok (.iconst 3, 1) := by decide +kernel
theorem dX11_keep_101 : decode cX11_keep 101 = .ok (.iload_n 2, 1) := by decide +kernel
theorem dX11_keep_102 : decode cX11_keep 102 = .ok (.imul, 1) := by decide +kernel
theorem dX11_keep_103 : decode cX11_keep 103 = .ok (.iadd, 1) := by decide +kernel
theorem dX11_keep_104 : decode cX11_keep 104 = .ok (.aload_n 0, 1) := by decide +kernel
theorem dX11_keep_105 : decode cX11_keep 105 = .ok (.getfield 13, 3) := by decide +kernel
theorem dX11_keep_108 : decode cX11_keep 108 = .ok (.iload_n 2, 1) := by decide +kernel
theorem dX11_keep_109 : decode cX11_keep 109 = .ok (.iaload, 1) := by decide +kernel
theorem dX11_keep_110 : decode cX11_keep 110 = .ok (.iastore, 1) := by decide +kernel
theorem dX11_keep_111 : decode cX11_keep 111 = .ok (.aload_n 0, 1) := by decide +kernel
theorem dX11_keep_112 : decode cX11_keep 112 = .ok (.getfield 19, 3) := by decide +kernel
theorem dX11_keep_115 : decode cX11_keep 115 = .ok (.iload_n 1, 1) := by decide +kernel
theorem dX11_keep_116 : decode cX11_keep 116 = .ok (.iconst 3, 1) := by decide +kernel
theorem dX11_keep_117 : decode cX11_keep 117 = .ok (.iadd, 1) := by decide +kernel
theorem dX11_keep_118 : decode cX11_keep 118 = .ok (.iconst 3, 1) := by decide +kernel
theorem dX11_keep_119 : decode cX11_keep 119 = .ok (.iload_n 2, 1) := by decide +kernel
theorem dX11_keep_120 : decode cX11_keep 120 = .ok (.imul, 1) := by decide +kernel
theorem dX11_keep_121 : decode cX11_keep 121 = .ok (.iadd, 1) := by decide +kernel
theorem dX11_keep_122 : decode cX11_keep 122 = .ok (.aload_n 0, 1) := by decide +kernel
theorem dX11_keep_123 : decode cX11_keep 123 = .ok (.getfield 16, 3) := by decide +kernel
theorem dX11_keep_126 : decode cX11_keep 126 = .ok (.iload_n 2, 1) := by decide +kernel
theorem dX11_keep_127 : decode cX11_keep 127 = .ok (.iaload, 1) := by decide +kernel
theorem dX11_keep_128 : decode cX11_keep 128 = .ok (.iastore, 1) := by decide +kernel
theorem dX11_keep_129 : decode cX11_keep 129 = .ok (.iinc 2 1, 3) := by decide +kernel
theorem dX11_keep_132 : decode cX11_keep 132 = .ok (.goto (-63), 3) := by decide +kernel
theorem dX11_keep_135 : decode cX11_keep 135 = .ok (.aload_n 0, 1) := by decide +kernel
theorem dX11_keep_136 : decode cX11_keep 136 = .ok (.dup, 1) := by decide +kernel
theorem dX11_keep_137 : decode cX11_keep 137 = .ok (.getfield 91, 3) := by decide +kernel
theorem dX11_keep_140 : decode cX11_keep 140 = .ok (.iconst 1, 1) := by decide +kernel
theorem dX11_keep_141 : decode cX11_keep 141 = .ok (.iadd, 1) := by decide +kernel
theorem dX11_keep_142 : decode cX11_keep 142 = .ok (.putfield 91, 3) := by decide +kernel
theorem dX11_keep_145 : decode cX11_keep 145 = .ok (.aload_n 0, 1) := by decide +kernel
theorem dX11_keep_146 : decode cX11_keep 146 = .ok (.iconst 0, 1) := by decide +kernel
theorem dX11_keep_147 : decode cX11_keep 147 = .ok (.putfield 98, 3) := by decide +kernel
theorem dX11_keep_150 : decode cX11_keep 150 = .ok (.return_, 1) := by decide +kernel
theorem dX11_lay_0 : decode cX11_lay 0 = .ok (.aload_n 0, 1) := by decide +kernel
theorem dX11_lay_1 : decode cX11_lay 1 = .ok (.getfield 7, 3) := by decide +kernel
theorem dX11_lay_4 : decode cX11_lay 4 = .ok (.iload_n 1, 1) := by decide +kernel
theorem dX11_lay_5 : decode cX11_lay 5 = .ok (.iload_n 2, 1) := by decide +kernel
theorem dX11_lay_6 : decode cX11_lay 6 = .ok (.iastore, 1) := by decide +kernel
theorem dX11_lay_7 : decode cX11_lay 7 = .ok (.aload_n 0, 1) := by decide +kernel
theorem dX11_lay_8 : decode cX11_lay 8 = .ok (.getfield 13, 3) := by decide +kernel
theorem dX11_lay_11 : decode cX11_lay 11 = .ok (.iload_n 1, 1) := by decide +kernel
theorem dX11_lay_12 : decode cX11_lay 12 = .ok (.iload_n 3, 1) := by decide +kernel
theorem dX11_lay_13 : decode cX11_lay 13 = .ok (.iastore, 1) := by decide +kernel
theorem dX11_lay_14 : decode cX11_lay 14 = .ok (.aload_n 0, 1) := by decide +kernel
theorem dX11_lay_15 : decode cX11_lay 15 = .ok (.getfield 16, 3) := by decide +kernel
theorem dX11_lay_18 : decode cX11_lay 18 = .ok (.iload_n 1, 1) := by decide +kernel
theorem dX11_lay_19 : decode cX11_lay 19 = .ok (.iload 4, 2) := by decide +kernel
theorem dX11_lay_21 : decode cX11_lay 21 = .ok (.iastore, 1) := by decide +kernel
theorem dX11_lay_22 : decode cX11_lay 22 = .ok (.return_, 1) := by decide +kernel
theorem dX11_shape_0 : decode cX11_shape 0 = .ok (.iload_n 1, 1) := by decide +kernel
theorem dX11_shape_1 : decode cX11_shape 1 = .ok (.iload_n 2, 1) := by decide +kernel
theorem dX11_shape_2 : decode cX11_shape 2 = .ok (.iload_n 3, 1) := by decide +kernel
theorem dX11_shape_3 : decode cX11_shape 3 = .ok (.invokestatic 101, 3) := by decide +kernel
theorem dX11_shape_6 : decode cX11_shape 6 = .ok (.ifCond .ne 7, 3) := by decide +kernel
theorem dX11_shape_9 : decode cX11_shape 9 = .ok (.ldc2_w 105, 3) := by decide +kernel
theorem dX11_shape_12 : decode cX11_shape 12 = .ok (.lreturn, 1) := by decide +kernel
theorem dX11_shape_13 : decode cX11_shape 13 = .ok (.aload_n 0, 1) := by decide +kernel
theorem dX11_shape_14 : decode cX11_shape 14 = .ok (.getfield 95, 3) := by decide +kernel
theorem dX11_shape_17 : decode cX11_shape 17 = .ok (.bipush 16, 2) := by decide +kernel
theorem dX11_shape_19 : decode cX11_shape 19 = .ok (.if_icmp .ne 7, 3) := by decide +kernel
theorem dX11_shape_22 : decode cX11_shape 22 = .ok (.ldc2_w 107, 3) := by decide +kernel
theorem dX11_shape_25 : decode cX11_shape 25 = .ok (.lreturn, 1) := by decide +kernel
theorem dX11_shape_26 : decode cX11_shape 26 = .ok (.aload_n 0, 1) := by decide +kernel
theorem dX11_shape_27 : decode cX11_shape 27 = .ok (.invokevirtual 109, 3) := by decide +kernel
theorem dX11_shape_30 : decode cX11_shape 30 = .ok (.aload_n 0, 1) := by decide +kernel
theorem dX11_shape_31 : decode cX11_shape 31 = .ok (.aload_n 0, 1) := by decide +kernel
theorem dX11_shape_32 : decode cX11_shape 32 = .ok (.getfield 95, 3) := by decide +kernel
theorem dX11_shape_35 : decode cX11_shape 35 = .ok (.iload_n 1, 1) := by decide +kernel
theorem dX11_shape_36 : decode cX11_shape 36 = .ok (.iload_n 2, 1) := by decide +kernel
theorem dX11_shape_37 : decode cX11_shape 37 = .ok (.iload_n 3, 1) := by decide +kernel
theorem dX11_shape_38 : decode cX11_shape 38 = .ok (.invokevirtual 112, 3) := by decide +kernel
theorem dX11_shape_41 : decode cX11_shape 41 = .ok (.aload_n 0, 1) := by decide +kernel
theorem dX11_shape_42 : decode cX11_shape 42 = .ok (.dup, 1) := by decide +kernel
theorem dX11_shape_43 : decode cX11_shape 43 = .ok (.getfield 95, 3) := by decide +kernel
theorem dX11_shape_46 : decode cX11_shape 46 = .ok (.iconst 1, 1) := by decide +kernel
theorem dX11_shape_47 : decode cX11_shape 47 = .ok (.iadd, 1) := by decide +kernel
theorem dX11_shape_48 : decode cX11_shape 48 = .ok (.putfield 95, 3) := by decide +kernel
theorem dX11_shape_51 : decode cX11_shape 51 = .ok (.aload_n 0, 1) := by decide +kernel
theorem dX11_shape_52 : decode cX11_shape 52 = .ok (.getfield 95, 3) := by decide +kernel
theorem dX11_shape_55 : decode cX11_shape 55 = .ok (.iconst 1, 1) := by decide +kernel
theorem dX11_shape_56 : decode cX11_shape 56 = .ok (.isub, 1) := by decide +kernel
theorem dX11_shape_57 : decode cX11_shape 57 = .ok (.i2l, 1) := by decide +kernel
theorem dX11_shape_58 : decode cX11_shape 58 = .ok (.lreturn, 1) := by decide +kernel
theorem dX11_isShape_0 : decode cX11_isShape 0 = .ok (.iload_n 1, 1) := by decide +kernel
theorem dX11_isShape_1 : decode cX11_isShape 1 = .ok (.i2l, 1) := by decide +kernel
theorem dX11_isShape_2 : decode cX11_isShape 2 = .ok (.lconst 0, 1) := by decide +kernel
theorem dX11_isShape_3 : decode cX11_isShape 3 = .ok (.aload_n 0, 1) := by decide +kernel
theorem dX11_isShape_4 : decode cX11_isShape 4 = .ok (.getfield 95, 3) := by decide +kernel
theorem dX11_isShape_7 : decode cX11_isShape 7 = .ok (.iconst 1, 1) := by decide +kernel
theorem dX11_isShape_8 : decode cX11_isShape 8 = .ok (.isub, 1) := by decide +kernel
theorem dX11_isShape_9 : decode cX11_isShape 9 = .ok (.i2l, 1) := by decide +kernel
theorem dX11_isShape_10 : decode cX11_isShape 10 = .ok (.invokestatic 81, 3) := by decide +kernel
theorem dX11_isShape_13 : decode cX11_isShape 13 = .ok (.ireturn, 1) := by decide +kernel
theorem dX11_put_0 : decode cX11_put 0 = .ok (.aload_n 0, 1) := by decide +kernel
theorem dX11_put_1 : decode cX11_put 1 = .ok (.iload_n 1, 1) := by decide +kernel
theorem dX11_put_2 : decode cX11_put 2 = .ok (.invokevirtual 116, 3) := by decide +kernel
theorem dX11_put_5 : decode cX11_put 5 = .ok (.ifCond .eq 13, 3) := by decide +kernel
theorem dX11_put_8 : decode cX11_put 8 = .ok (.iload_n 2, 1) := by decide +kernel
theorem dX11_put_9 : decode cX11_put 9 = .ok (.iload_n 3, 1) := by decide +kernel
theorem dX11_put_10 : decode cX11_put 10 = .ok (.iload 4, 2) := by decide +kernel
theorem dX11_put_12 : decode cX11_put 12 = .ok (.invokestatic 101, 3) := by decide +kernel
theorem dX11_put_15 : decode cX11_put 15 = .ok (.ifCond .ne 7, 3) := by decide +kernel
theorem dX11_put_18 : decode cX11_put 18 = .ok (.ldc2_w 105, 3) := by decide +kernel
theorem dX11_put_21 : decode cX11_put 21 = .ok (.lreturn, 1) := by decide +kernel
theorem dX11_put_22 : decode cX11_put 22 = .ok (.aload_n 0, 1) := by decide +kernel
theorem dX11_put_23 : decode cX11_put 23 = .ok (.invokevirtual 109, 3) := by decide +kernel
theorem dX11_put_26 : decode cX11_put 26 = .ok (.aload_n 0, 1) := by decide +kernel
theorem dX11_put_27 : decode cX11_put 27 = .ok (.iload_n 1, 1) := by decide +kernel
theorem dX11_put_28 : decode cX11_put 28 = .ok (.iload_n 2, 1) := by decide +kernel
theorem dX11_put_29 : decode cX11_put 29 = .ok (.iload_n 3, 1) := by decide +kernel
theorem dX11_put_30 : decode cX11_put 30 = .ok (.iload 4, 2) := by decide +kernel
theorem dX11_put_32 : decode cX11_put 32 = .ok (.invokevirtual 112, 3) := by decide +kernel
theorem dX11_put_35 : decode cX11_put 35 = .ok (.lconst 0, 1) := by decide +kernel
theorem dX11_put_36 : decode cX11_put 36 = .ok (.lreturn, 1) := by decide +kernel
theorem dX11_undo_0 : decode cX11_undo 0 = .ok (.aload_n 0, 1) := by decide +kernel
theorem dX11_undo_1 : decode cX11_undo 1 = .ok (.getfield 91, 3) := by decide +kernel
theorem dX11_undo_4 : decode cX11_undo 4 = .ok (.ifCond .ne 7, 3) := by decide +kernel
theorem dX11_undo_7 : decode cX11_undo 7 = .ok (.ldc2_w 120, 3) := by decide +kernel
theorem dX11_undo_10 : decode cX11_undo 10 = .ok (.lreturn, 1) := by decide +kernel
theorem dX11_undo_11 : decode cX11_undo 11 = .ok (.aload_n 0, 1) := by decide +kernel
theorem dX11_undo_12 : decode cX11_undo 12 = .ok (.dup, 1) := by decide +kernel
theorem dX11_undo_13 : decode cX11_undo 13 = .ok (.getfield 91, 3) := by decide +kernel
theorem dX11_undo_16 : decode cX11_undo 16 = .ok (.iconst 1, 1) := by decide +kernel
theorem dX11_undo_17 : decode cX11_undo 17 = .ok (.isub, 1) := by decide +kernel
theorem dX11_undo_18 : decode cX11_undo 18 = .ok (.putfield 91, 3) := by decide +kernel
theorem dX11_undo_21 : decode cX11_undo 21 = .ok (.bipush 49, 2) := by decide +kernel
theorem dX11_undo_23 : decode cX11_undo 23 = .ok (.aload_n 0, 1) := by decide +kernel
theorem dX11_undo_24 : decode cX11_undo 24 = .ok (.getfield 91, 3) := by decide +kernel
theorem dX11_undo_27 : decode cX11_undo 27 = .ok (.imul, 1) := by decide +kernel
theorem dX11_undo_28 : decode cX11_undo 28 = .ok (.istore_n 1, 1) := by decide +kernel
theorem dX11_undo_29 : decode cX11_undo 29 = .ok (.aload_n 0, 1) := by decide +kernel
theorem dX11_undo_30 : decode cX11_undo 30 = .ok (.aload_n 0, 1) := by decide +kernel
theorem dX11_undo_31 : decode cX11_undo 31 = .ok (.getfield 19, 3) := by decide +kernel
theorem dX11_undo_34 : decode cX11_undo 34 = .ok (.iload_n 1, 1) := by decide +kernel
theorem dX11_undo_35 : decode cX11_undo 35 = .ok (.iaload, 1) := by decide +kernel
theorem dX11_undo_36 : decode cX11_undo 36 = .ok (.putfield 95, 3) := by decide +kernel
theorem dX11_undo_39 : decode cX11_undo 39 = .ok (.iconst 0, 1) := by decide +kernel
theorem dX11_undo_40 : decode cX11_undo 40 = .ok (.istore_n 2, 1) := by decide +kernel
theorem dX11_undo_41 : decode cX11_undo 41 = .ok (.iload_n 2, 1) := by decide +kernel
theorem dX11_undo_42 : decode cX11_undo 42 = .ok (.bipush 16, 2) := by decide +kernel
theorem dX11_undo_44 : decode cX11_undo 44 = .ok (.if_icmp .ge 50, 3) := by decide +kernel
theorem dX11_undo_47 : decode cX11_undo 47 = .ok (.aload_n 0, 1) := by decide +kernel
theorem dX11_undo_48 : decode cX11_undo 48 = .ok (.iload_n 2, 1) := by decide +kernel
theorem dX11_undo_49 : decode cX11_undo 49 = .ok (.aload_n 0, 1) := by decide +kernel
theorem dX11_undo_50 : decode cX11_undo 50 = .ok (.getfield 19, 3) := by decide +kernel
theorem dX11_undo_53 : decode cX11_undo 53 = .ok (.iload_n 1, 1) := by decide +kernel
theorem dX11_undo_54 : decode cX11_undo 54 = .ok (.iconst 1, 1) := by decide +kernel
theorem dX11_undo_55 : decode cX11_undo 55 = .ok (.iadd, 1) := by decide +kernel
theorem dX11_undo_56 : decode cX11_undo 56 = .ok (.iconst 3, 1) := by decide +kernel
theorem dX11_undo_57 : decode cX11_undo 57 = .ok (.iload_n 2, 1) := by decide +kernel
theorem dX11_undo_58 : decode cX11_undo 58 = .ok (.imul, 1) := by decide +kernel
theorem dX11_undo_59 : decode cX11_undo 59 = .ok (.iadd, 1) := by decide +kernel
theorem dX11_undo_60 : decode cX11_undo 60 = .ok (.iaload, 1) := by decide +kernel
theorem dX11_undo_61 : decode cX11_undo 61 = .ok (.aload_n 0, 1) := by decide +kernel
theorem dX11_undo_62 : decode cX11_undo 62 = .ok (.getfield 19, 3) := by decide +kernel
theorem dX11_undo_65 : decode cX11_undo 65 = .ok (.iload_n 1, 1) := by decide +kernel
theorem dX11_undo_66 : decode cX11_undo 66 = .ok (.iconst 2, 1) := by decide +kernel
theorem dX11_undo_67 : decode cX11_undo 67 = .ok (.iadd, 1) := by decide +kernel
theorem dX11_undo_68 : decode cX11_undo 68 = .ok (.iconst 3, 1) := by decide +kernel
theorem dX11_undo_69 : decode cX11_undo 69 = .ok (.iload_n 2, 1) := by decide +kernel
theorem dX11_undo_70 : decode cX11_undo 70 = .ok (.imul, 1) := by decide +kernel
theorem dX11_undo_71 : decode cX11_undo 71 = .ok (.iadd, 1) := by decide +kernel
theorem dX11_undo_72 : decode cX11_undo 72 = .ok (.iaload, 1) := by decide +kernel
theorem dX11_undo_73 : decode cX11_undo 73 = .ok (.aload_n 0, 1) := by decide +kernel
theorem dX11_undo_74 : decode cX11_undo 74 = .ok (.getfield 19, 3) := by decide +kernel
theorem dX11_undo_77 : decode cX11_undo 77 = .ok (.iload_n 1, 1) := by decide +kernel
theorem dX11_undo_78 : decode cX11_undo 78 = .ok (.iconst 3, 1) := by decide +kernel
theorem dX11_undo_79 : decode cX11_undo 79 = .ok (.iadd, 1) := by decide +kernel
theorem dX11_undo_80 : decode cX11_undo 80 = .ok (.iconst 3, 1) := by decide +kernel
theorem dX11_undo_81 : decode cX11_undo 81 = .ok (.iload_n 2, 1) := by decide +kernel
theorem dX11_undo_82 : decode cX11_undo 82 = .ok (.imul, 1) := by decide +kernel
theorem dX11_undo_83 : decode cX11_undo 83 = .ok (.iadd, 1) := by decide +kernel
theorem dX11_undo_84 : decode cX11_undo 84 = .ok (.iaload, 1) := by decide +kernel
theorem dX11_undo_85 : decode cX11_undo 85 = .ok (.invokevirtual 112, 3) := by decide +kernel
theorem dX11_undo_88 : decode cX11_undo 88 = .ok (.iinc 2 1, 3) := by decide +kernel
theorem dX11_undo_91 : decode cX11_undo 91 = .ok (.goto (-50), 3) := by decide +kernel
theorem dX11_undo_94 : decode cX11_undo 94 = .ok (.aload_n 0, 1) := by decide +kernel
theorem dX11_undo_95 : decode cX11_undo 95 = .ok (.iconst 0, 1) := by decide +kernel
theorem dX11_undo_96 : decode cX11_undo 96 = .ok (.putfield 98, 3) := by decide +kernel
theorem dX11_undo_99 : decode cX11_undo 99 = .ok (.aload_n 0, 1) := by decide +kernel
theorem dX11_undo_100 : decode cX11_undo 100 = .ok (.getfield 91, 3) := by decide +kernel
theorem dX11_undo_103 : decode cX11_undo 103 = .ok (.i2l, 1) := by decide +kernel
theorem dX11_undo_104 : decode cX11_undo 104 = .ok (.lreturn, 1) := by decide +kernel
theorem dX11_about_0 : decode cX11_about 0 = .ok (.aload_n 0, 1) := by decide +kernel
theorem dX11_about_1 : decode cX11_about 1 = .ok (.iload_n 1, 1) := by decide +kernel
theorem dX11_about_2 : decode cX11_about 2 = .ok (.invokevirtual 116, 3) := by decide +kernel
theorem dX11_about_5 : decode cX11_about 5 = .ok (.ifCond .eq 15, 3) := by decide +kernel
theorem dX11_about_8 : decode cX11_about 8 = .ok (.iload_n 2, 1) := by decide +kernel
theorem dX11_about_9 : decode cX11_about 9 = .ok (.i2l, 1) := by decide +kernel
theorem dX11_about_10 : decode cX11_about 10 = .ok (.lconst 0, 1) := by decide +kernel
theorem dX11_about_11 : decode cX11_about 11 = .ok (.ldc2_w 122, 3) := by decide +kernel
theorem dX11_about_14 : decode cX11_about 14 = .ok (.invokestatic 81, 3) := by decide +kernel
theorem dX11_about_17 : decode cX11_about 17 = .ok (.ifCond .ne 7, 3) := by decide +kernel
theorem dX11_about_20 : decode cX11_about 20 = .ok (.ldc2_w 105, 3) := by decide +kernel
theorem dX11_about_23 : decode cX11_about 23 = .ok (.lreturn, 1) := by decide +kernel
theorem dX11_about_24 : decode cX11_about 24 = .ok (.iload_n 2, 1) := by decide +kernel
theorem dX11_about_25 : decode cX11_about 25 = .ok (.ifCond .ne 13, 3) := by decide +kernel
theorem dX11_about_28 : decode cX11_about 28 = .ok (.aload_n 0, 1) := by decide +kernel
theorem dX11_about_29 : decode cX11_about 29 = .ok (.getfield 7, 3) := by decide +kernel
theorem dX11_about_32 : decode cX11_about 32 = .ok (.iload_n 1, 1) := by decide +kernel
theorem dX11_about_33 : decode cX11_about 33 = .ok (.iaload, 1) := by decide +kernel
theorem dX11_about_34 : decode cX11_about 34 = .ok (.i2l, 1) := by decide +kernel
theorem dX11_about_35 : decode cX11_about 35 = .ok (.goto 25, 3) := by decide +kernel
theorem dX11_about_38 : decode cX11_about 38 = .ok (.iload_n 2, 1) := by decide +kernel
theorem dX11_about_39 : decode cX11_about 39 = .ok (.iconst 1, 1) := by decide +kernel
theorem dX11_about_40 : decode cX11_about 40 = .ok (.if_icmp .ne 13, 3) := by decide +kernel
theorem dX11_about_43 : decode cX11_about 43 = .ok (.aload_n 0, 1) := by decide +kernel
theorem dX11_about_44 : decode cX11_about 44 = .ok (.getfield 13, 3) := by decide +kernel
theorem dX11_about_47 : decode cX11_about 47 = .ok (.iload_n 1, 1) := by decide +kernel
theorem dX11_about_48 : decode cX11_about 48 = .ok (.iaload, 1) := by decide +kernel
theorem dX11_about_49 : decode cX11_about 49 = .ok (.i2l, 1) := by decide +kernel
theorem dX11_about_50 : decode cX11_about 50 = .ok (.goto 10, 3) := by decide +kernel
theorem dX11_about_53 : decode cX11_about 53 = .ok (.aload_n 0, 1) := by decide +kernel
theorem dX11_about_54 : decode cX11_about 54 = .ok (.getfield 16, 3) := by decide +kernel
theorem dX11_about_57 : decode cX11_about 57 = .ok (.iload_n 1, 1) := by decide +kernel
theorem dX11_about_58 : decode cX11_about 58 = .ok (.iaload, 1) := by decide +kernel
theorem dX11_about_59 : decode cX11_about 59 = .ok (.i2l, 1) := by decide +kernel
theorem dX11_about_60 : decode cX11_about 60 = .ok (.lreturn, 1) := by decide +kernel
theorem dX11_hasA_0 : decode cX11_hasA 0 = .ok (.aload_n 0, 1) := by decide +kernel
theorem dX11_hasA_1 : decode cX11_hasA 1 = .ok (.getfield 7, 3) := by decide +kernel
theorem dX11_hasA_4 : decode cX11_hasA 4 = .ok (.iload_n 1, 1) := by decide +kernel
theorem dX11_hasA_5 : decode cX11_hasA 5 = .ok (.iaload, 1) := by decide +kernel
theorem dX11_hasA_6 : decode cX11_hasA 6 = .ok (.i2l, 1) := by decide +kernel
theorem dX11_hasA_7 : decode cX11_hasA 7 = .ok (.ldc2_w 122, 3) := by decide +kernel
theorem dX11_hasA_10 : decode cX11_hasA 10 = .ok (.ldc2_w 124, 3) := by decide +kernel
theorem dX11_hasA_13 : decode cX11_hasA 13 = .ok (.invokestatic 81, 3) := by decide +kernel
theorem dX11_hasA_16 : decode cX11_hasA 16 = .ok (.ireturn, 1) := by decide +kernel
theorem dX11_hasB_0 : decode cX11_hasB 0 = .ok (.aload_n 0, 1) := by decide +kernel
theorem dX11_hasB_1 : decode cX11_hasB 1 = .ok (.getfield 7, 3) := by decide +kernel
theorem dX11_hasB_4 : decode cX11_hasB 4 = .ok (.iload_n 1, 1) := by decide +kernel
theorem dX11_hasB_5 : decode cX11_hasB 5 = .ok (.iaload, 1) := by decide +kernel
theorem dX11_hasB_6 : decode cX11_hasB 6 = .ok (.iconst 2, 1) := by decide +kernel
theorem dX11_hasB_7 : decode cX11_hasB 7 = .ok (.if_icmp .eq 13, 3) := by decide +kernel
theorem dX11_hasB_10 : decode cX11_hasB 10 = .ok (.aload_n 0, 1) := by decide +kernel
theorem dX11_hasB_11 : decode cX11_hasB 11 = .ok (.getfield 7, 3) := by decide +kernel
theorem dX11_hasB_14 : decode cX11_hasB 14 = .ok (.iload_n 1, 1) := by decide +kernel
theorem dX11_hasB_15 : decode cX11_hasB 15 = .ok (.iaload, 1) := by decide +kernel
theorem dX11_hasB_16 : decode cX11_hasB 16 = .ok (.iconst 3, 1) := by decide +kernel
theorem dX11_hasB_17 : decode cX11_hasB 17 = .ok (.if_icmp .ne 7, 3) := by decide +kernel
theorem dX11_hasB_20 : decode cX11_hasB 20 = .ok (.iconst 1, 1) := by decide +kernel
theorem dX11_hasB_21 : decode cX11_hasB 21 = .ok (.goto 4, 3) := by decide +kernel
theorem dX11_hasB_24 : decode cX11_hasB 24 = .ok (.iconst 0, 1) := by decide +kernel
theorem dX11_hasB_25 : decode cX11_hasB 25 = .ok (.ireturn, 1) := by decide +kernel
theorem dX11_canBeNought_0 : decode cX11_canBeNought 0 = .ok (.aload_n 0, 1) := by decide +kernel
theorem dX11_canBeNought_1 : decode cX11_canBeNought 1 = .ok (.getfield 7, 3) := by decide +kernel
theorem dX11_canBeNought_4 : decode cX11_canBeNought 4 = .ok (.iload_n 1, 1) := by decide +kernel
theorem dX11_canBeNought_5 : decode cX11_canBeNought 5 = .ok (.iaload, 1) := by decide +kernel
theorem dX11_canBeNought_6 : decode cX11_canBeNought 6 = .ok (.tableswitch 144 1 7 #[42, 44, 78, 42, 42, 42, 112], 42) := by decide +kernel
theorem dX11_canBeNought_48 : decode cX11_canBeNought 48 = .ok (.iconst 1, 1) := by decide +kernel
theorem dX11_canBeNought_49 : decode cX11_canBeNought 49 = .ok (.ireturn, 1) := by decide +kernel
theorem dX11_canBeNought_50 : decode cX11_canBeNought 50 = .ok (.aload_n 0, 1) := by decide +kernel
theorem dX11_canBeNought_51 : decode cX11_canBeNought 51 = .ok (.getfield 28, 3) := by decide +kernel
theorem dX11_canBeNought_54 : decode cX11_canBeNought 54 = .ok (.aload_n 0, 1) := by decide +kernel
theorem dX11_canBeNought_55 : decode cX11_canBeNought 55 = .ok (.getfield 13, 3) := by decide +kernel
theorem dX11_canBeNought_58 : decode cX11_canBeNought 58 = .ok (.iload_n 1, 1) := by decide +kernel
theorem dX11_canBeNought_59 : decode cX11_canBeNought 59 = .ok (.iaload, 1) := by decide +kernel
theorem dX11_canBeNought_60 : decode cX11_canBeNought 60 = .ok (.baload, 1) := by decide +kernel
theorem dX11_canBeNought_61 : decode cX11_canBeNought 61 = .ok (.ifCond .eq 21, 3) := by decide +kernel
theorem dX11_canBeNought_64 : decode cX11_canBeNought 64 = .ok (.aload_n 0, 1) := by decide +kernel
theorem dX11_canBeNought_65 : decode cX11_canBeNought 65 = .ok (.getfield 28, 3) := by decide +kernel
theorem dX11_canBeNought_68 : decode cX11_canBeNought 68 = .ok (.aload_n 0, 1) := by decide +kernel
theorem dX11_canBeNought_69 : decode cX11_canBeNought 69 = .ok (.getfield 16, 3) := by decide +kernel
theorem dX11_canBeNought_72 : decode cX11_canBeNought 72 = .ok (.iload_n 1, 1) := by decide +kernel
theorem dX11_canBeNought_73 : decode cX11_canBeNought 73 = .ok (.iaload, 1) := by decide +kernel
theorem dX11_canBeNought_74 : decode cX11_canBeNought 74 = .ok (.baload, 1) := by decide +kernel
theorem dX11_canBeNought_75 : decode cX11_canBeNought 75 = .ok (.ifCond .eq 7, 3) := by decide +kernel
theorem dX11_canBeNought_78 : decode cX11_canBeNought 78 = .ok (.iconst 1, 1) := by decide +kernel
theorem dX11_canBeNought_79 : decode cX11_canBeNought 79 = .ok (.goto 4, 3) := by decide +kernel
theorem dX11_canBeNought_82 : decode cX11_canBeNought 82 = .ok (.iconst 0, 1) := by decide +kernel
theorem dX11_canBeNought_83 : decode cX11_canBeNought 83 = .ok (.ireturn, 1) := by decide +kernel
theorem dX11_canBeNought_84 : decode cX11_canBeNought 84 = .ok (.aload_n 0, 1) := by decide +kernel
theorem dX11_canBeNought_85 : decode cX11_canBeNought 85 = .ok (.getfield 28, 3) := by decide +kernel
theorem dX11_canBeNought_88 : decode cX11_canBeNought 88 = .ok (.aload_n 0, 1) := by decide +kernel
theorem dX11_canBeNought_89 : decode cX11_canBeNought 89 = .ok (.getfield 13, 3) := by decide +kernel
theorem dX11_canBeNought_92 : decode cX11_canBeNought 92 = .ok (.iload_n 1, 1) := by decide +kernel
theorem dX11_canBeNought_93 : decode cX11_canBeNought 93 = .ok (.iaload, 1) := by decide +kernel
theorem dX11_canBeNought_94 : decode cX11_canBeNought 94 = .ok (.baload, 1) := by decide +kernel
theorem dX11_canBeNought_95 : decode cX11_canBeNought 95 = .ok (.ifCond .ne 17, 3) := by decide +kernel
theorem dX11_canBeNought_98 : decode cX11_canBeNought 98 = .ok (.aload_n 0, 1) := by decide +kernel
theorem dX11_canBeNought_99 : decode cX11_canBeNought 99 = .ok (.getfield 28, 3) := by decide +kernel
theorem dX11_canBeNought_102 : decode cX11_canBeNought 102 = .ok (.aload_n 0, 1) := by decide +kernel
theorem dX11_canBeNought_103 : decode cX11_canBeNought 103 = .ok (.getfield 16, 3) := by decide +kernel
theorem dX11_canBeNought_106 : decode cX11_canBeNought 106 = .ok (.iload_n 1, 1) := by decide +kernel
theorem dX11_canBeNought_107 : decode cX11_canBeNought 107 = .ok (.iaload, 1) := by decide +kernel
theorem dX11_canBeNought_108 : decode cX11_canBeNought 108 = .ok (.baload, 1) := by decide +kernel
theorem dX11_canBeNought_109 : decode cX11_canBeNought 109 = .ok (.ifCond .eq 7, 3) := by decide +kernel
theorem dX11_canBeNought_112 : decode cX11_canBeNought 112 = .ok (.iconst 1, 1) := by decide +kernel
theorem dX11_canBeNought_113 : decode cX11_canBeNought 113 = .ok (.goto 4, 3) := by decide +kernel
theorem dX11_canBeNought_116 : decode cX11_canBeNought 116 = .ok (.iconst 0, 1) := by decide +kernel
theorem dX11_canBeNought_117 : decode cX11_canBeNought 117 = .ok (.ireturn, 1) := by decide +kernel
theorem dX11_canBeNought_118 : decode cX11_canBeNought 118 = .ok (.aload_n 0, 1) := by decide +kernel
theorem dX11_canBeNought_119 : decode cX11_canBeNought 119 = .ok (.getfield 16, 3) := by decide +kernel
theorem dX11_canBeNought_122 : decode cX11_canBeNought 122 = .ok (.iload_n 1, 1) := by decide +kernel
theorem dX11_canBeNought_123 : decode cX11_canBeNought 123 = .ok (.iaload, 1) := by decide +kernel
theorem dX11_canBeNought_124 : decode cX11_canBeNought 124 = .ok (.bipush 32, 2) := by decide +kernel
theorem dX11_canBeNought_126 : decode cX11_canBeNought 126 = .ok (.idiv, 1) := by decide +kernel
theorem dX11_canBeNought_127 : decode cX11_canBeNought 127 = .ok (.ifCond .ne 21, 3) := by decide +kernel
theorem dX11_canBeNought_130 : decode cX11_canBeNought 130 = .ok (.aload_n 0, 1) := by decide +kernel
theorem dX11_canBeNought_131 : decode cX11_canBeNought 131 = .ok (.getfield 28, 3) := by decide +kernel
theorem dX11_canBeNought_134 : decode cX11_canBeNought 134 = .ok (.aload_n 0, 1) := by decide +kernel
theorem dX11_canBeNought_135 : decode cX11_canBeNought 135 = .ok (.getfield 13, 3) := by decide +kernel
theorem dX11_canBeNought_138 : decode cX11_canBeNought 138 = .ok (.iload_n 1, 1) := by decide +kernel
theorem dX11_canBeNought_139 : decode cX11_canBeNought 139 = .ok (.iaload, 1) := by decide +kernel
theorem dX11_canBeNought_140 : decode cX11_canBeNought 140 = .ok (.baload, 1) := by decide +kernel
theorem dX11_canBeNought_141 : decode cX11_canBeNought 141 = .ok (.ifCond .eq 7, 3) := by decide +kernel
theorem dX11_canBeNought_144 : decode cX11_canBeNought 144 = .ok (.iconst 1, 1) := by decide +kernel
theorem dX11_canBeNought_145 : decode cX11_canBeNought 145 = .ok (.goto 4, 3) := by decide +kernel
theorem dX11_canBeNought_148 : decode cX11_canBeNought 148 = .ok (.iconst 0, 1) := by decide +kernel
theorem dX11_canBeNought_149 : decode cX11_canBeNought 149 = .ok (.ireturn, 1) := by decide +kernel
theorem dX11_canBeNought_150 : decode cX11_canBeNought 150 = .ok (.iconst 0, 1) := by decide +kernel
theorem dX11_canBeNought_151 : decode cX11_canBeNought 151 = .ok (.ireturn, 1) := by decide +kernel
theorem dX11_findNought_0 : decode cX11_findNought 0 = .ok (.iconst 0, 1) := by decide +kernel
theorem dX11_findNought_1 : decode cX11_findNought 1 = .ok (.istore_n 1, 1) := by decide +kernel
theorem dX11_findNought_2 : decode cX11_findNought 2 = .ok (.iload_n 1, 1) := by decide +kernel
theorem dX11_findNought_3 : decode cX11_findNought 3 = .ok (.bipush 16, 2) := by decide +kernel
theorem dX11_findNought_5 : decode cX11_findNought 5 = .ok (.if_icmp .ge 16, 3) := by decide +kernel
theorem dX11_findNought_8 : decode cX11_findNought 8 = .ok (.aload_n 0, 1) := by decide +kernel
theorem dX11_findNought_9 : decode cX11_findNought 9 = .ok (.getfield 28, 3) := by decide +kernel
theorem dX11_findNought_12 : decode cX11_findNought 12 = .ok (.iload_n 1, 1) := by decide +kernel
theorem dX11_findNought_13 : decode cX11_findNought 13 = .ok (.iconst 0, 1) := by decide +kernel
theorem dX11_findNought_14 : decode cX11_findNought 14 = .ok (.bastore, 1) := by decide +kernel
theorem dX11_findNought_15 : decode cX11_findNought 15 = .ok (.iinc 1 1, 3) := by decide +kernel
theorem dX11_findNought_18 : decode cX11_findNought 18 = .ok (.goto (-16), 3) := by decide +kernel
theorem dX11_findNought_21 : decode cX11_findNought 21 = .ok (.iconst 1, 1) := by decide +kernel
theorem dX11_findNought_22 : decode cX11_findNought 22 = .ok (.istore_n 1, 1) := by decide +kernel
theorem dX11_findNought_23 : decode cX11_findNought 23 = .ok (.iload_n 1, 1) := by decide +kernel
theorem dX11_findNought_24 : decode cX11_findNought 24 = .ok (.ifCond .eq 50, 3) := by decide +kernel
theorem dX11_findNought_27 : decode cX11_findNought 27 = .ok (.iconst 0, 1) := by decide +kernel
theorem dX11_findNought_28 : decode cX11_findNought 28 = .ok (.istore_n 1, 1) := by decide +kernel
theorem dX11_findNought_29 : decode cX11_findNought 29 = .ok (.iconst 0, 1) := by decide +kernel
theorem dX11_findNought_30 : decode cX11_findNought 30 = .ok (.istore_n 2, 1) := by decide +kernel
theorem dX11_findNought_31 : decode cX11_findNought 31 = .ok (.iload_n 2, 1) := by decide +kernel
theorem dX11_findNought_32 : decode cX11_findNought 32 = .ok (.aload_n 0, 1) := by decide +kernel
theorem dX11_findNought_33 : decode cX11_findNought 33 = .ok (.getfield 95, 3) := by decide +kernel
theorem dX11_findNought_36 : decode cX11_findNought 36 = .ok (.if_icmp .ge 35, 3) := by decide +kernel
theorem dX11_findNought_39 : decode cX11_findNought 39 = .ok (.aload_n 0, 1) := by decide +kernel
theorem dX11_findNought_40 : decode cX11_findNought 40 = .ok (.getfield 28, 3) := by decide +kernel
theorem dX11_findNought_43 : decode cX11_findNought 43 = .ok (.iload_n 2, 1) := by decide +kernel
theorem dX11_findNought_44 : decode cX11_findNought 44 = .ok (.baload, 1) := by decide +kernel
theorem dX11_findNought_45 : decode cX11_findNought 45 = .ok (.ifCond .ne 20, 3) := by decide +kernel
theorem dX11_findNought_48 : decode cX11_findNought 48 = .ok (.aload_n 0, 1) := by decide +kernel
theorem dX11_findNought_49 : decode cX11_findNought 49 = .ok (.iload_n 2, 1) := by decide +kernel
theorem dX11_findNought_50 : decode cX11_findNought 50 = .ok (.invokevirtual 126, 3) := by decide +kernel
theorem dX11_findNought_53 : decode cX11_findNought 53 = .ok (.ifCond .eq 12, 3) := by decide +kernel
theorem dX11_findNought_56 : decode cX11_findNought 56 = .ok (.aload_n 0, 1) := by decide +kernel
theorem dX11_findNought_57 : decode cX11_findNought 57 = .ok (.getfield 28, 3) := by decide +kernel
theorem dX11_findNought_60 : decode cX11_findNought 60 = .ok (.iload_n 2, 1) := by decide +kernel
theorem dX11_findNought_61 : decode cX11_findNought 61 = .ok (.iconst 1, 1) := by decide +kernel
theorem dX11_findNought_62 : decode cX11_findNought 62 = .ok (.bastore, 1) := by decide +kernel
theorem dX11_findNought_63 : decode cX11_findNought 63 = .ok (.iconst 1, 1) := by decide +kernel
theorem dX11_findNought_64 : decode cX11_findNought 64 = .ok (.istore_n 1, 1) := by decide +kernel
theorem dX11_findNought_65 : decode cX11_findNought 65 = .ok (.iinc 2 1, 3) := by decide +kernel
theorem dX11_findNought_68 : decode cX11_findNought 68 = .ok (.goto (-37), 3) := by decide +kernel
theorem dX11_findNought_71 : decode cX11_findNought 71 = .ok (.goto (-48), 3) := by decide +kernel
theorem dX11_findNought_74 : decode cX11_findNought 74 = .ok (.return_, 1) := by decide +kernel
theorem dX11_needsA_0 : decode cX11_needsA 0 = .ok (.aload_n 0, 1) := by decide +kernel
theorem dX11_needsA_1 : decode cX11_needsA 1 = .ok (.iload_n 1, 1) := by decide +kernel
theorem dX11_needsA_2 : decode cX11_needsA 2 = .ok (.invokevirtual 129, 3) := by decide +kernel
theorem dX11_needsA_5 : decode cX11_needsA 5 = .ok (.ifCond .eq 31, 3) := by decide +kernel
theorem dX11_needsA_8 : decode cX11_needsA 8 = .ok (.aload_n 0, 1) := by decide +kernel
theorem dX11_needsA_9 : decode cX11_needsA 9 = .ok (.getfield 7, 3) := by decide +kernel
theorem dX11_needsA_12 : decode cX11_needsA 12 = .ok (.iload_n 1, 1) := by decide +kernel
theorem dX11_needsA_13 : decode cX11_needsA 13 = .ok (.iaload, 1) := by decide +kernel
theorem dX11_needsA_14 : decode cX11_needsA 14 = .ok (.iconst 2, 1) := by decide +kernel
theorem dX11_needsA_15 : decode cX11_needsA 15 = .ok (.if_icmp .ne 17, 3) := by decide +kernel
theorem dX11_needsA_18 : decode cX11_needsA 18 = .ok (.aload_n 0, 1) := by decide +kernel
theorem dX11_needsA_19 : decode cX11_needsA 19 = .ok (.getfield 28, 3) := by decide +kernel
theorem dX11_needsA_22 : decode cX11_needsA 22 = .ok (.aload_n 0, 1) := by decide +kernel
theorem dX11_needsA_23 : decode cX11_needsA 23 = .ok (.getfield 16, 3) := by decide +kernel
theorem dX11_needsA_26 : decode cX11_needsA 26 = .ok (.iload_n 1, 1) := by decide +kernel
theorem dX11_needsA_27 : decode cX11_needsA 27 = .ok (.iaload, 1) := by decide +kernel
theorem dX11_needsA_28 : decode cX11_needsA 28 = .ok (.baload, 1) := by decide +kernel
theorem dX11_needsA_29 : decode cX11_needsA 29 = .ok (.ifCond .eq 7, 3) := by decide +kernel
theorem dX11_needsA_32 : decode cX11_needsA 32 = .ok (.iconst 1, 1) := by decide +kernel
theorem dX11_needsA_33 : decode cX11_needsA 33 = .ok (.goto 4, 3) := by decide +kernel
theorem dX11_needsA_36 : decode cX11_needsA 36 = .ok (.iconst 0, 1) := by decide +kernel
theorem dX11_needsA_37 : decode cX11_needsA 37 = .ok (.ireturn, 1) := by decide +kernel
theorem dX11_needsB_0 : decode cX11_needsB 0 = .ok (.aload_n 0, 1) := by decide +kernel
theorem dX11_needsB_1 : decode cX11_needsB 1 = .ok (.getfield 7, 3) := by decide +kernel
theorem dX11_needsB_4 : decode cX11_needsB 4 = .ok (.iload_n 1, 1) := by decide +kernel
theorem dX11_needsB_5 : decode cX11_needsB 5 = .ok (.iaload, 1) := by decide +kernel
theorem dX11_needsB_6 : decode cX11_needsB 6 = .ok (.iconst 3, 1) := by decide +kernel
theorem dX11_needsB_7 : decode cX11_needsB 7 = .ok (.if_icmp .eq 27, 3) := by decide +kernel
theorem dX11_needsB_10 : decode cX11_needsB 10 = .ok (.aload_n 0, 1) := by decide +kernel
theorem dX11_needsB_11 : decode cX11_needsB 11 = .ok (.getfield 7, 3) := by decide +kernel
theorem dX11_needsB_14 : decode cX11_needsB 14 = .ok (.iload_n 1, 1) := by decide +kernel
theorem dX11_needsB_15 : decode cX11_needsB 15 = .ok (.iaload, 1) := by decide +kernel
theorem dX11_needsB_16 : decode cX11_needsB 16 = .ok (.iconst 2, 1) := by decide +kernel
theorem dX11_needsB_17 : decode cX11_needsB 17 = .ok (.if_icmp .ne 21, 3) := by decide +kernel
theorem dX11_needsB_20 : decode cX11_needsB 20 = .ok (.aload_n 0, 1) := by decide +kernel
theorem dX11_needsB_21 : decode cX11_needsB 21 = .ok (.getfield 28, 3) := by decide +kernel
theorem dX11_needsB_24 : decode cX11_needsB 24 = .ok (.aload_n 0, 1) := by decide +kernel
theorem dX11_needsB_25 : decode cX11_needsB 25 = .ok (.getfield 13, 3) := by decide +kernel
theorem dX11_needsB_28 : decode cX11_needsB 28 = .ok (.iload_n 1, 1) := by decide +kernel
theorem dX11_needsB_29 : decode cX11_needsB 29 = .ok (.iaload, 1) := by decide +kernel
theorem dX11_needsB_30 : decode cX11_needsB 30 = .ok (.baload, 1) := by decide +kernel
theorem dX11_needsB_31 : decode cX11_needsB 31 = .ok (.ifCond .eq 7, 3) := by decide +kernel
theorem dX11_needsB_34 : decode cX11_needsB 34 = .ok (.iconst 1, 1) := by decide +kernel
theorem dX11_needsB_35 : decode cX11_needsB 35 = .ok (.goto 4, 3) := by decide +kernel
theorem dX11_needsB_38 : decode cX11_needsB 38 = .ok (.iconst 0, 1) := by decide +kernel
theorem dX11_needsB_39 : decode cX11_needsB 39 = .ok (.ireturn, 1) := by decide +kernel
theorem dX11_findNeeds_0 : decode cX11_findNeeds 0 = .ok (.iconst 0, 1) := by decide +kernel
theorem dX11_findNeeds_1 : decode cX11_findNeeds 1 = .ok (.istore_n 1, 1) := by decide +kernel
theorem dX11_findNeeds_2 : decode cX11_findNeeds 2 = .ok (.iload_n 1, 1) := by decide +kernel
theorem dX11_findNeeds_3 : decode cX11_findNeeds 3 = .ok (.aload_n 0, 1) := by decide +kernel
theorem dX11_findNeeds_4 : decode cX11_findNeeds 4 = .ok (.getfield 95, 3) := by decide +kernel
theorem dX11_findNeeds_7 : decode cX11_findNeeds 7 = .ok (.if_icmp .ge 77, 3) := by decide +kernel
theorem dX11_findNeeds_10 : decode cX11_findNeeds 10 = .ok (.iconst 0, 1) := by decide +kernel
theorem dX11_findNeeds_11 : decode cX11_findNeeds 11 = .ok (.istore_n 2, 1) := by decide +kernel
theorem dX11_findNeeds_12 : decode cX11_findNeeds 12 = .ok (.iload_n 2, 1) := by decide +kernel
theorem dX11_findNeeds_13 : decode cX11_findNeeds 13 = .ok (.aload_n 0, 1) := by decide +kernel
theorem dX11_findNeeds_14 : decode cX11_findNeeds 14 = .ok (.getfield 95, 3) := by decide +kernel
theorem dX11_findNeeds_17 : decode cX11_findNeeds 17 = .ok (.if_icmp .ge 61, 3) := by decide +kernel
theorem dX11_findNeeds_20 : decode cX11_findNeeds 20 = .ok (.aload_n 0, 1) := by decide +kernel
theorem dX11_findNeeds_21 : decode cX11_findNeeds 21 = .ok (.getfield 32, 3) := by decide +kernel
theorem dX11_findNeeds_24 : decode cX11_findNeeds 24 = .ok (.bipush 16, 2) := by decide +kernel
theorem dX11_findNeeds_26 : decode cX11_findNeeds 26 = .ok (.iload_n 1, 1) := by decide +kernel
theorem dX11_findNeeds_27 : decode cX11_findNeeds 27 = .ok (.imul, 1) := by decide +kernel
theorem dX11_findNeeds_28 : decode cX11_findNeeds 28 = .ok (.iload_n 2, 1) := by decide +kernel
theorem dX11_findNeeds_29 : decode cX11_findNeeds 29 = .ok (.iadd, 1) := by decide +kernel
theorem dX11_findNeeds_30 : decode cX11_findNeeds 30 = .ok (.aload_n 0, 1) := by decide +kernel
theorem dX11_findNeeds_31 : decode cX11_findNeeds 31 = .ok (.iload_n 1, 1) := by decide +kernel
theorem dX11_findNeeds_32 : decode cX11_findNeeds 32 = .ok (.invokevirtual 132, 3) := by decide +kernel
theorem dX11_findNeeds_35 : decode cX11_findNeeds 35 = .ok (.ifCond .eq 13, 3) := by decide +kernel
theorem dX11_findNeeds_38 : decode cX11_findNeeds 38 = .ok (.aload_n 0, 1) := by decide +kernel
theorem dX11_findNeeds_39 : decode cX11_findNeeds 39 = .ok (.getfield 13, 3) := by decide +kernel
theorem dX11_findNeeds_42 : decode cX11_findNeeds 42 = .ok (.iload_n 1, 1) := by decide +kernel
theorem dX11_findNeeds_43 : decode cX11_findNeeds 43 = .ok (.iaload, 1) := by decide +kernel
theorem dX11_findNeeds_44 : decode cX11_findNeeds 44 = .ok (.iload_n 2, 1) := by decide +kernel
theorem dX11_findNeeds_45 : decode cX11_findNeeds 45 = .ok (.if_icmp .eq 21, 3) := by decide +kernel
theorem dX11_findNeeds_48 : decode cX11_findNeeds 48 = .ok (.aload_n 0, 1) := by decide +kernel
theorem dX11_findNeeds_49 : decode cX11_findNeeds 49 = .ok (.iload_n 1, 1) := by decide +kernel
theorem dX11_findNeeds_50 : decode cX11_findNeeds 50 = .ok (.invokevirtual 135, 3) := by decide +kernel
theorem dX11_findNeeds_53 : decode cX11_findNeeds 53 = .ok (.ifCond .eq 17, 3) := by decide +kernel
theorem dX11_findNeeds_56 : decode cX11_findNeeds 56 = .ok (.aload_n 0, 1) := by decide +kernel
theorem dX11_findNeeds_57 : decode cX11_findNeeds 57 = .ok (.getfield 16, 3) := by decide +kernel
theorem dX11_findNeeds_60 : decode cX11_findNeeds 60 = .ok (.iload_n 1, 1) := by decide +kernel
theorem dX11_findNeeds_61 : decode cX11_findNeeds 61 = .ok (.iaload, 1) := by decide +kernel
theorem dX11_findNeeds_62 : decode cX11_findNeeds 62 = .ok (.iload_n 2, 1) := by decide +kernel
theorem dX11_findNeeds_63 : decode cX11_findNeeds 63 = .ok (.if_icmp .ne 7, 3) := by decide +kernel
theorem dX11_findNeeds_66 : decode cX11_findNeeds 66 = .ok (.iconst 1, 1) := by decide +kernel
theorem dX11_findNeeds_67 : decode cX11_findNeeds 67 = .ok (.goto 4, 3) := by decide +kernel
theorem dX11_findNeeds_70 : decode cX11_findNeeds 70 = .ok (.iconst 0, 1) := by decide +kernel
theorem dX11_findNeeds_71 : decode cX11_findNeeds 71 = .ok (.bastore, 1) := by decide +kernel
theorem dX11_findNeeds_72 : decode cX11_findNeeds 72 = .ok (.iinc 2 1, 3) := by decide +kernel
theorem dX11_findNeeds_75 : decode cX11_findNeeds 75 = .ok (.goto (-63), 3) := by decide +kernel
theorem dX11_findNeeds_78 : decode cX11_findNeeds 78 = .ok (.iinc 1 1, 3) := by decide +kernel
theorem dX11_findNeeds_81 : decode cX11_findNeeds 81 = .ok (.goto (-79), 3) := by decide +kernel
theorem dX11_findNeeds_84 : decode cX11_findNeeds 84 = .ok (.iconst 0, 1) := by decide +kernel
theorem dX11_findNeeds_85 : decode cX11_findNeeds 85 = .ok (.istore_n 1, 1) := by decide +kernel
theorem dX11_findNeeds_86 : decode cX11_findNeeds 86 = .ok (.iload_n 1, 1) := by decide +kernel
theorem dX11_findNeeds_87 : decode cX11_findNeeds 87 = .ok (.aload_n 0, 1) := by decide +kernel
theorem dX11_findNeeds_88 : decode cX11_findNeeds 88 = .ok (.getfield 95, 3) := by decide +kernel
theorem dX11_findNeeds_91 : decode cX11_findNeeds 91 = .ok (.if_icmp .ge 99, 3) := by decide +kernel
theorem dX11_findNeeds_94 : decode cX11_findNeeds 94 = .ok (.iconst 0, 1) := by decide +kernel
theorem dX11_findNeeds_95 : decode cX11_findNeeds 95 = .ok (.istore_n 2, 1) := by decide +kernel
theorem dX11_findNeeds_96 : decode cX11_findNeeds 96 = .ok (.iload_n 2, 1) := by decide +kernel
theorem dX11_findNeeds_97 : decode cX11_findNeeds 97 = .ok (.aload_n 0, 1) := by decide +kernel
theorem dX11_findNeeds_98 : decode cX11_findNeeds 98 = .ok (.getfield 95, 3) := by decide +kernel
theorem dX11_findNeeds_101 : decode cX11_findNeeds 101 = .ok (.if_icmp .ge 83, 3) := by decide +kernel
theorem dX11_findNeeds_104 : decode cX11_findNeeds 104 = .ok (.iconst 0, 1) := by decide +kernel
theorem dX11_findNeeds_105 : decode cX11_findNeeds 105 = .ok (.istore_n 3, 1) := by decide +kernel
theorem dX11_findNeeds_106 : decode cX11_findNeeds 106 = .ok (.iload_n 3, 1) := by decide +kernel
theorem dX11_findNeeds_107 : decode cX11_findNeeds 107 = .ok (.aload_n 0, 1) := by decide +kernel
theorem dX11_findNeeds_108 : decode cX11_findNeeds 108 = .ok (.getfield 95, 3) := by decide +kernel
theorem dX11_findNeeds_111 : decode cX11_findNeeds 111 = .ok (.if_icmp .ge 67, 3) := by decide +kernel
theorem dX11_findNeeds_114 : decode cX11_findNeeds 114 = .ok (.aload_n 0, 1) := by decide +kernel
theorem dX11_findNeeds_115 : decode cX11_findNeeds 115 = .ok (.getfield 32, 3) := by decide +kernel
theorem dX11_findNeeds_118 : decode cX11_findNeeds 118 = .ok (.bipush 16, 2) := by decide +kernel
theorem dX11_findNeeds_120 : decode cX11_findNeeds 120 = .ok (.iload_n 2, 1) := by decide +kernel
theorem dX11_findNeeds_121 : decode cX11_findNeeds 121 = .ok (.imul, 1) := by decide +kernel
theorem dX11_findNeeds_122 : decode cX11_findNeeds 122 = .ok (.iload_n 3, 1) := by decide +kernel
theorem dX11_findNeeds_123 : decode cX11_findNeeds 123 = .ok (.iadd, 1) := by decide +kernel
theorem dX11_findNeeds_124 : decode cX11_findNeeds 124 = .ok (.aload_n 0, 1) := by decide +kernel
theorem dX11_findNeeds_125 : decode cX11_findNeeds 125 = .ok (.getfield 32, 3) := by decide +kernel
theorem dX11_findNeeds_128 : decode cX11_findNeeds 128 = .ok (.bipush 16, 2) := by decide +kernel
theorem dX11_findNeeds_130 : decode cX11_findNeeds 130 = .ok (.iload_n 2, 1) := by decide +kernel
theorem dX11_findNeeds_131 : decode cX11_findNeeds 131 = .ok (.imul, 1) := by decide +kernel
theorem dX11_findNeeds_132 : decode cX11_findNeeds 132 = .ok (.iload_n 3, 1) := by decide +kernel
theorem dX11_findNeeds_133 : decode cX11_findNeeds 133 = .ok (.iadd, 1) := by decide +kernel
theorem dX11_findNeeds_134 : decode cX11_findNeeds 134 = .ok (.baload, 1) := by decide +kernel
theorem dX11_findNeeds_135 : decode cX11_findNeeds 135 = .ok (.ifCond .ne 31, 3) := by decide +kernel
theorem dX11_findNeeds_138 : decode cX11_findNeeds 138 = .ok (.aload_n 0, 1) := by decide +kernel
theorem dX11_findNeeds_139 : decode cX11_findNeeds 139 = .ok (.getfield 32, 3) := by decide +kernel
theorem dX11_findNeeds_142 : decode cX11_findNeeds 142 = .ok (.bipush 16, 2) := by decide +kernel
theorem dX11_findNeeds_144 : decode cX11_findNeeds 144 = .ok (.iload_n 2, 1) := by decide +kernel
theorem dX11_findNeeds_145 : decode cX11_findNeeds 145 = .ok (.imul, 1) := by decide +kernel
theorem dX11_findNeeds_146 : decode cX11_findNeeds 146 = .ok (.iload_n 1, 1) := by decide +kernel
theorem dX11_findNeeds_147 : decode cX11_findNeeds 147 = .ok (.iadd, 1) := by decide +kernel
theorem dX11_findNeeds_148 : decode cX11_findNeeds 148 = .ok (.baload, 1) := by decide +kernel
theorem dX11_findNeeds_149 : decode cX11_findNeeds 149 = .ok (.ifCond .eq 21, 3) := by decide +kernel
theorem dX11_findNeeds_152 : decode cX11_findNeeds 152 = .ok (.aload_n 0, 1) := by decide +kernel
theorem dX11_findNeeds_153 : decode cX11_findNeeds 153 = .ok (.getfield 32, 3) := by decide +kernel
theorem dX11_findNeeds_156 : decode cX11_findNeeds 156 = .ok (.bipush 16, 2) := by decide +kernel
theorem dX11_findNeeds_158 : decode cX11_findNeeds 158 = .ok (.iload_n 1, 1) := by decide +kernel
theorem dX11_findNeeds_159 : decode cX11_findNeeds 159 = .ok (.imul, 1) := by decide +kernel
theorem dX11_findNeeds_160 : decode cX11_findNeeds 160 = .ok (.iload_n 3, 1) := by decide +kernel
theorem dX11_findNeeds_161 : decode cX11_findNeeds 161 = .ok (.iadd, 1) := by decide +kernel
theorem dX11_findNeeds_162 : decode cX11_findNeeds 162 = .ok (.baload, 1) := by decide +kernel
theorem dX11_findNeeds_163 : decode cX11_findNeeds 163 = .ok (.ifCond .eq 7, 3) := by decide +kernel
theorem dX11_findNeeds_166 : decode cX11_findNeeds 166 = .ok (.iconst 1, 1) := by decide +kernel
theorem dX11_findNeeds_167 : decode cX11_findNeeds 167 = .ok (.goto 4, 3) := by decide +kernel
theorem dX11_findNeeds_170 : decode cX11_findNeeds 170 = .ok (.iconst 0, 1) := by decide +kernel
theorem dX11_findNeeds_171 : decode cX11_findNeeds 171 = .ok (.bastore, 1) := by decide +kernel
theorem dX11_findNeeds_172 : decode cX11_findNeeds 172 = .ok (.iinc 3 1, 3) := by decide +kernel
theorem dX11_findNeeds_175 : decode cX11_findNeeds 175 = .ok (.goto (-69), 3) := by decide +kernel
theorem dX11_findNeeds_178 : decode cX11_findNeeds 178 = .ok (.iinc 2 1, 3) := by decide +kernel
theorem dX11_findNeeds_181 : decode cX11_findNeeds 181 = .ok (.goto (-85), 3) := by decide +kernel
theorem dX11_findNeeds_184 : decode cX11_findNeeds 184 = .ok (.iinc 1 1, 3) := by decide +kernel
theorem dX11_findNeeds_187 : decode cX11_findNeeds 187 = .ok (.goto (-101), 3) := by decide +kernel
theorem dX11_findNeeds_190 : decode cX11_findNeeds 190 = .ok (.return_, 1) := by decide +kernel
theorem dX11_faulty_0 : decode cX11_faulty 0 = .ok (.iconst 0, 1) := by decide +kernel
theorem dX11_faulty_1 : decode cX11_faulty 1 = .ok (.istore_n 2, 1) := by decide +kernel
theorem dX11_faulty_2 : decode cX11_faulty 2 = .ok (.iload_n 2, 1) := by decide +kernel
theorem dX11_faulty_3 : decode cX11_faulty 3 = .ok (.aload_n 0, 1) := by decide +kernel
theorem dX11_faulty_4 : decode cX11_faulty 4 = .ok (.getfield 95, 3) := by decide +kernel
theorem dX11_faulty_7 : decode cX11_faulty 7 = .ok (.if_icmp .ge 128, 3) := by decide +kernel
theorem dX11_faulty_10 : decode cX11_faulty 10 = .ok (.iload_n 1, 1) := by decide +kernel
theorem dX11_faulty_11 : decode cX11_faulty 11 = .ok (.iconst 1, 1) := by decide +kernel
theorem dX11_faulty_12 : decode cX11_faulty 12 = .ok (.if_icmp .ne 53, 3) := by decide +kernel
theorem dX11_faulty_15 : decode cX11_faulty 15 = .ok (.aload_n 0, 1) := by decide +kernel
theorem dX11_faulty_16 : decode cX11_faulty 16 = .ok (.iload_n 2, 1) := by decide +kernel
theorem dX11_faulty_17 : decode cX11_faulty 17 = .ok (.invokevirtual 129, 3) := by decide +kernel
theorem dX11_faulty_20 : decode cX11_faulty 20 = .ok (.ifCond .eq 16, 3) := by decide +kernel
theorem dX11_faulty_23 : decode cX11_faulty 23 = .ok (.aload_n 0, 1) := by decide +kernel
theorem dX11_faulty_24 : decode cX11_faulty 24 = .ok (.getfield 13, 3) := by decide +kernel
theorem dX11_faulty_27 : decode cX11_faulty 27 = .ok (.iload_n 2, 1) := by decide +kernel
theorem dX11_faulty_28 : decode cX11_faulty 28 = .ok (.iaload, 1) := by decide +kernel
theorem dX11_faulty_29 : decode cX11_faulty 29 = .ok (.aload_n 0, 1) := by decide +kernel
theorem dX11_faulty_30 : decode cX11_faulty 30 = .ok (.getfield 95, 3) := by decide +kernel
theorem dX11_faulty_33 : decode cX11_faulty 33 = .ok (.if_icmp .ge 24, 3) := by decide +kernel
theorem dX11_faulty_36 : decode cX11_faulty 36 = .ok (.aload_n 0, 1) := by decide +kernel
theorem dX11_faulty_37 : decode cX11_faulty 37 = .ok (.iload_n 2, 1) := by decide +kernel
theorem dX11_faulty_38 : decode cX11_faulty 38 = .ok (.invokevirtual 138, 3) := by decide +kernel
theorem dX11_faulty_41 : decode cX11_faulty 41 = .ok (.ifCond .eq 20, 3) := by decide +kernel
theorem dX11_faulty_44 : decode cX11_faulty 44 = .ok (.aload_n 0, 1) := by decide +kernel
theorem dX11_faulty_45 : decode cX11_faulty 45 = .ok (.getfield 16, 3) := by decide +kernel
theorem dX11_faulty_48 : decode cX11_faulty 48 = .ok (.iload_n 2, 1) := by decide +kernel
theorem dX11_faulty_49 : decode cX11_faulty 49 = .ok (.iaload, 1) := by decide +kernel
theorem dX11_faulty_50 : decode cX11_faulty 50 = .ok (.aload_n 0, 1) := by decide +kernel
theorem dX11_faulty_51 : decode cX11_faulty 51 = .ok (.getfield 95, 3) := by decide +kernel
theorem dX11_faulty_54 : decode cX11_faulty 54 = .ok (.if_icmp .lt 7, 3) := by decide +kernel
theorem dX11_faulty_57 : decode cX11_faulty 57 = .ok (.iconst 1, 1) := by decide +kernel
theorem dX11_faulty_58 : decode cX11_faulty 58 = .ok (.goto 64, 3) := by decide +kernel
theorem dX11_faulty_61 : decode cX11_faulty 61 = .ok (.iconst 0, 1) := by decide +kernel
theorem dX11_faulty_62 : decode cX11_faulty 62 = .ok (.goto 60, 3) := by decide +kernel
theorem dX11_faulty_65 : decode cX11_faulty 65 = .ok (.iload_n 1, 1) := by decide +kernel
theorem dX11_faulty_66 : decode cX11_faulty 66 = .ok (.iconst 2, 1) := by decide +kernel
theorem dX11_faulty_67 : decode cX11_faulty 67 = .ok (.if_icmp .ne 44, 3) := by decide +kernel
theorem dX11_faulty_70 : decode cX11_faulty 70 = .ok (.aload_n 0, 1) := by decide +kernel
theorem dX11_faulty_71 : decode cX11_faulty 71 = .ok (.getfield 7, 3) := by decide +kernel
theorem dX11_faulty_74 : decode cX11_faulty 74 = .ok (.iload_n 2, 1) := by decide +kernel
theorem dX11_faulty_75 : decode cX11_faulty 75 = .ok (.iaload, 1) := by decide +kernel
theorem dX11_faulty_76 : decode cX11_faulty 76 = .ok (.i2l, 1) := by decide +kernel
theorem dX11_faulty_77 : decode cX11_faulty 77 = .ok (.ldc2_w 141, 3) := by decide +kernel
theorem dX11_faulty_80 : decode cX11_faulty 80 = .ok (.ldc2_w 143, 3) := by decide +kernel
theorem dX11_faulty_83 : decode cX11_faulty 83 = .ok (.invokestatic 81, 3) := by decide +kernel
theorem dX11_faulty_86 : decode cX11_faulty 86 = .ok (.ifCond .eq 21, 3) := by decide +kernel
theorem dX11_faulty_89 : decode cX11_faulty 89 = .ok (.aload_n 0, 1) := by decide +kernel
theorem dX11_faulty_90 : decode cX11_faulty 90 = .ok (.getfield 28, 3) := by decide +kernel
theorem dX11_faulty_93 : decode cX11_faulty 93 = .ok (.aload_n 0, 1) := by decide +kernel
theorem dX11_faulty_94 : decode cX11_faulty 94 = .ok (.getfield 13, 3) := by decide +kernel
theorem dX11_faulty_97 : decode cX11_faulty 97 = .ok (.iload_n 2, 1) := by decide +kernel
theorem dX11_faulty_98 : decode cX11_faulty 98 = .ok (.iaload, 1) := by decide +kernel
theorem dX11_faulty_99 : decode cX11_faulty 99 = .ok (.baload, 1) := by decide +kernel
theorem dX11_faulty_100 : decode cX11_faulty 100 = .ok (.ifCond .eq 7, 3) := by decide +kernel
theorem dX11_faulty_103 : decode cX11_faulty 103 = .ok (.iconst 1, 1) := by decide +kernel
theorem dX11_faulty_104 : decode cX11_faulty 104 = .ok (.goto 18, 3) := by decide +kernel
theorem dX11_faulty_107 : decode cX11_faulty 107 = .ok (.iconst 0, 1) := by decide +kernel
theorem dX11_faulty_108 : decode cX11_faulty 108 = .ok (.goto 14, 3) := by decide +kernel
theorem dX11_faulty_111 : decode cX11_faulty 111 = .ok (.aload_n 0, 1) := by decide +kernel
theorem dX11_faulty_112 : decode cX11_faulty 112 = .ok (.getfield 32, 3) := by decide +kernel
theorem dX11_faulty_115 : decode cX11_faulty 115 = .ok (.bipush 16, 2) := by decide +kernel
theorem dX11_faulty_117 : decode cX11_faulty 117 = .ok (.iload_n 2, 1) := by decide +kernel
theorem dX11_faulty_118 : decode cX11_faulty 118 = .ok (.imul, 1) := by decide +kernel
theorem dX11_faulty_119 : decode cX11_faulty 119 = .ok (.iload_n 2, 1) := by decide +kernel
theorem dX11_faulty_120 : decode cX11_faulty 120 = .ok (.iadd, 1) := by decide +kernel
theorem dX11_faulty_121 : decode cX11_faulty 121 = .ok (.baload, 1) := by decide +kernel
theorem dX11_faulty_122 : decode cX11_faulty 122 = .ok (.istore_n 3, 1) := by decide +kernel
theorem dX11_faulty_123 : decode cX11_faulty 123 = .ok (.iload_n 3, 1) := by decide +kernel
theorem dX11_faulty_124 : decode cX11_faulty 124 = .ok (.ifCond .eq 5, 3) := by decide +kernel
theorem dX11_faulty_127 : decode cX11_faulty 127 = .ok (.iload_n 2, 1) := by decide +kernel
theorem dX11_faulty_128 : decode cX11_faulty 128 = .ok (.ireturn, 1) := by decide +kernel
theorem dX11_faulty_129 : decode cX11_faulty 129 = .ok (.iinc 2 1, 3) := by decide +kernel
theorem dX11_faulty_132 : decode cX11_faulty 132 = .ok (.goto (-130), 3) := by decide +kernel
theorem dX11_faulty_135 : decode cX11_faulty 135 = .ok (.iconst (-1), 1) := by decide +kernel
theorem dX11_faulty_136 : decode cX11_faulty 136 = .ok (.ireturn, 1) := by decide +kernel
theorem dX11_ready_0 : decode cX11_ready 0 = .ok (.aload_n 0, 1) := by decide +kernel
theorem dX11_ready_1 : decode cX11_ready 1 = .ok (.iconst 0, 1) := by decide +kernel
theorem dX11_ready_2 : decode cX11_ready 2 = .ok (.putfield 98, 3) := by decide +kernel
theorem dX11_ready_5 : decode cX11_ready 5 = .ok (.aload_n 0, 1) := by decide +kernel
theorem dX11_ready_6 : decode cX11_ready 6 = .ok (.iconst 1, 1) := by decide +kernel
theorem dX11_ready_7 : decode cX11_ready 7 = .ok (.invokevirtual 145, 3) := by decide +kernel
theorem dX11_ready_10 : decode cX11_ready 10 = .ok (.ifCond .lt 13, 3) := by decide +kernel
theorem dX11_ready_13 : decode cX11_ready 13 = .ok (.bipush 16, 2) := by decide +kernel
theorem dX11_ready_15 : decode cX11_ready 15 = .ok (.aload_n 0, 1) := by decide +kernel
theorem dX11_ready_16 : decode cX11_ready 16 = .ok (.iconst 1, 1) := by decide +kernel
theorem dX11_ready_17 : decode cX11_ready 17 = .ok (.invokevirtual 145, 3) := by decide +kernel
theorem dX11_ready_20 : decode cX11_ready 20 = .ok (.iadd, 1) := by decide +kernel
theorem dX11_ready_21 : decode cX11_ready 21 = .ok (.i2l, 1) := by decide +kernel
theorem dX11_ready_22 : decode cX11_ready 22 = .ok (.lreturn, 1) := by decide +kernel
theorem dX11_ready_23 : decode cX11_ready 23 = .ok (.aload_n 0, 1) := by decide +kernel
theorem dX11_ready_24 : decode cX11_ready 24 = .ok (.invokevirtual 149, 3) := by decide +kernel
theorem dX11_ready_27 : decode cX11_ready 27 = .ok (.aload_n 0, 1) := by decide +kernel
theorem dX11_ready_28 : decode cX11_ready 28 = .ok (.iconst 2, 1) := by decide +kernel
theorem dX11_ready_29 : decode cX11_ready 29 = .ok (.invokevirtual 145, 3) := by decide +kernel
theorem dX11_ready_32 : decode cX11_ready 32 = .ok (.ifCond .lt 13, 3) := by decide +kernel
theorem dX11_ready_35 : decode cX11_ready 35 = .ok (.bipush 32, 2) := by decide +kernel
theorem dX11_ready_37 : decode cX11_ready 37 = .ok (.aload_n 0, 1) := by decide +kernel
theorem dX11_ready_38 : decode cX11_ready 38 = .ok (.iconst 2, 1) := by decide +kernel
theorem dX11_ready_39 : decode cX11_ready 39 = .ok (.invokevirtual 145, 3) := by decide +kernel
theorem dX11_ready_42 : decode cX11_ready 42 = .ok (.iadd, 1) := by decide +kernel
theorem dX11_ready_43 : decode cX11_ready 43 = .ok (.i2l, 1) := by decide +kernel
theorem dX11_ready_44 : decode cX11_ready 44 = .ok (.lreturn, 1) := by decide +kernel
theorem dX11_ready_45 : decode cX11_ready 45 = .ok (.aload_n 0, 1) := by decide +kernel
theorem dX11_ready_46 : decode cX11_ready 46 = .ok (.invokevirtual 152, 3) := by decide +kernel
theorem dX11_ready_49 : decode cX11_ready 49 = .ok (.aload_n 0, 1) := by decide +kernel
theorem dX11_ready_50 : decode cX11_ready 50 = .ok (.iconst 3, 1) := by decide +kernel
theorem dX11_ready_51 : decode cX11_ready 51 = .ok (.invokevirtual 145, 3) := by decide +kernel
theorem dX11_ready_54 : decode cX11_ready 54 = .ok (.ifCond .lt 13, 3) := by decide +kernel
theorem dX11_ready_57 : decode cX11_ready 57 = .ok (.bipush 48, 2) := by decide +kernel
theorem dX11_ready_59 : decode cX11_ready 59 = .ok (.aload_n 0, 1) := by decide +kernel
theorem dX11_ready_60 : decode cX11_ready 60 = .ok (.iconst 3, 1) := by decide +kernel
theorem dX11_ready_61 : decode cX11_ready 61 = .ok (.invokevirtual 145, 3) := by decide +kernel
theorem dX11_ready_64 : decode cX11_ready 64 = .ok (.iadd, 1) := by decide +kernel
theorem dX11_ready_65 : decode cX11_ready 65 = .ok (.i2l, 1) := by decide +kernel
theorem dX11_ready_66 : decode cX11_ready 66 = .ok (.lreturn, 1) := by decide +kernel
theorem dX11_ready_67 : decode cX11_ready 67 = .ok (.aload_n 0, 1) := by decide +kernel
theorem dX11_ready_68 : decode cX11_ready 68 = .ok (.iconst 1, 1) := by decide +kernel
theorem dX11_ready_69 : decode cX11_ready 69 = .ok (.putfield 98, 3) := by decide +kernel
theorem dX11_ready_72 : decode cX11_ready 72 = .ok (.aload_n 0, 1) := by decide +kernel
theorem dX11_ready_73 : decode cX11_ready 73 = .ok (.invokevirtual 155, 3) := by decide +kernel
theorem dX11_ready_76 : decode cX11_ready 76 = .ok (.lconst 0, 1) := by decide +kernel
theorem dX11_ready_77 : decode cX11_ready 77 = .ok (.lreturn, 1) := by decide +kernel
theorem dX11_plus_0 : decode cX11_plus 0 = .ok (.lload_n 0, 1) := by decide +kernel
theorem dX11_plus_1 : decode cX11_plus 1 = .ok (.lload_n 2, 1) := by decide +kernel
theorem dX11_plus_2 : decode cX11_plus 2 = .ok (.ladd, 1) := by decide +kernel
theorem dX11_plus_3 : decode cX11_plus 3 = .ok (.ldc2_w 158, 3) := by decide +kernel
theorem dX11_plus_6 : decode cX11_plus 6 = .ok (.lcmp, 1) := by decide +kernel
theorem dX11_plus_7 : decode cX11_plus 7 = .ok (.ifCond .ge 9, 3) := by decide +kernel
theorem dX11_plus_10 : decode cX11_plus 10 = .ok (.lload_n 0, 1) := by decide +kernel
theorem dX11_plus_11 : decode cX11_plus 11 = .ok (.lload_n 2, 1) := by decide +kernel
theorem dX11_plus_12 : decode cX11_plus 12 = .ok (.ladd, 1) := by decide +kernel
theorem dX11_plus_13 : decode cX11_plus 13 = .ok (.goto 6, 3) := by decide +kernel
theorem dX11_plus_16 : decode cX11_plus 16 = .ok (.ldc2_w 158, 3) := by decide +kernel
theorem dX11_plus_19 : decode cX11_plus 19 = .ok (.lreturn, 1) := by decide +kernel
theorem dX11_times_0 : decode cX11_times 0 = .ok (.lload_n 0, 1) := by decide +kernel
theorem dX11_times_1 : decode cX11_times 1 = .ok (.lconst 0, 1) := by decide +kernel
theorem dX11_times_2 : decode cX11_times 2 = .ok (.lcmp, 1) := by decide +kernel
theorem dX11_times_3 : decode cX11_times 3 = .ok (.ifCond .eq 9, 3) := by decide +kernel
theorem dX11_times_6 : decode cX11_times 6 = .ok (.lload_n 2, 1) := by decide +kernel
theorem dX11_times_7 : decode cX11_times 7 = .ok (.lconst 0, 1) := by decide +kernel
theorem dX11_times_8 : decode cX11_times 8 = .ok (.lcmp, 1) := by decide +kernel
theorem dX11_times_9 : decode cX11_times 9 = .ok (.ifCond .ne 7, 3) := by decide +kernel
theorem dX11_times_12 : decode cX11_times 12 = .ok (.lconst 0, 1) := by decide +kernel
theorem dX11_times_13 : decode cX11_times 13 = .ok (.goto 22, 3) := by decide +kernel
theorem dX11_times_16 : decode cX11_times 16 = .ok (.lload_n 0, 1) := by decide +kernel
theorem dX11_times_17 : decode cX11_times 17 = .ok (.ldc2_w 160, 3) := by decide +kernel
theorem dX11_times_20 : decode cX11_times 20 = .ok (.lload_n 2, 1) := by decide +kernel
theorem dX11_times_21 : decode cX11_times 21 = .ok (.ldiv, 1) := by decide +kernel
theorem dX11_times_22 : decode cX11_times 22 = .ok (.lcmp, 1) := by decide +kernel
theorem dX11_times_23 : decode cX11_times 23 = .ok (.ifCond .le 9, 3) := by decide +kernel
theorem dX11_times_26 : decode cX11_times 26 = .ok (.ldc2_w 158, 3) := by decide +kernel
theorem dX11_times_29 : decode cX11_times 29 = .ok (.goto 6, 3) := by decide +kernel
theorem dX11_times_32 : decode cX11_times 32 = .ok (.lload_n 0, 1) := by decide +kernel
theorem dX11_times_33 : decode cX11_times 33 = .ok (.lload_n 2, 1) := by decide +kernel
theorem dX11_times_34 : decode cX11_times 34 = .ok (.lmul, 1) := by decide +kernel
theorem dX11_times_35 : decode cX11_times 35 = .ok (.lreturn, 1) := by decide +kernel
theorem dX11_common_0 : decode cX11_common 0 = .ok (.lload_n 0, 1) := by decide +kernel
theorem dX11_common_1 : decode cX11_common 1 = .ok (.lstore 4, 2) := by decide +kernel
theorem dX11_common_3 : decode cX11_common 3 = .ok (.lload_n 2, 1) := by decide +kernel
theorem dX11_common_4 : decode cX11_common 4 = .ok (.lstore 6, 2) := by decide +kernel
theorem dX11_common_6 : decode cX11_common 6 = .ok (.lload 6, 2) := by decide +kernel
theorem dX11_common_8 : decode cX11_common 8 = .ok (.lconst 0, 1) := by decide +kernel
theorem dX11_common_9 : decode cX11_common 9 = .ok (.lcmp, 1) := by decide +kernel
theorem dX11_common_10 : decode cX11_common 10 = .ok (.ifCond .eq 21, 3) := by decide +kernel
theorem dX11_common_13 : decode cX11_common 13 = .ok (.lload 4, 2) := by decide +kernel
theorem dX11_common_15 : decode cX11_common 15 = .ok (.lload 6, 2) := by decide +kernel
theorem dX11_common_17 : decode cX11_common 17 = .ok (.lrem, 1) := by decide +kernel
theorem dX11_common_18 : decode cX11_common 18 = .ok (.lstore 8, 2) := by decide +kernel
theorem dX11_common_20 : decode cX11_common 20 = .ok (.lload 6, 2) := by decide +kernel
theorem dX11_common_22 : decode cX11_common 22 = .ok (.lstore 4, 2) := by decide +kernel
theorem dX11_common_24 : decode cX11_common 24 = .ok (.lload 8, 2) := by decide +kernel
theorem dX11_common_26 : decode cX11_common 26 = .ok (.lstore 6, 2) := by decide +kernel
theorem dX11_common_28 : decode cX11_common 28 = .ok (.goto (-22), 3) := by decide +kernel
theorem dX11_common_31 : decode cX11_common 31 = .ok (.lload 4, 2) := by decide +kernel
theorem dX11_common_33 : decode cX11_common 33 = .ok (.lreturn, 1) := by decide +kernel
theorem dX11_ways_0 : decode cX11_ways 0 = .ok (.lconst 1, 1) := by decide +kernel
theorem dX11_ways_1 : decode cX11_ways 1 = .ok (.lstore 4, 2) := by decide +kernel
theorem dX11_ways_3 : decode cX11_ways 3 = .ok (.iconst 0, 1) := by decide +kernel
theorem dX11_ways_4 : decode cX11_ways 4 = .ok (.istore 6, 2) := by decide +kernel
theorem dX11_ways_6 : decode cX11_ways 6 = .ok (.iload 6, 2) := by decide +kernel
theorem dX11_ways_8 : decode cX11_ways 8 = .ok (.iload_n 2, 1) := by decide +kernel
theorem dX11_ways_9 : decode cX11_ways 9 = .ok (.if_icmp .ge 83, 3) := by decide +kernel
theorem dX11_ways_12 : decode cX11_ways 12 = .ok (.iload_n 3, 1) := by decide +kernel
theorem dX11_ways_13 : decode cX11_ways 13 = .ok (.ifCond .eq 11, 3) := by decide +kernel
theorem dX11_ways_16 : decode cX11_ways 16 = .ok (.lload_n 0, 1) := by decide +kernel
theorem dX11_ways_17 : decode cX11_ways 17 = .ok (.iload 6, 2) := by decide +kernel
theorem dX11_ways_19 : decode cX11_ways 19 = .ok (.i2l, 1) := by decide +kernel
theorem dX11_ways_20 : decode cX11_ways 20 = .ok (.lsub, 1) := by decide +kernel
theorem dX11_ways_21 : decode cX11_ways 21 = .ok (.goto 8, 3) := by decide +kernel
theorem dX11_ways_24 : decode cX11_ways 24 = .ok (.lload_n 0, 1) := by decide +kernel
theorem dX11_ways_25 : decode cX11_ways 25 = .ok (.iload 6, 2) := by decide +kernel
theorem dX11_ways_27 : decode cX11_ways 27 = .ok (.i2l, 1) := by decide +kernel
theorem dX11_ways_28 : decode cX11_ways 28 = .ok (.ladd, 1) := by decide +kernel
theorem dX11_ways_29 : decode cX11_ways 29 = .ok (.lstore 7, 2) := by decide +kernel
theorem dX11_ways_31 : decode cX11_ways 31 = .ok (.lload 7, 2) := by decide +kernel
theorem dX11_ways_33 : decode cX11_ways 33 = .ok (.lconst 0, 1) := by decide +kernel
theorem dX11_ways_34 : decode cX11_ways 34 = .ok (.lcmp, 1) := by decide +kernel
theorem dX11_ways_35 : decode cX11_ways 35 = .ok (.ifCond .gt 5, 3) := by decide +kernel
theorem dX11_ways_38 : decode cX11_ways 38 = .ok (.lconst 0, 1) := by decide +kernel
theorem dX11_ways_39 : decode cX11_ways 39 = .ok (.lreturn, 1) := by decide +kernel
theorem dX11_ways_40 : decode cX11_ways 40 = .ok (.lload 4, 2) := by decide +kernel
theorem dX11_ways_42 : decode cX11_ways 42 = .ok (.iload 6, 2) := by decide +kernel
theorem dX11_ways_44 : decode cX11_ways 44 = .ok (.iconst 1, 1) := by decide +kernel
theorem dX11_ways_45 : decode cX11_ways 45 = .ok (.iadd, 1) := by decide +kernel
theorem dX11_ways_46 : decode cX11_ways 46 = .ok (.i2l, 1) := by decide +kernel
theorem dX11_ways_47 : decode cX11_ways 47 = .ok (.invokestatic 162, 3) := by decide +kernel
theorem dX11_ways_50 : decode cX11_ways 50 = .ok (.lstore 9, 2) := by decide +kernel
theorem dX11_ways_52 : decode cX11_ways 52 = .ok (.lload 4, 2) := by decide +kernel
theorem dX11_ways_54 : decode cX11_ways 54 = .ok (.lload 9, 2) := by decide +kernel
theorem dX11_ways_56 : decode cX11_ways 56 = .ok (.ldiv, 1) := by decide +kernel
theorem dX11_ways_57 : decode cX11_ways 57 = .ok (.lload 7, 2) := by decide +kernel
theorem dX11_ways_59 : decode cX11_ways 59 = .ok (.iload 6, 2) := by decide +kernel
theorem dX11_ways_61 : decode cX11_ways 61 = .ok (.iconst 1, 1) := by decide +kernel
theorem dX11_ways_62 : decode cX11_ways 62 = .ok (.iadd, 1) := by decide +kernel
theorem dX11_ways_63 : decode cX11_ways 63 = .ok (.i2l, 1) := by decide +kernel
theorem dX11_ways_64 : decode cX11_ways 64 = .ok (.lload 9, 2) := by decide +kernel
theorem dX11_ways_66 : decode cX11_ways 66 = .ok (.ldiv, 1) := by decide +kernel
theorem dX11_ways_67 : decode cX11_ways 67 = .ok (.ldiv, 1) := by decide +kernel
theorem dX11_ways_68 : decode cX11_ways 68 = .ok (.invokestatic 166, 3) := by decide +kernel
theorem dX11_ways_71 : decode cX11_ways 71 = .ok (.lstore 4, 2) := by decide +kernel
theorem dX11_ways_73 : decode cX11_ways 73 = .ok (.lload 4, 2) := by decide +kernel
theorem dX11_ways_75 : decode cX11_ways 75 = .ok (.ldc2_w 158, 3) := by decide +kernel
theorem dX11_ways_78 : decode cX11_ways 78 = .ok (.lcmp, 1) := by decide +kernel
theorem dX11_ways_79 : decode cX11_ways 79 = .ok (.ifCond .ne 7, 3) := by decide +kernel
theorem dX11_ways_82 : decode cX11_ways 82 = .ok (.ldc2_w 158, 3) := by decide +kernel
theorem dX11_ways_85 : decode cX11_ways 85 = .ok (.lreturn, 1) := by decide +kernel
theorem dX11_ways_86 : decode cX11_ways 86 = .ok (.iinc 6 1, 3) := by decide +kernel
theorem dX11_ways_89 : decode cX11_ways 89 = .ok (.goto (-83), 3) := by decide +kernel
theorem dX11_ways_92 : decode cX11_ways 92 = .ok (.lload 4, 2) := by decide +kernel
theorem dX11_ways_94 : decode cX11_ways 94 = .ok (.lreturn, 1) := by decide +kernel
theorem dX11_countOf_0 : decode cX11_countOf 0 = .ok (.aload_n 0, 1) := by decide +kernel
theorem dX11_countOf_1 : decode cX11_countOf 1 = .ok (.getfield 35, 3) := by decide +kernel
theorem dX11_countOf_4 : decode cX11_countOf 4 = .ok (.bipush 25, 2) := by decide +kernel
theorem dX11_countOf_6 : decode cX11_countOf 6 = .ok (.iload_n 1, 1) := by decide +kernel
theorem dX11_countOf_7 : decode cX11_countOf 7 = .ok (.imul, 1) := by decide +kernel
theorem dX11_countOf_8 : decode cX11_countOf 8 = .ok (.iload_n 2, 1) := by decide +kernel
theorem dX11_countOf_9 : decode cX11_countOf 9 = .ok (.iadd, 1) := by decide +kernel
theorem dX11_countOf_10 : decode cX11_countOf 10 = .ok (.laload, 1) := by decide +kernel
theorem dX11_countOf_11 : decode cX11_countOf 11 = .ok (.lreturn, 1) := by decide +kernel
theorem dX11_upToOf_0 : decode cX11_upToOf 0 = .ok (.aload_n 0, 1) := by decide +kernel
theorem dX11_upToOf_1 : decode cX11_upToOf 1 = .ok (.getfield 39, 3) := by decide +kernel
theorem dX11_upToOf_4 : decode cX11_upToOf 4 = .ok (.bipush 25, 2) := by decide +kernel
theorem dX11_upToOf_6 : decode cX11_upToOf 6 = .ok (.bipush 25, 2) := by decide +kernel
theorem dX11_upToOf_8 : decode cX11_upToOf 8 = .ok (.iload_n 1, 1) := by decide +kernel
theorem dX11_upToOf_9 : decode cX11_upToOf 9 = .ok (.imul, 1) := by decide +kernel
theorem dX11_upToOf_10 : decode cX11_upToOf 10 = .ok (.iload_n 2, 1) := by decide +kernel
theorem dX11_upToOf_11 : decode cX11_upToOf 11 = .ok (.iadd, 1) := by decide +kernel
theorem dX11_upToOf_12 : decode cX11_upToOf 12 = .ok (.imul, 1) := by decide +kernel
theorem dX11_upToOf_13 : decode cX11_upToOf 13 = .ok (.iload_n 3, 1) := by decide +kernel
theorem dX11_upToOf_14 : decode cX11_upToOf 14 = .ok (.iadd, 1) := by decide +kernel
theorem dX11_upToOf_15 : decode cX11_upToOf 15 = .ok (.laload, 1) := by decide +kernel
theorem dX11_upToOf_16 : decode cX11_upToOf 16 = .ok (.lreturn, 1) := by decide +kernel
theorem dX11_waysBelow_0 : decode cX11_waysBelow 0 = .ok (.lconst 0, 1) := by decide +kernel
theorem dX11_waysBelow_1 : decode cX11_waysBelow 1 = .ok (.lstore 6, 2) := by decide +kernel
theorem dX11_waysBelow_3 : decode cX11_waysBelow 3 = .ok (.iconst 0, 1) := by decide +kernel
theorem dX11_waysBelow_4 : decode cX11_waysBelow 4 = .ok (.istore 8, 2) := by decide +kernel
theorem dX11_waysBelow_6 : decode cX11_waysBelow 6 = .ok (.iload 8, 2) := by decide +kernel
theorem dX11_waysBelow_8 : decode cX11_waysBelow 8 = .ok (.iload_n 3, 1) := by decide +kernel
theorem dX11_waysBelow_9 : decode cX11_waysBelow 9 = .ok (.imul, 1) := by decide +kernel
theorem dX11_waysBelow_10 : decode cX11_waysBelow 10 = .ok (.iload_n 2, 1) := by decide +kernel
theorem dX11_waysBelow_11 : decode cX11_waysBelow 11 = .ok (.if_icmp .gt 56, 3) := by decide +kernel
theorem dX11_waysBelow_14 : decode cX11_waysBelow 14 = .ok (.lload 6, 2) := by decide +kernel
theorem dX11_waysBelow_16 : decode cX11_waysBelow 16 = .ok (.lload 4, 2) := by decide +kernel
theorem dX11_waysBelow_18 : decode cX11_waysBelow 18 = .ok (.iload 8, 2) := by decide +kernel
theorem dX11_waysBelow_20 : decode cX11_waysBelow 20 = .ok (.aload_n 0, 1) := by decide +kernel
theorem dX11_waysBelow_21 : decode cX11_waysBelow 21 = .ok (.getfield 7, 3) := by decide +kernel
theorem dX11_waysBelow_24 : decode cX11_waysBelow 24 = .ok (.iload_n 1, 1) := by decide +kernel
theorem dX11_waysBelow_25 : decode cX11_waysBelow 25 = .ok (.iaload, 1) := by decide +kernel
theorem dX11_waysBelow_26 : decode cX11_waysBelow 26 = .ok (.bipush 6, 2) := by decide +kernel
theorem dX11_waysBelow_28 : decode cX11_waysBelow 28 = .ok (.if_icmp .ne 7, 3) := by decide +kernel
theorem dX11_waysBelow_31 : decode cX11_waysBelow 31 = .ok (.iconst 1, 1) := by decide +kernel
theorem dX11_waysBelow_32 : decode cX11_waysBelow 32 = .ok (.goto 4, 3) := by decide +kernel
theorem dX11_waysBelow_35 : decode cX11_waysBelow 35 = .ok (.iconst 0, 1) := by decide +kernel
theorem dX11_waysBelow_36 : decode cX11_waysBelow 36 = .ok (.invokestatic 169, 3) := by decide +kernel
theorem dX11_waysBelow_39 : decode cX11_waysBelow 39 = .ok (.aload_n 0, 1) := by decide +kernel
theorem dX11_waysBelow_40 : decode cX11_waysBelow 40 = .ok (.iload_n 1, 1) := by decide +kernel
theorem dX11_waysBelow_41 : decode cX11_waysBelow 41 = .ok (.iload_n 2, 1) := by decide +kernel
theorem dX11_waysBelow_42 : decode cX11_waysBelow 42 = .ok (.iload 8, 2) := by decide +kernel
theorem dX11_waysBelow_44 : decode cX11_waysBelow 44 = .ok (.iload_n 3, 1) := by decide +kernel
theorem dX11_waysBelow_45 : decode cX11_waysBelow 45 = .ok (.imul, 1) := by decide +kernel
theorem dX11_waysBelow_46 : decode cX11_waysBelow 46 = .ok (.isub, 1) := by decide +kernel
theorem dX11_waysBelow_47 : decode cX11_waysBelow 47 = .ok (.iload_n 3, 1) := by decide +kernel
theorem dX11_waysBelow_48 : decode cX11_waysBelow 48 = .ok (.iconst 1, 1) := by decide +kernel
theorem dX11_waysBelow_49 : decode cX11_waysBelow 49 = .ok (.isub, 1) := by decide +kernel
theorem dX11_waysBelow_50 : decode cX11_waysBelow 50 = .ok (.invokevirtual 173, 3) := by decide +kernel
theorem dX11_waysBelow_53 : decode cX11_waysBelow 53 = .ok (.invokestatic 166, 3) := by decide +kernel
theorem dX11_waysBelow_56 : decode cX11_waysBelow 56 = .ok (.invokestatic 177, 3) := by decide +kernel
theorem dX11_waysBelow_59 : decode cX11_waysBelow 59 = .ok (.lstore 6, 2) := by decide +kernel
theorem dX11_waysBelow_61 : decode cX11_waysBelow 61 = .ok (.iinc 8 1, 3) := by decide +kernel
theorem dX11_waysBelow_64 : decode cX11_waysBelow 64 = .ok (.goto (-58), 3) := by decide +kernel
theorem dX11_waysBelow_67 : decode cX11_waysBelow 67 = .ok (.lload 6, 2) := by decide +kernel
theorem dX11_waysBelow_69 : decode cX11_waysBelow 69 = .ok (.lreturn, 1) := by decide +kernel
theorem dX11_countSets_0 : decode cX11_countSets 0 = .ok (.bipush 25, 2) := by decide +kernel
theorem dX11_countSets_2 : decode cX11_countSets 2 = .ok (.bipush 25, 2) := by decide +kernel
theorem dX11_countSets_4 : decode cX11_countSets 4 = .ok (.iload_n 1, 1) := by decide +kernel
theorem dX11_countSets_5 : decode cX11_countSets 5 = .ok (.imul, 1) := by decide +kernel
theorem dX11_countSets_6 : decode cX11_countSets 6 = .ok (.iload_n 2, 1) := by decide +kernel
theorem dX11_countSets_7 : decode cX11_countSets 7 = .ok (.iadd, 1) := by decide +kernel
theorem dX11_countSets_8 : decode cX11_countSets 8 = .ok (.imul, 1) := by decide +kernel
theorem dX11_countSets_9 : decode cX11_countSets 9 = .ok (.istore_n 3, 1) := by decide +kernel
theorem dX11_countSets_10 : decode cX11_countSets 10 = .ok (.aload_n 0, 1) := by decide +kernel
theorem dX11_countSets_11 : decode cX11_countSets 11 = .ok (.getfield 39, 3) := by decide +kernel
theorem dX11_countSets_14 : decode cX11_countSets 14 = .ok (.iload_n 3, 1) := by decide +kernel
theorem dX11_countSets_15 : decode cX11_countSets 15 = .ok (.iload_n 2, 1) := by decide +kernel
theorem dX11_countSets_16 : decode cX11_countSets 16 = .ok (.ifCond .ne 7, 3) := by decide +kernel
theorem dX11_countSets_19 : decode cX11_countSets 19 = .ok (.lconst 1, 1) := by decide +kernel
theorem dX11_countSets_20 : decode cX11_countSets 20 = .ok (.goto 4, 3) := by decide +kernel
theorem dX11_countSets_23 : decode cX11_countSets 23 = .ok (.lconst 0, 1) := by decide +kernel
theorem dX11_countSets_24 : decode cX11_countSets 24 = .ok (.lastore, 1) := by decide +kernel
theorem dX11_countSets_25 : decode cX11_countSets 25 = .ok (.iconst 1, 1) := by decide +kernel
theorem dX11_countSets_26 : decode cX11_countSets 26 = .ok (.istore 4, 2) := by decide +kernel
theorem dX11_countSets_28 : decode cX11_countSets 28 = .ok (.iload 4, 2) := by decide +kernel
theorem dX11_countSets_30 : decode cX11_countSets 30 = .ok (.bipush 25, 2) := by decide +kernel
theorem dX11_countSets_32 : decode cX11_countSets 32 = .ok (.if_icmp .ge 58, 3) := by decide +kernel
theorem dX11_countSets_35 : decode cX11_countSets 35 = .ok (.aload_n 0, 1) := by decide +kernel
theorem dX11_countSets_36 : decode cX11_countSets 36 = .ok (.getfield 39, 3) := by decide +kernel
theorem dX11_countSets_39 : decode cX11_countSets 39 = .ok (.iload_n 3, 1) := by decide +kernel
theorem dX11_countSets_40 : decode cX11_countSets 40 = .ok (.iload 4, 2) := by decide +kernel
theorem dX11_countSets_42 : decode cX11_countSets 42 = .ok (.iadd, 1) := by decide +kernel
theorem dX11_countSets_43 : decode cX11_countSets 43 = .ok (.iload 4, 2) := by decide +kernel
theorem dX11_countSets_45 : decode cX11_countSets 45 = .ok (.iload_n 2, 1) := by decide +kernel
theorem dX11_countSets_46 : decode cX11_countSets 46 = .ok (.if_icmp .le 17, 3) := by decide +kernel
theorem dX11_countSets_49 : decode cX11_countSets 49 = .ok (.aload_n 0, 1) := by decide +kernel
theorem dX11_countSets_50 : decode cX11_countSets 50 = .ok (.getfield 39, 3) := by decide +kernel
theorem dX11_countSets_53 : decode cX11_countSets 53 = .ok (.iload_n 3, 1) := by decide +kernel
theorem dX11_countSets_54 : decode cX11_countSets 54 = .ok (.iload 4, 2) := by decide +kernel
theorem dX11_countSets_56 : decode cX11_countSets 56 = .ok (.iadd, 1) := by decide +kernel
theorem dX11_countSets_57 : decode cX11_countSets 57 = .ok (.iconst 1, 1) := by decide +kernel
theorem dX11_countSets_58 : decode cX11_countSets 58 = .ok (.isub, 1) := by decide +kernel
theorem dX11_countSets_59 : decode cX11_countSets 59 = .ok (.laload, 1) := by decide +kernel
theorem dX11_countSets_60 : decode cX11_countSets 60 = .ok (.goto 23, 3) := by decide +kernel
theorem dX11_countSets_63 : decode cX11_countSets 63 = .ok (.aload_n 0, 1) := by decide +kernel
theorem dX11_countSets_64 : decode cX11_countSets 64 = .ok (.iload_n 1, 1) := by decide +kernel
theorem dX11_countSets_65 : decode cX11_countSets 65 = .ok (.iload_n 2, 1) := by decide +kernel
theorem dX11_countSets_66 : decode cX11_countSets 66 = .ok (.iload 4, 2) := by decide +kernel
theorem dX11_countSets_68 : decode cX11_countSets 68 = .ok (.aload_n 0, 1) := by decide +kernel
theorem dX11_countSets_69 : decode cX11_countSets 69 = .ok (.aload_n 0, 1) := by decide +kernel
theorem dX11_countSets_70 : decode cX11_countSets 70 = .ok (.getfield 13, 3) := by decide +kernel
theorem dX11_countSets_73 : decode cX11_countSets 73 = .ok (.iload_n 1, 1) := by decide +kernel
theorem dX11_countSets_74 : decode cX11_countSets 74 = .ok (.iaload, 1) := by decide +kernel
theorem dX11_countSets_75 : decode cX11_countSets 75 = .ok (.iload 4, 2) := by decide +kernel
theorem dX11_countSets_77 : decode cX11_countSets 77 = .ok (.invokevirtual 180, 3) := by decide +kernel
theorem dX11_countSets_80 : decode cX11_countSets 80 = .ok (.invokevirtual 184, 3) := by decide +kernel
theorem dX11_countSets_83 : decode cX11_countSets 83 = .ok (.lastore, 1) := by decide +kernel
theorem dX11_countSets_84 : decode cX11_countSets 84 = .ok (.iinc 4 1, 3) := by decide +kernel
theorem dX11_countSets_87 : decode cX11_countSets 87 = .ok (.goto (-59), 3) := by decide +kernel
theorem dX11_countSets_90 : decode cX11_countSets 90 = .ok (.return_, 1) := by decide +kernel
theorem dX11_countBoth_0 : decode cX11_countBoth 0 = .ok (.lconst 0, 1) := by decide +kernel
theorem dX11_countBoth_1 : decode cX11_countBoth 1 = .ok (.lstore_n 3, 1) := by decide +kernel
theorem dX11_countBoth_2 : decode cX11_countBoth 2 = .ok (.iconst 0, 1) := by decide +kernel
theorem dX11_countBoth_3 : decode cX11_countBoth 3 = .ok (.istore 5, 2) := by decide +kernel
theorem dX11_countBoth_5 : decode cX11_countBoth 5 = .ok (.iload 5, 2) := by decide +kernel
theorem dX11_countBoth_7 : decode cX11_countBoth 7 = .ok (.iload_n 2, 1) := by decide +kernel
theorem dX11_countBoth_8 : decode cX11_countBoth 8 = .ok (.if_icmp .gt 98, 3) := by decide +kernel
theorem dX11_countBoth_11 : decode cX11_countBoth 11 = .ok (.iload 5, 2) := by decide +kernel
theorem dX11_countBoth_13 : decode cX11_countBoth 13 = .ok (.iload_n 2, 1) := by decide +kernel
theorem dX11_countBoth_14 : decode cX11_countBoth 14 = .ok (.if_icmp .lt 17, 3) := by decide +kernel
theorem dX11_countBoth_17 : decode cX11_countBoth 17 = .ok (.aload_n 0, 1) := by decide +kernel
theorem dX11_countBoth_18 : decode cX11_countBoth 18 = .ok (.getfield 28, 3) := by decide +kernel
theorem dX11_countBoth_21 : decode cX11_countBoth 21 = .ok (.aload_n 0, 1) := by decide +kernel
theorem dX11_countBoth_22 : decode cX11_countBoth 22 = .ok (.getfield 16, 3) := by decide +kernel
theorem dX11_countBoth_25 : decode cX11_countBoth 25 = .ok (.iload_n 1, 1) := by decide +kernel
theorem dX11_countBoth_26 : decode cX11_countBoth 26 = .ok (.iaload, 1) := by decide +kernel
theorem dX11_countBoth_27 : decode cX11_countBoth 27 = .ok (.baload, 1) := by decide +kernel
theorem dX11_countBoth_28 : decode cX11_countBoth 28 = .ok (.ifCond .eq 26, 3) := by decide +kernel
theorem dX11_countBoth_31 : decode cX11_countBoth 31 = .ok (.iload 5, 2) := by decide +kernel
theorem dX11_countBoth_33 : decode cX11_countBoth 33 = .ok (.ifCond .gt 17, 3) := by decide +kernel
theorem dX11_countBoth_36 : decode cX11_countBoth 36 = .ok (.aload_n 0, 1) := by decide +kernel
theorem dX11_countBoth_37 : decode cX11_countBoth 37 = .ok (.getfield 28, 3) := by decide +kernel
theorem dX11_countBoth_40 : decode cX11_countBoth 40 = .ok (.aload_n 0, 1) := by decide +kernel
theorem dX11_countBoth_41 : decode cX11_countBoth 41 = .ok (.getfield 13, 3) := by decide +kernel
theorem dX11_countBoth_44 : decode cX11_countBoth 44 = .ok (.iload_n 1, 1) := by decide +kernel
theorem dX11_countBoth_45 : decode cX11_countBoth 45 = .ok (.iaload, 1) := by decide +kernel
theorem dX11_countBoth_46 : decode cX11_countBoth 46 = .ok (.baload, 1) := by decide +kernel
theorem dX11_countBoth_47 : decode cX11_countBoth 47 = .ok (.ifCond .eq 7, 3) := by decide +kernel
theorem dX11_countBoth_50 : decode cX11_countBoth 50 = .ok (.iconst 1, 1) := by decide +kernel
theorem dX11_countBoth_51 : decode cX11_countBoth 51 = .ok (.goto 4, 3) := by decide +kernel
theorem dX11_countBoth_54 : decode cX11_countBoth 54 = .ok (.iconst 0, 1) := by decide +kernel
theorem dX11_countBoth_55 : decode cX11_countBoth 55 = .ok (.istore 6, 2) := by decide +kernel
theorem dX11_countBoth_57 : decode cX11_countBoth 57 = .ok (.iload 6, 2) := by decide +kernel
theorem dX11_countBoth_59 : decode cX11_countBoth 59 = .ok (.ifCond .eq 39, 3) := by decide +kernel
theorem dX11_countBoth_62 : decode cX11_countBoth 62 = .ok (.lload_n 3, 1) := by decide +kernel
theorem dX11_countBoth_63 : decode cX11_countBoth 63 = .ok (.aload_n 0, 1) := by decide +kernel
theorem dX11_countBoth_64 : decode cX11_countBoth 64 = .ok (.aload_n 0, 1) := by decide +kernel
theorem dX11_countBoth_65 : decode cX11_countBoth 65 = .ok (.getfield 13, 3) := by decide +kernel
theorem dX11_countBoth_68 : decode cX11_countBoth 68 = .ok (.iload_n 1, 1) := by decide +kernel
theorem dX11_countBoth_69 : decode cX11_countBoth 69 = .ok (.iaload, 1) := by decide +kernel
theorem dX11_countBoth_70 : decode cX11_countBoth 70 = .ok (.iload 5, 2) := by decide +kernel
theorem dX11_countBoth_72 : decode cX11_countBoth 72 = .ok (.invokevirtual 180, 3) := by decide +kernel
theorem dX11_countBoth_75 : decode cX11_countBoth 75 = .ok (.aload_n 0, 1) := by decide +kernel
theorem dX11_countBoth_76 : decode cX11_countBoth 76 = .ok (.aload_n 0, 1) := by decide +kernel
theorem dX11_countBoth_77 : decode cX11_countBoth 77 = .ok (.getfield 16, 3) := by decide +kernel
theorem dX11_countBoth_80 : decode cX11_countBoth 80 = .ok (.iload_n 1, 1) := by decide +kernel
theorem dX11_countBoth_81 : decode cX11_countBoth 81 = .ok (.iaload, 1) := by decide +kernel
theorem dX11_countBoth_82 : decode cX11_countBoth 82 = .ok (.iload_n 2, 1) := by decide +kernel
theorem dX11_countBoth_83 : decode cX11_countBoth 83 = .ok (.iload 5, 2) := by decide +kernel
theorem dX11_countBoth_85 : decode cX11_countBoth 85 = .ok (.isub, 1) := by decide +kernel
theorem dX11_countBoth_86 : decode cX11_countBoth 86 = .ok (.invokevirtual 180, 3) := by decide +kernel
theorem dX11_countBoth_89 : decode cX11_countBoth 89 = .ok (.invokestatic 166, 3) := by decide +kernel
theorem dX11_countBoth_92 : decode cX11_countBoth 92 = .ok (.invokestatic 177, 3) := by decide +kernel
theorem dX11_countBoth_95 : decode cX11_countBoth 95 = .ok (.goto 4, 3) := by decide +kernel
theorem dX11_countBoth_98 : decode cX11_countBoth 98 = .ok (.lload_n 3, 1) := by decide +kernel
theorem dX11_countBoth_99 : decode cX11_countBoth 99 = .ok (.lstore_n 3, 1) := by decide +kernel
theorem dX11_countBoth_100 : decode cX11_countBoth 100 = .ok (.iinc 5 1, 3) := by decide +kernel
theorem dX11_countBoth_103 : decode cX11_countBoth 103 = .ok (.goto (-98), 3) := by decide +kernel
theorem dX11_countBoth_106 : decode cX11_countBoth 106 = .ok (.lload_n 3, 1) := by decide +kernel
theorem dX11_countBoth_107 : decode cX11_countBoth 107 = .ok (.lreturn, 1) := by decide +kernel
theorem dX11_countRow_0 : decode cX11_countRow 0 = .ok (.iload_n 2, 1) := by decide +kernel
theorem dX11_countRow_1 : decode cX11_countRow 1 = .ok (.ifCond .ne 7, 3) := by decide +kernel
theorem dX11_countRow_4 : decode cX11_countRow 4 = .ok (.lconst 1, 1) := by decide +kernel
theorem dX11_countRow_5 : decode cX11_countRow 5 = .ok (.goto 4, 3) := by decide +kernel
theorem dX11_countRow_8 : decode cX11_countRow 8 = .ok (.lconst 0, 1) := by decide +kernel
theorem dX11_countRow_9 : decode cX11_countRow 9 = .ok (.lstore_n 3, 1) := by decide +kernel
theorem dX11_countRow_10 : decode cX11_countRow 10 = .ok (.iconst 1, 1) := by decide +kernel
theorem dX11_countRow_11 : decode cX11_countRow 11 = .ok (.istore 5, 2) := by decide +kernel
theorem dX11_countRow_13 : decode cX11_countRow 13 = .ok (.iload 5, 2) := by decide +kernel
theorem dX11_countRow_15 : decode cX11_countRow 15 = .ok (.iload_n 2, 1) := by decide +kernel
theorem dX11_countRow_16 : decode cX11_countRow 16 = .ok (.if_icmp .gt 38, 3) := by decide +kernel
theorem dX11_countRow_19 : decode cX11_countRow 19 = .ok (.lload_n 3, 1) := by decide +kernel
theorem dX11_countRow_20 : decode cX11_countRow 20 = .ok (.aload_n 0, 1) := by decide +kernel
theorem dX11_countRow_21 : decode cX11_countRow 21 = .ok (.aload_n 0, 1) := by decide +kernel
theorem dX11_countRow_22 : decode cX11_countRow 22 = .ok (.getfield 13, 3) := by decide +kernel
theorem dX11_countRow_25 : decode cX11_countRow 25 = .ok (.iload_n 1, 1) := by decide +kernel
theorem dX11_countRow_26 : decode cX11_countRow 26 = .ok (.iaload, 1) := by decide +kernel
theorem dX11_countRow_27 : decode cX11_countRow 27 = .ok (.iload 5, 2) := by decide +kernel
theorem dX11_countRow_29 : decode cX11_countRow 29 = .ok (.invokevirtual 180, 3) := by decide +kernel
theorem dX11_countRow_32 : decode cX11_countRow 32 = .ok (.aload_n 0, 1) := by decide +kernel
theorem dX11_countRow_33 : decode cX11_countRow 33 = .ok (.iload_n 1, 1) := by decide +kernel
theorem dX11_countRow_34 : decode cX11_countRow 34 = .ok (.iload_n 2, 1) := by decide +kernel
theorem dX11_countRow_35 : decode cX11_countRow 35 = .ok (.iload 5, 2) := by decide +kernel
theorem dX11_countRow_37 : decode cX11_countRow 37 = .ok (.isub, 1) := by decide +kernel
theorem dX11_countRow_38 : decode cX11_countRow 38 = .ok (.invokevirtual 180, 3) := by decide +kernel
theorem dX11_countRow_41 : decode cX11_countRow 41 = .ok (.invokestatic 166, 3) := by decide +kernel
theorem dX11_countRow_44 : decode cX11_countRow 44 = .ok (.invokestatic 177, 3) := by decide +kernel
theorem dX11_countRow_47 : decode cX11_countRow 47 = .ok (.lstore_n 3, 1) := by decide +kernel
theorem dX11_countRow_48 : decode cX11_countRow 48 = .ok (.iinc 5 1, 3) := by decide +kernel
theorem dX11_countRow_51 : decode cX11_countRow 51 = .ok (.goto (-38), 3) := by decide +kernel
theorem dX11_countRow_54 : decode cX11_countRow 54 = .ok (.lload_n 3, 1) := by decide +kernel
theorem dX11_countRow_55 : decode cX11_countRow 55 = .ok (.lreturn, 1) := by decide +kernel
theorem dX11_reckon_0 : decode cX11_reckon 0 = .ok (.aload_n 0, 1) := by decide +kernel
theorem dX11_reckon_1 : decode cX11_reckon 1 = .ok (.getfield 7, 3) := by decide +kernel
theorem dX11_reckon_4 : decode cX11_reckon 4 = .ok (.iload_n 1, 1) := by decide +kernel
theorem dX11_reckon_5 : decode cX11_reckon 5 = .ok (.iaload, 1) := by decide +kernel
theorem dX11_reckon_6 : decode cX11_reckon 6 = .ok (.tableswitch 179 0 8 #[50, 66, 76, 83, 109, 179, 179, 116, 160], 50) := by decide +kernel
theorem dX11_reckon_56 : decode cX11_reckon 56 = .ok (.iload_n 2, 1) := by decide +kernel
theorem dX11_reckon_57 : decode cX11_reckon 57 = .ok (.aload_n 0, 1) := by decide +kernel
theorem dX11_reckon_58 : decode cX11_reckon 58 = .ok (.getfield 13, 3) := by decide +kernel
theorem dX11_reckon_61 : decode cX11_reckon 61 = .ok (.iload_n 1, 1) := by decide +kernel
theorem dX11_reckon_62 : decode cX11_reckon 62 = .ok (.iaload, 1) := by decide +kernel
theorem dX11_reckon_63 : decode cX11_reckon 63 = .ok (.if_icmp .ne 7, 3) := by decide +kernel
theorem dX11_reckon_66 : decode cX11_reckon 66 = .ok (.lconst 1, 1) := by decide +kernel
theorem dX11_reckon_67 : decode cX11_reckon 67 = .ok (.goto 4, 3) := by decide +kernel
theorem dX11_reckon_70 : decode cX11_reckon 70 = .ok (.lconst 0, 1) := by decide +kernel
theorem dX11_reckon_71 : decode cX11_reckon 71 = .ok (.lreturn, 1) := by decide +kernel
theorem dX11_reckon_72 : decode cX11_reckon 72 = .ok (.iload_n 2, 1) := by decide +kernel
theorem dX11_reckon_73 : decode cX11_reckon 73 = .ok (.ifCond .ne 7, 3) := by decide +kernel
theorem dX11_reckon_76 : decode cX11_reckon 76 = .ok (.lconst 1, 1) := by decide +kernel
theorem dX11_reckon_77 : decode cX11_reckon 77 = .ok (.goto 4, 3) := by decide +kernel
theorem dX11_reckon_80 : decode cX11_reckon 80 = .ok (.lconst 0, 1) := by decide +kernel
theorem dX11_reckon_81 : decode cX11_reckon 81 = .ok (.lreturn, 1) := by decide +kernel
theorem dX11_reckon_82 : decode cX11_reckon 82 = .ok (.aload_n 0, 1) := by decide +kernel
theorem dX11_reckon_83 : decode cX11_reckon 83 = .ok (.iload_n 1, 1) := by decide +kernel
theorem dX11_reckon_84 : decode cX11_reckon 84 = .ok (.iload_n 2, 1) := by decide +kernel
theorem dX11_reckon_85 : decode cX11_reckon 85 = .ok (.invokevirtual 188, 3) := by decide +kernel
theorem dX11_reckon_88 : decode cX11_reckon 88 = .ok (.lreturn, 1) := by decide +kernel
theorem dX11_reckon_89 : decode cX11_reckon 89 = .ok (.aload_n 0, 1) := by decide +kernel
theorem dX11_reckon_90 : decode cX11_reckon 90 = .ok (.aload_n 0, 1) := by decide +kernel
theorem dX11_reckon_91 : decode cX11_reckon 91 = .ok (.getfield 13, 3) := by decide +kernel
theorem dX11_reckon_94 : decode cX11_reckon 94 = .ok (.iload_n 1, 1) := by decide +kernel
theorem dX11_reckon_95 : decode cX11_reckon 95 = .ok (.iaload, 1) := by decide +kernel
theorem dX11_reckon_96 : decode cX11_reckon 96 = .ok (.iload_n 2, 1) := by decide +kernel
theorem dX11_reckon_97 : decode cX11_reckon 97 = .ok (.invokevirtual 180, 3) := by decide +kernel
theorem dX11_reckon_100 : decode cX11_reckon 100 = .ok (.aload_n 0, 1) := by decide +kernel
theorem dX11_reckon_101 : decode cX11_reckon 101 = .ok (.aload_n 0, 1) := by decide +kernel
theorem dX11_reckon_102 : decode cX11_reckon 102 = .ok (.getfield 16, 3) := by decide +kernel
theorem dX11_reckon_105 : decode cX11_reckon 105 = .ok (.iload_n 1, 1) := by decide +kernel
theorem dX11_reckon_106 : decode cX11_reckon 106 = .ok (.iaload, 1) := by decide +kernel
theorem dX11_reckon_107 : decode cX11_reckon 107 = .ok (.iload_n 2, 1) := by decide +kernel
theorem dX11_reckon_108 : decode cX11_reckon 108 = .ok (.invokevirtual 180, 3) := by decide +kernel
theorem dX11_reckon_111 : decode cX11_reckon 111 = .ok (.invokestatic 177, 3) := by decide +kernel
theorem dX11_reckon_114 : decode cX11_reckon 114 = .ok (.lreturn, 1) := by decide +kernel
theorem dX11_reckon_115 : decode cX11_reckon 115 = .ok (.aload_n 0, 1) := by decide +kernel
theorem dX11_reckon_116 : decode cX11_reckon 116 = .ok (.iload_n 1, 1) := by decide +kernel
theorem dX11_reckon_117 : decode cX11_reckon 117 = .ok (.iload_n 2, 1) := by decide +kernel
theorem dX11_reckon_118 : decode cX11_reckon 118 = .ok (.invokevirtual 191, 3) := by decide +kernel
theorem dX11_reckon_121 : decode cX11_reckon 121 = .ok (.lreturn, 1) := by decide +kernel
theorem dX11_reckon_122 : decode cX11_reckon 122 = .ok (.iload_n 2, 1) := by decide +kernel
theorem dX11_reckon_123 : decode cX11_reckon 123 = .ok (.i2l, 1) := by decide +kernel
theorem dX11_reckon_124 : decode cX11_reckon 124 = .ok (.aload_n 0, 1) := by decide +kernel
theorem dX11_reckon_125 : decode cX11_reckon 125 = .ok (.getfield 16, 3) := by decide +kernel
theorem dX11_reckon_128 : decode cX11_reckon 128 = .ok (.iload_n 1, 1) := by decide +kernel
theorem dX11_reckon_129 : decode cX11_reckon 129 = .ok (.iaload, 1) := by decide +kernel
theorem dX11_reckon_130 : decode cX11_reckon 130 = .ok (.bipush 32, 2) := by decide +kernel
theorem dX11_reckon_132 : decode cX11_reckon 132 = .ok (.idiv, 1) := by decide +kernel
theorem dX11_reckon_133 : decode cX11_reckon 133 = .ok (.i2l, 1) := by decide +kernel
theorem dX11_reckon_134 : decode cX11_reckon 134 = .ok (.aload_n 0, 1) := by decide +kernel
theorem dX11_reckon_135 : decode cX11_reckon 135 = .ok (.getfield 16, 3) := by decide +kernel
theorem dX11_reckon_138 : decode cX11_reckon 138 = .ok (.iload_n 1, 1) := by decide +kernel
theorem dX11_reckon_139 : decode cX11_reckon 139 = .ok (.iaload, 1) := by decide +kernel
theorem dX11_reckon_140 : decode cX11_reckon 140 = .ok (.bipush 32, 2) := by decide +kernel
theorem dX11_reckon_142 : decode cX11_reckon 142 = .ok (.irem, 1) := by decide +kernel
theorem dX11_reckon_143 : decode cX11_reckon 143 = .ok (.i2l, 1) := by decide +kernel
theorem dX11_reckon_144 : decode cX11_reckon 144 = .ok (.invokestatic 81, 3) := by decide +kernel
theorem dX11_reckon_147 : decode cX11_reckon 147 = .ok (.ifCond .eq 17, 3) := by decide +kernel
theorem dX11_reckon_150 : decode cX11_reckon 150 = .ok (.aload_n 0, 1) := by decide +kernel
theorem dX11_reckon_151 : decode cX11_reckon 151 = .ok (.aload_n 0, 1) := by decide +kernel
theorem dX11_reckon_152 : decode cX11_reckon 152 = .ok (.getfield 13, 3) := by decide +kernel
theorem dX11_reckon_155 : decode cX11_reckon 155 = .ok (.iload_n 1, 1) := by decide +kernel
theorem dX11_reckon_156 : decode cX11_reckon 156 = .ok (.iaload, 1) := by decide +kernel
theorem dX11_reckon_157 : decode cX11_reckon 157 = .ok (.iload_n 2, 1) := by decide +kernel
theorem dX11_reckon_158 : decode cX11_reckon 158 = .ok (.invokevirtual 180, 3) := by decide +kernel
theorem dX11_reckon_161 : decode cX11_reckon 161 = .ok (.goto 4, 3) := by decide +kernel
theorem dX11_reckon_164 : decode cX11_reckon 164 = .ok (.lconst 0, 1) := by decide +kernel
theorem dX11_reckon_165 : decode cX11_reckon 165 = .ok (.lreturn, 1) := by decide +kernel
theorem dX11_reckon_166 : decode cX11_reckon 166 = .ok (.iload_n 2, 1) := by decide +kernel
theorem dX11_reckon_167 : decode cX11_reckon 167 = .ok (.aload_n 0, 1) := by decide +kernel
theorem dX11_reckon_168 : decode cX11_reckon 168 = .ok (.getfield 13, 3) := by decide +kernel
theorem dX11_reckon_171 : decode cX11_reckon 171 = .ok (.iload_n 1, 1) := by decide +kernel
theorem dX11_reckon_172 : decode cX11_reckon 172 = .ok (.iaload, 1) := by decide +kernel
theorem dX11_reckon_173 : decode cX11_reckon 173 = .ok (.if_icmp .ne 10, 3) := by decide +kernel
theorem dX11_reckon_176 : decode cX11_reckon 176 = .ok (.iload_n 2, 1) := by decide +kernel
theorem dX11_reckon_177 : decode cX11_reckon 177 = .ok (.invokestatic 194, 3) := by decide +kernel
theorem dX11_reckon_180 : decode cX11_reckon 180 = .ok (.goto 4, 3) := by decide +kernel
theorem dX11_reckon_183 : decode cX11_reckon 183 = .ok (.lconst 0, 1) := by decide +kernel
theorem dX11_reckon_184 : decode cX11_reckon 184 = .ok (.lreturn, 1) := by decide +kernel
theorem dX11_reckon_185 : decode cX11_reckon 185 = .ok (.aload_n 0, 1) := by decide +kernel
theorem dX11_reckon_186 : decode cX11_reckon 186 = .ok (.iload_n 1, 1) := by decide +kernel
theorem dX11_reckon_187 : decode cX11_reckon 187 = .ok (.iload_n 2, 1) := by decide +kernel
theorem dX11_reckon_188 : decode cX11_reckon 188 = .ok (.invokevirtual 198, 3) := by decide +kernel
theorem dX11_reckon_191 : decode cX11_reckon 191 = .ok (.aload_n 0, 1) := by decide +kernel
theorem dX11_reckon_192 : decode cX11_reckon 192 = .ok (.iload_n 1, 1) := by decide +kernel
theorem dX11_reckon_193 : decode cX11_reckon 193 = .ok (.iload_n 2, 1) := by decide +kernel
theorem dX11_reckon_194 : decode cX11_reckon 194 = .ok (.bipush 24, 2) := by decide +kernel
theorem dX11_reckon_196 : decode cX11_reckon 196 = .ok (.invokevirtual 173, 3) := by decide +kernel
theorem dX11_reckon_199 : decode cX11_reckon 199 = .ok (.lreturn, 1) := by decide +kernel
theorem dX11_factorial_0 : decode cX11_factorial 0 = .ok (.lconst 1, 1) := by decide +kernel
theorem dX11_factorial_1 : decode cX11_factorial 1 = .ok (.lstore_n 1, 1) := by decide +kernel
theorem dX11_factorial_2 : decode cX11_factorial 2 = .ok (.iconst 2, 1) := by decide +kernel
theorem dX11_factorial_3 : decode cX11_factorial 3 = .ok (.istore_n 3, 1) := by decide +kernel
theorem dX11_factorial_4 : decode cX11_factorial 4 = .ok (.iload_n 3, 1) := by decide +kernel
theorem dX11_factorial_5 : decode cX11_factorial 5 = .ok (.iload_n 0, 1) := by decide +kernel
theorem dX11_factorial_6 : decode cX11_factorial 6 = .ok (.if_icmp .gt 14, 3) := by decide +kernel
theorem dX11_factorial_9 : decode cX11_factorial 9 = .ok (.lload_n 1, 1) := by decide +kernel
theorem dX11_factorial_10 : decode cX11_factorial 10 = .ok (.iload_n 3, 1) := by decide +kernel
theorem dX11_factorial_11 : decode cX11_factorial 11 = .ok (.i2l, 1) := by decide +kernel
theorem dX11_factorial_12 : decode cX11_factorial 12 = .ok (.lmul, 1) := by decide +kernel
theorem dX11_factorial_13 : decode cX11_factorial 13 = .ok (.lstore_n 1, 1) := by decide +kernel
theorem dX11_factorial_14 : decode cX11_factorial 14 = .ok (.iinc 3 1, 3) := by decide +kernel
theorem dX11_factorial_17 : decode cX11_factorial 17 = .ok (.goto (-13), 3) := by decide +kernel
theorem dX11_factorial_20 : decode cX11_factorial 20 = .ok (.lload_n 1, 1) := by decide +kernel
theorem dX11_factorial_21 : decode cX11_factorial 21 = .ok (.lreturn, 1) := by decide +kernel
theorem dX11_mayCount_0 : decode cX11_mayCount 0 = .ok (.aload_n 0, 1) := by decide +kernel
theorem dX11_mayCount_1 : decode cX11_mayCount 1 = .ok (.getfield 42, 3) := by decide +kernel
theorem dX11_mayCount_4 : decode cX11_mayCount 4 = .ok (.iload_n 1, 1) := by decide +kernel
theorem dX11_mayCount_5 : decode cX11_mayCount 5 = .ok (.baload, 1) := by decide +kernel
theorem dX11_mayCount_6 : decode cX11_mayCount 6 = .ok (.ifCond .ne 7, 3) := by decide +kernel
theorem dX11_mayCount_9 : decode cX11_mayCount 9 = .ok (.iconst 1, 1) := by decide +kernel
theorem dX11_mayCount_10 : decode cX11_mayCount 10 = .ok (.goto 4, 3) := by decide +kernel
theorem dX11_mayCount_13 : decode cX11_mayCount 13 = .ok (.iconst 0, 1) := by decide +kernel
theorem dX11_mayCount_14 : decode cX11_mayCount 14 = .ok (.istore_n 2, 1) := by decide +kernel
theorem dX11_mayCount_15 : decode cX11_mayCount 15 = .ok (.iconst 0, 1) := by decide +kernel
theorem dX11_mayCount_16 : decode cX11_mayCount 16 = .ok (.istore_n 3, 1) := by decide +kernel
theorem dX11_mayCount_17 : decode cX11_mayCount 17 = .ok (.iload_n 3, 1) := by decide +kernel
theorem dX11_mayCount_18 : decode cX11_mayCount 18 = .ok (.aload_n 0, 1) := by decide +kernel
theorem dX11_mayCount_19 : decode cX11_mayCount 19 = .ok (.getfield 95, 3) := by decide +kernel
theorem dX11_mayCount_22 : decode cX11_mayCount 22 = .ok (.if_icmp .ge 42, 3) := by decide +kernel
theorem dX11_mayCount_25 : decode cX11_mayCount 25 = .ok (.iload_n 2, 1) := by decide +kernel
theorem dX11_mayCount_26 : decode cX11_mayCount 26 = .ok (.ifCond .eq 30, 3) := by decide +kernel
theorem dX11_mayCount_29 : decode cX11_mayCount 29 = .ok (.aload_n 0, 1) := by decide +kernel
theorem dX11_mayCount_30 : decode cX11_mayCount 30 = .ok (.getfield 32, 3) := by decide +kernel
theorem dX11_mayCount_33 : decode cX11_mayCount 33 = .ok (.bipush 16, 2) := by decide +kernel
theorem dX11_mayCount_35 : decode cX11_mayCount 35 = .ok (.iload_n 1, 1) := by decide +kernel
theorem dX11_mayCount_36 : decode cX11_mayCount 36 = .ok (.imul, 1) := by decide +kernel
theorem dX11_mayCount_37 : decode cX11_mayCount 37 = .ok (.iload_n 3, 1) := by decide +kernel
theorem dX11_mayCount_38 : decode cX11_mayCount 38 = .ok (.iadd, 1) := by decide +kernel
theorem dX11_mayCount_39 : decode cX11_mayCount 39 = .ok (.baload, 1) := by decide +kernel
theorem dX11_mayCount_40 : decode cX11_mayCount 40 = .ok (.ifCond .eq 12, 3) := by decide +kernel
theorem dX11_mayCount_43 : decode cX11_mayCount 43 = .ok (.aload_n 0, 1) := by decide +kernel
theorem dX11_mayCount_44 : decode cX11_mayCount 44 = .ok (.getfield 42, 3) := by decide +kernel
theorem dX11_mayCount_47 : decode cX11_mayCount 47 = .ok (.iload_n 3, 1) := by decide +kernel
theorem dX11_mayCount_48 : decode cX11_mayCount 48 = .ok (.baload, 1) := by decide +kernel
theorem dX11_mayCount_49 : decode cX11_mayCount 49 = .ok (.ifCond .eq 7, 3) := by decide +kernel
theorem dX11_mayCount_52 : decode cX11_mayCount 52 = .ok (.iconst 1, 1) := by decide +kernel
theorem dX11_mayCount_53 : decode cX11_mayCount 53 = .ok (.goto 4, 3) := by decide +kernel
theorem dX11_mayCount_56 : decode cX11_mayCount 56 = .ok (.iconst 0, 1) := by decide +kernel
theorem dX11_mayCount_57 : decode cX11_mayCount 57 = .ok (.istore_n 2, 1) := by decide +kernel
theorem dX11_mayCount_58 : decode cX11_mayCount 58 = .ok (.iinc 3 1, 3) := by decide +kernel
theorem dX11_mayCount_61 : decode cX11_mayCount 61 = .ok (.goto (-44), 3) := by decide +kernel
theorem dX11_mayCount_64 : decode cX11_mayCount 64 = .ok (.iload_n 2, 1) := by decide +kernel
theorem dX11_mayCount_65 : decode cX11_mayCount 65 = .ok (.ireturn, 1) := by decide +kernel
theorem dX11_countAll_0 : decode cX11_countAll 0 = .ok (.iconst 0, 1) := by decide +kernel
theorem dX11_countAll_1 : decode cX11_countAll 1 = .ok (.istore_n 1, 1) := by decide +kernel
theorem dX11_countAll_2 : decode cX11_countAll 2 = .ok (.iload_n 1, 1) := by decide +kernel
theorem dX11_countAll_3 : decode cX11_countAll 3 = .ok (.sipush 400, 3) := by decide +kernel
theorem dX11_countAll_6 : decode cX11_countAll 6 = .ok (.if_icmp .ge 16, 3) := by decide +kernel
theorem dX11_countAll_9 : decode cX11_countAll 9 = .ok (.aload_n 0, 1) := by decide +kernel
theorem dX11_countAll_10 : decode cX11_countAll 10 = .ok (.getfield 35, 3) := by decide +kernel
theorem dX11_countAll_13 : decode cX11_countAll 13 = .ok (.iload_n 1, 1) := by decide +kernel
theorem dX11_countAll_14 : decode cX11_countAll 14 = .ok (.lconst 0, 1) := by decide +kernel
theorem dX11_countAll_15 : decode cX11_countAll 15 = .ok (.lastore, 1) := by decide +kernel
theorem dX11_countAll_16 : decode cX11_countAll 16 = .ok (.iinc 1 1, 3) := by decide +kernel
theorem dX11_countAll_19 : decode cX11_countAll 19 = .ok (.goto (-17), 3) := by decide +kernel
theorem dX11_countAll_22 : decode cX11_countAll 22 = .ok (.iconst 0, 1) := by decide +kernel
theorem dX11_countAll_23 : decode cX11_countAll 23 = .ok (.istore_n 1, 1) := by decide +kernel
theorem dX11_countAll_24 : decode cX11_countAll 24 = .ok (.iload_n 1, 1) := by decide +kernel
theorem dX11_countAll_25 : decode cX11_countAll 25 = .ok (.bipush 25, 2) := by decide +kernel
theorem dX11_countAll_27 : decode cX11_countAll 27 = .ok (.if_icmp .ge 88, 3) := by decide +kernel
theorem dX11_countAll_30 : decode cX11_countAll 30 = .ok (.iconst 0, 1) := by decide +kernel
theorem dX11_countAll_31 : decode cX11_countAll 31 = .ok (.istore_n 2, 1) := by decide +kernel
theorem dX11_countAll_32 : decode cX11_countAll 32 = .ok (.iload_n 2, 1) := by decide +kernel
theorem dX11_countAll_33 : decode cX11_countAll 33 = .ok (.aload_n 0, 1) := by decide +kernel
theorem dX11_countAll_34 : decode cX11_countAll 34 = .ok (.getfield 95, 3) := by decide +kernel
theorem dX11_countAll_37 : decode cX11_countAll 37 = .ok (.if_icmp .ge 16, 3) := by decide +kernel
theorem dX11_countAll_40 : decode cX11_countAll 40 = .ok (.aload_n 0, 1) := by decide +kernel
theorem dX11_countAll_41 : decode cX11_countAll 41 = .ok (.getfield 42, 3) := by decide +kernel
theorem dX11_countAll_44 : decode cX11_countAll 44 = .ok (.iload_n 2, 1) := by decide +kernel
theorem dX11_countAll_45 : decode cX11_countAll 45 = .ok (.iconst 0, 1) := by decide +kernel
theorem dX11_countAll_46 : decode cX11_countAll 46 = .ok (.bastore, 1) := by decide +kernel
theorem dX11_countAll_47 : decode cX11_countAll 47 = .ok (.iinc 2 1, 3) := by decide +kernel
theorem dX11_countAll_50 : decode cX11_countAll 50 = .ok (.goto (-18), 3) := by decide +kernel
theorem dX11_countAll_53 : decode cX11_countAll 53 = .ok (.iconst 0, 1) := by decide +kernel
theorem dX11_countAll_54 : decode cX11_countAll 54 = .ok (.istore_n 2, 1) := by decide +kernel
theorem dX11_countAll_55 : decode cX11_countAll 55 = .ok (.iload_n 2, 1) := by decide +kernel
theorem dX11_countAll_56 : decode cX11_countAll 56 = .ok (.aload_n 0, 1) := by decide +kernel
theorem dX11_countAll_57 : decode cX11_countAll 57 = .ok (.getfield 95, 3) := by decide +kernel
theorem dX11_countAll_60 : decode cX11_countAll 60 = .ok (.if_icmp .ge 49, 3) := by decide +kernel
theorem dX11_countAll_63 : decode cX11_countAll 63 = .ok (.iconst 0, 1) := by decide +kernel
theorem dX11_countAll_64 : decode cX11_countAll 64 = .ok (.istore_n 3, 1) := by decide +kernel
theorem dX11_countAll_65 : decode cX11_countAll 65 = .ok (.aload_n 0, 1) := by decide +kernel
theorem dX11_countAll_66 : decode cX11_countAll 66 = .ok (.iload_n 3, 1) := by decide +kernel
theorem dX11_countAll_67 : decode cX11_countAll 67 = .ok (.invokevirtual 202, 3) := by decide +kernel
theorem dX11_countAll_70 : decode cX11_countAll 70 = .ok (.ifCond .ne 9, 3) := by decide +kernel
theorem dX11_countAll_73 : decode cX11_countAll 73 = .ok (.iinc 3 1, 3) := by decide +kernel
theorem dX11_countAll_76 : decode cX11_countAll 76 = .ok (.goto (-11), 3) := by decide +kernel
theorem dX11_countAll_79 : decode cX11_countAll 79 = .ok (.aload_n 0, 1) := by decide +kernel
theorem dX11_countAll_80 : decode cX11_countAll 80 = .ok (.getfield 35, 3) := by decide +kernel
theorem dX11_countAll_83 : decode cX11_countAll 83 = .ok (.bipush 25, 2) := by decide +kernel
theorem dX11_countAll_85 : decode cX11_countAll 85 = .ok (.iload_n 3, 1) := by decide +kernel
theorem dX11_countAll_86 : decode cX11_countAll 86 = .ok (.imul, 1) := by decide +kernel
theorem dX11_countAll_87 : decode cX11_countAll 87 = .ok (.iload_n 1, 1) := by decide +kernel
theorem dX11_countAll_88 : decode cX11_countAll 88 = .ok (.iadd, 1) := by decide +kernel
theorem dX11_countAll_89 : decode cX11_countAll 89 = .ok (.aload_n 0, 1) := by decide +kernel
theorem dX11_countAll_90 : decode cX11_countAll 90 = .ok (.iload_n 3, 1) := by decide +kernel
theorem dX11_countAll_91 : decode cX11_countAll 91 = .ok (.iload_n 1, 1) := by decide +kernel
theorem dX11_countAll_92 : decode cX11_countAll 92 = .ok (.invokevirtual 205, 3) := by decide +kernel
theorem dX11_countAll_95 : decode cX11_countAll 95 = .ok (.lastore, 1) := by decide +kernel
theorem dX11_countAll_96 : decode cX11_countAll 96 = .ok (.aload_n 0, 1) := by decide +kernel
theorem dX11_countAll_97 : decode cX11_countAll 97 = .ok (.getfield 42, 3) := by decide +kernel
theorem dX11_countAll_100 : decode cX11_countAll 100 = .ok (.iload_n 3, 1) := by decide +kernel
theorem dX11_countAll_101 : decode cX11_countAll 101 = .ok (.iconst 1, 1) := by decide +kernel
theorem dX11_countAll_102 : decode cX11_countAll 102 = .ok (.bastore, 1) := by decide +kernel
