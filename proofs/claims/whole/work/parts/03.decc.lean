theorem dX9_work_1 : decode cX9_work 1 = .ok (.dup, 1) := by decide +kernel
theorem dX9_work_2 : decode cX9_work 2 = .ok (.getfield 44, 3) := by decide +kernel
theorem dX9_work_5 : decode cX9_work 5 = .ok (.iconst 1, 1) := by decide +kernel
theorem dX9_work_6 : decode cX9_work 6 = .ok (.isub, 1) := by decide +kernel
theorem dX9_work_7 : decode cX9_work 7 = .ok (.putfield 44, 3) := by decide +kernel
theorem dX9_work_10 : decode cX9_work 10 = .ok (.aload_n 0, 1) := by decide +kernel
theorem dX9_work_11 : decode cX9_work 11 = .ok (.getfield 22, 3) := by decide +kernel
theorem dX9_work_14 : decode cX9_work 14 = .ok (.aload_n 0, 1) := by decide +kernel
theorem dX9_work_15 : decode cX9_work 15 = .ok (.getfield 44, 3) := by decide +kernel
theorem dX9_work_18 : decode cX9_work 18 = .ok (.invokestatic 56, 3) := by decide +kernel
theorem dX9_work_21 : decode cX9_work 21 = .ok (.istore_n 1, 1) := by decide +kernel
theorem dX9_work_22 : decode cX9_work 22 = .ok (.aload_n 0, 1) := by decide +kernel
theorem dX9_work_23 : decode cX9_work 23 = .ok (.getfield 25, 3) := by decide +kernel
theorem dX9_work_26 : decode cX9_work 26 = .ok (.aload_n 0, 1) := by decide +kernel
theorem dX9_work_27 : decode cX9_work 27 = .ok (.getfield 44, 3) := by decide +kernel
theorem dX9_work_30 : decode cX9_work 30 = .ok (.invokestatic 56, 3) := by decide +kernel
theorem dX9_work_33 : decode cX9_work 33 = .ok (.istore_n 2, 1) := by decide +kernel
theorem dX9_work_34 : decode cX9_work 34 = .ok (.aload_n 0, 1) := by decide +kernel
theorem dX9_work_35 : decode cX9_work 35 = .ok (.getfield 28, 3) := by decide +kernel
theorem dX9_work_38 : decode cX9_work 38 = .ok (.aload_n 0, 1) := by decide +kernel
theorem dX9_work_39 : decode cX9_work 39 = .ok (.getfield 44, 3) := by decide +kernel
theorem dX9_work_42 : decode cX9_work 42 = .ok (.invokestatic 62, 3) := by decide +kernel
theorem dX9_work_45 : decode cX9_work 45 = .ok (.lstore_n 3, 1) := by decide +kernel
theorem dX9_work_46 : decode cX9_work 46 = .ok (.aload_n 0, 1) := by decide +kernel
theorem dX9_work_47 : decode cX9_work 47 = .ok (.getfield 18, 3) := by decide +kernel
theorem dX9_work_50 : decode cX9_work 50 = .ok (.aload_n 0, 1) := by decide +kernel
theorem dX9_work_51 : decode cX9_work 51 = .ok (.getfield 44, 3) := by decide +kernel
theorem dX9_work_54 : decode cX9_work 54 = .ok (.invokestatic 56, 3) := by decide +kernel
theorem dX9_work_57 : decode cX9_work 57 = .ok (.lookupswitch 43 #[(1, 27), (2, 35)], 27) := by decide +kernel
theorem dX9_work_84 : decode cX9_work 84 = .ok (.aload_n 0, 1) := by decide +kernel
theorem dX9_work_85 : decode cX9_work 85 = .ok (.iload_n 1, 1) := by decide +kernel
theorem dX9_work_86 : decode cX9_work 86 = .ok (.iload_n 2, 1) := by decide +kernel
theorem dX9_work_87 : decode cX9_work 87 = .ok (.lload_n 3, 1) := by decide +kernel
theorem dX9_work_88 : decode cX9_work 88 = .ok (.invokevirtual 65, 3) := by decide +kernel
theorem dX9_work_91 : decode cX9_work 91 = .ok (.ireturn, 1) := by decide +kernel
theorem dX9_work_92 : decode cX9_work 92 = .ok (.aload_n 0, 1) := by decide +kernel
theorem dX9_work_93 : decode cX9_work 93 = .ok (.iload_n 1, 1) := by decide +kernel
theorem dX9_work_94 : decode cX9_work 94 = .ok (.iload_n 2, 1) := by decide +kernel
theorem dX9_work_95 : decode cX9_work 95 = .ok (.lload_n 3, 1) := by decide +kernel
theorem dX9_work_96 : decode cX9_work 96 = .ok (.invokevirtual 69, 3) := by decide +kernel
theorem dX9_work_99 : decode cX9_work 99 = .ok (.ireturn, 1) := by decide +kernel
theorem dX9_work_100 : decode cX9_work 100 = .ok (.aload_n 0, 1) := by decide +kernel
theorem dX9_work_101 : decode cX9_work 101 = .ok (.getfield 12, 3) := by decide +kernel
theorem dX9_work_104 : decode cX9_work 104 = .ok (.iload_n 1, 1) := by decide +kernel
theorem dX9_work_105 : decode cX9_work 105 = .ok (.invokevirtual 72, 3) := by decide +kernel
theorem dX9_work_108 : decode cX9_work 108 = .ok (.ireturn, 1) := by decide +kernel
theorem dX9_workWhole_0 : decode cX9_workWhole 0 = .ok (.aload_n 0, 1) := by decide +kernel
theorem dX9_workWhole_1 : decode cX9_workWhole 1 = .ok (.getfield 32, 3) := by decide +kernel
theorem dX9_workWhole_4 : decode cX9_workWhole 4 = .ok (.iload_n 1, 1) := by decide +kernel
theorem dX9_workWhole_5 : decode cX9_workWhole 5 = .ok (.invokevirtual 76, 3) := by decide +kernel
theorem dX9_workWhole_8 : decode cX9_workWhole 8 = .ok (.istore 5, 2) := by decide +kernel
theorem dX9_workWhole_10 : decode cX9_workWhole 10 = .ok (.aload_n 0, 1) := by decide +kernel
theorem dX9_workWhole_11 : decode cX9_workWhole 11 = .ok (.getfield 32, 3) := by decide +kernel
theorem dX9_workWhole_14 : decode cX9_workWhole 14 = .ok (.iload_n 1, 1) := by decide +kernel
theorem dX9_workWhole_15 : decode cX9_workWhole 15 = .ok (.invokevirtual 82, 3) := by decide +kernel
theorem dX9_workWhole_18 : decode cX9_workWhole 18 = .ok (.istore 6, 2) := by decide +kernel
theorem dX9_workWhole_20 : decode cX9_workWhole 20 = .ok (.iload 5, 2) := by decide +kernel
theorem dX9_workWhole_22 : decode cX9_workWhole 22 = .ok (.tableswitch 185 0 8 #[50, 185, 69, 126, 134, 134, 134, 145, 157], 50) := by decide +kernel
theorem dX9_workWhole_72 : decode cX9_workWhole 72 = .ok (.aload_n 0, 1) := by decide +kernel
theorem dX9_workWhole_73 : decode cX9_workWhole 73 = .ok (.getfield 12, 3) := by decide +kernel
theorem dX9_workWhole_76 : decode cX9_workWhole 76 = .ok (.bipush 97, 2) := by decide +kernel
theorem dX9_workWhole_78 : decode cX9_workWhole 78 = .ok (.aload_n 0, 1) := by decide +kernel
theorem dX9_workWhole_79 : decode cX9_workWhole 79 = .ok (.getfield 32, 3) := by decide +kernel
theorem dX9_workWhole_82 : decode cX9_workWhole 82 = .ok (.iload_n 1, 1) := by decide +kernel
theorem dX9_workWhole_83 : decode cX9_workWhole 83 = .ok (.invokevirtual 85, 3) := by decide +kernel
theorem dX9_workWhole_86 : decode cX9_workWhole 86 = .ok (.iadd, 1) := by decide +kernel
theorem dX9_workWhole_87 : decode cX9_workWhole 87 = .ok (.invokevirtual 72, 3) := by decide +kernel
theorem dX9_workWhole_90 : decode cX9_workWhole 90 = .ok (.ireturn, 1) := by decide +kernel
theorem dX9_workWhole_91 : decode cX9_workWhole 91 = .ok (.aload_n 0, 1) := by decide +kernel
theorem dX9_workWhole_92 : decode cX9_workWhole 92 = .ok (.iload_n 1, 1) := by decide +kernel
theorem dX9_workWhole_93 : decode cX9_workWhole 93 = .ok (.iload_n 2, 1) := by decide +kernel
theorem dX9_workWhole_94 : decode cX9_workWhole 94 = .ok (.lload_n 3, 1) := by decide +kernel
theorem dX9_workWhole_95 : decode cX9_workWhole 95 = .ok (.invokevirtual 88, 3) := by decide +kernel
theorem dX9_workWhole_98 : decode cX9_workWhole 98 = .ok (.aload_n 0, 1) := by decide +kernel
theorem dX9_workWhole_99 : decode cX9_workWhole 99 = .ok (.iconst 0, 1) := by decide +kernel
theorem dX9_workWhole_100 : decode cX9_workWhole 100 = .ok (.bipush 41, 2) := by decide +kernel
theorem dX9_workWhole_102 : decode cX9_workWhole 102 = .ok (.iconst 0, 1) := by decide +kernel
theorem dX9_workWhole_103 : decode cX9_workWhole 103 = .ok (.lconst 0, 1) := by decide +kernel
theorem dX9_workWhole_104 : decode cX9_workWhole 104 = .ok (.invokevirtual 48, 3) := by decide +kernel
theorem dX9_workWhole_107 : decode cX9_workWhole 107 = .ok (.aload_n 0, 1) := by decide +kernel
theorem dX9_workWhole_108 : decode cX9_workWhole 108 = .ok (.iconst 1, 1) := by decide +kernel
theorem dX9_workWhole_109 : decode cX9_workWhole 109 = .ok (.aload_n 0, 1) := by decide +kernel
theorem dX9_workWhole_110 : decode cX9_workWhole 110 = .ok (.getfield 32, 3) := by decide +kernel
theorem dX9_workWhole_113 : decode cX9_workWhole 113 = .ok (.iload_n 1, 1) := by decide +kernel
theorem dX9_workWhole_114 : decode cX9_workWhole 114 = .ok (.invokevirtual 85, 3) := by decide +kernel
theorem dX9_workWhole_117 : decode cX9_workWhole 117 = .ok (.iload_n 2, 1) := by decide +kernel
theorem dX9_workWhole_118 : decode cX9_workWhole 118 = .ok (.aload_n 0, 1) := by decide +kernel
theorem dX9_workWhole_119 : decode cX9_workWhole 119 = .ok (.getfield 92, 3) := by decide +kernel
theorem dX9_workWhole_122 : decode cX9_workWhole 122 = .ok (.isub, 1) := by decide +kernel
theorem dX9_workWhole_123 : decode cX9_workWhole 123 = .ok (.aload_n 0, 1) := by decide +kernel
theorem dX9_workWhole_124 : decode cX9_workWhole 124 = .ok (.getfield 95, 3) := by decide +kernel
theorem dX9_workWhole_127 : decode cX9_workWhole 127 = .ok (.invokevirtual 48, 3) := by decide +kernel
theorem dX9_workWhole_130 : decode cX9_workWhole 130 = .ok (.aload_n 0, 1) := by decide +kernel
theorem dX9_workWhole_131 : decode cX9_workWhole 131 = .ok (.iconst 1, 1) := by decide +kernel
theorem dX9_workWhole_132 : decode cX9_workWhole 132 = .ok (.iload 6, 2) := by decide +kernel
theorem dX9_workWhole_134 : decode cX9_workWhole 134 = .ok (.aload_n 0, 1) := by decide +kernel
theorem dX9_workWhole_135 : decode cX9_workWhole 135 = .ok (.getfield 92, 3) := by decide +kernel
theorem dX9_workWhole_138 : decode cX9_workWhole 138 = .ok (.aload_n 0, 1) := by decide +kernel
theorem dX9_workWhole_139 : decode cX9_workWhole 139 = .ok (.getfield 99, 3) := by decide +kernel
theorem dX9_workWhole_142 : decode cX9_workWhole 142 = .ok (.invokevirtual 48, 3) := by decide +kernel
theorem dX9_workWhole_145 : decode cX9_workWhole 145 = .ok (.goto 62, 3) := by decide +kernel
theorem dX9_workWhole_148 : decode cX9_workWhole 148 = .ok (.aload_n 0, 1) := by decide +kernel
theorem dX9_workWhole_149 : decode cX9_workWhole 149 = .ok (.iload_n 1, 1) := by decide +kernel
theorem dX9_workWhole_150 : decode cX9_workWhole 150 = .ok (.iload_n 2, 1) := by decide +kernel
theorem dX9_workWhole_151 : decode cX9_workWhole 151 = .ok (.lload_n 3, 1) := by decide +kernel
theorem dX9_workWhole_152 : decode cX9_workWhole 152 = .ok (.invokevirtual 102, 3) := by decide +kernel
theorem dX9_workWhole_155 : decode cX9_workWhole 155 = .ok (.ireturn, 1) := by decide +kernel
theorem dX9_workWhole_156 : decode cX9_workWhole 156 = .ok (.aload_n 0, 1) := by decide +kernel
theorem dX9_workWhole_157 : decode cX9_workWhole 157 = .ok (.iconst 2, 1) := by decide +kernel
theorem dX9_workWhole_158 : decode cX9_workWhole 158 = .ok (.iload_n 1, 1) := by decide +kernel
theorem dX9_workWhole_159 : decode cX9_workWhole 159 = .ok (.iload_n 2, 1) := by decide +kernel
theorem dX9_workWhole_160 : decode cX9_workWhole 160 = .ok (.lload_n 3, 1) := by decide +kernel
theorem dX9_workWhole_161 : decode cX9_workWhole 161 = .ok (.invokevirtual 48, 3) := by decide +kernel
theorem dX9_workWhole_164 : decode cX9_workWhole 164 = .ok (.goto 43, 3) := by decide +kernel
theorem dX9_workWhole_167 : decode cX9_workWhole 167 = .ok (.aload_n 0, 1) := by decide +kernel
theorem dX9_workWhole_168 : decode cX9_workWhole 168 = .ok (.iconst 1, 1) := by decide +kernel
theorem dX9_workWhole_169 : decode cX9_workWhole 169 = .ok (.iload 6, 2) := by decide +kernel
theorem dX9_workWhole_171 : decode cX9_workWhole 171 = .ok (.iload_n 2, 1) := by decide +kernel
theorem dX9_workWhole_172 : decode cX9_workWhole 172 = .ok (.lload_n 3, 1) := by decide +kernel
theorem dX9_workWhole_173 : decode cX9_workWhole 173 = .ok (.invokevirtual 48, 3) := by decide +kernel
theorem dX9_workWhole_176 : decode cX9_workWhole 176 = .ok (.goto 31, 3) := by decide +kernel
theorem dX9_workWhole_179 : decode cX9_workWhole 179 = .ok (.aload_n 0, 1) := by decide +kernel
theorem dX9_workWhole_180 : decode cX9_workWhole 180 = .ok (.getfield 12, 3) := by decide +kernel
theorem dX9_workWhole_183 : decode cX9_workWhole 183 = .ok (.bipush 61, 2) := by decide +kernel
theorem dX9_workWhole_185 : decode cX9_workWhole 185 = .ok (.invokevirtual 72, 3) := by decide +kernel
theorem dX9_workWhole_188 : decode cX9_workWhole 188 = .ok (.ifCond .eq 17, 3) := by decide +kernel
theorem dX9_workWhole_191 : decode cX9_workWhole 191 = .ok (.aload_n 0, 1) := by decide +kernel
theorem dX9_workWhole_192 : decode cX9_workWhole 192 = .ok (.iload 6, 2) := by decide +kernel
theorem dX9_workWhole_194 : decode cX9_workWhole 194 = .ok (.lload_n 3, 1) := by decide +kernel
theorem dX9_workWhole_195 : decode cX9_workWhole 195 = .ok (.invokevirtual 105, 3) := by decide +kernel
theorem dX9_workWhole_198 : decode cX9_workWhole 198 = .ok (.ifCond .eq 7, 3) := by decide +kernel
theorem dX9_workWhole_201 : decode cX9_workWhole 201 = .ok (.iconst 1, 1) := by decide +kernel
theorem dX9_workWhole_202 : decode cX9_workWhole 202 = .ok (.goto 4, 3) := by decide +kernel
theorem dX9_workWhole_205 : decode cX9_workWhole 205 = .ok (.iconst 0, 1) := by decide +kernel
theorem dX9_workWhole_206 : decode cX9_workWhole 206 = .ok (.ireturn, 1) := by decide +kernel
theorem dX9_workWhole_207 : decode cX9_workWhole 207 = .ok (.aload_n 0, 1) := by decide +kernel
theorem dX9_workWhole_208 : decode cX9_workWhole 208 = .ok (.getfield 12, 3) := by decide +kernel
theorem dX9_workWhole_211 : decode cX9_workWhole 211 = .ok (.getstatic 109, 3) := by decide +kernel
theorem dX9_workWhole_214 : decode cX9_workWhole 214 = .ok (.iload 5, 2) := by decide +kernel
theorem dX9_workWhole_216 : decode cX9_workWhole 216 = .ok (.invokestatic 113, 3) := by decide +kernel
theorem dX9_workWhole_219 : decode cX9_workWhole 219 = .ok (.invokevirtual 72, 3) := by decide +kernel
theorem dX9_workWhole_222 : decode cX9_workWhole 222 = .ok (.ireturn, 1) := by decide +kernel
theorem dX9_workEither_0 : decode cX9_workEither 0 = .ok (.aload_n 0, 1) := by decide +kernel
theorem dX9_workEither_1 : decode cX9_workEither 1 = .ok (.getfield 36, 3) := by decide +kernel
theorem dX9_workEither_4 : decode cX9_workEither 4 = .ok (.aload_n 0, 1) := by decide +kernel
theorem dX9_workEither_5 : decode cX9_workEither 5 = .ok (.getfield 32, 3) := by decide +kernel
theorem dX9_workEither_8 : decode cX9_workEither 8 = .ok (.iload_n 1, 1) := by decide +kernel
theorem dX9_workEither_9 : decode cX9_workEither 9 = .ok (.invokevirtual 82, 3) := by decide +kernel
theorem dX9_workEither_12 : decode cX9_workEither 12 = .ok (.iload_n 2, 1) := by decide +kernel
theorem dX9_workEither_13 : decode cX9_workEither 13 = .ok (.invokevirtual 116, 3) := by decide +kernel
theorem dX9_workEither_16 : decode cX9_workEither 16 = .ok (.lstore 5, 2) := by decide +kernel
theorem dX9_workEither_18 : decode cX9_workEither 18 = .ok (.lload_n 3, 1) := by decide +kernel
theorem dX9_workEither_19 : decode cX9_workEither 19 = .ok (.lload 5, 2) := by decide +kernel
theorem dX9_workEither_21 : decode cX9_workEither 21 = .ok (.lcmp, 1) := by decide +kernel
theorem dX9_workEither_22 : decode cX9_workEither 22 = .ok (.ifCond .ge 28, 3) := by decide +kernel
theorem dX9_workEither_25 : decode cX9_workEither 25 = .ok (.aload_n 0, 1) := by decide +kernel
theorem dX9_workEither_26 : decode cX9_workEither 26 = .ok (.iconst 1, 1) := by decide +kernel
theorem dX9_workEither_27 : decode cX9_workEither 27 = .ok (.aload_n 0, 1) := by decide +kernel
theorem dX9_workEither_28 : decode cX9_workEither 28 = .ok (.getfield 32, 3) := by decide +kernel
theorem dX9_workEither_31 : decode cX9_workEither 31 = .ok (.iload_n 1, 1) := by decide +kernel
theorem dX9_workEither_32 : decode cX9_workEither 32 = .ok (.invokevirtual 82, 3) := by decide +kernel
theorem dX9_workEither_35 : decode cX9_workEither 35 = .ok (.iload_n 2, 1) := by decide +kernel
theorem dX9_workEither_36 : decode cX9_workEither 36 = .ok (.lload_n 3, 1) := by decide +kernel
theorem dX9_workEither_37 : decode cX9_workEither 37 = .ok (.invokevirtual 48, 3) := by decide +kernel
theorem dX9_workEither_40 : decode cX9_workEither 40 = .ok (.aload_n 0, 1) := by decide +kernel
theorem dX9_workEither_41 : decode cX9_workEither 41 = .ok (.getfield 12, 3) := by decide +kernel
theorem dX9_workEither_44 : decode cX9_workEither 44 = .ok (.bipush 49, 2) := by decide +kernel
theorem dX9_workEither_46 : decode cX9_workEither 46 = .ok (.invokevirtual 72, 3) := by decide +kernel
theorem dX9_workEither_49 : decode cX9_workEither 49 = .ok (.ireturn, 1) := by decide +kernel
theorem dX9_workEither_50 : decode cX9_workEither 50 = .ok (.aload_n 0, 1) := by decide +kernel
theorem dX9_workEither_51 : decode cX9_workEither 51 = .ok (.iconst 1, 1) := by decide +kernel
theorem dX9_workEither_52 : decode cX9_workEither 52 = .ok (.aload_n 0, 1) := by decide +kernel
theorem dX9_workEither_53 : decode cX9_workEither 53 = .ok (.getfield 32, 3) := by decide +kernel
theorem dX9_workEither_56 : decode cX9_workEither 56 = .ok (.iload_n 1, 1) := by decide +kernel
theorem dX9_workEither_57 : decode cX9_workEither 57 = .ok (.invokevirtual 85, 3) := by decide +kernel
theorem dX9_workEither_60 : decode cX9_workEither 60 = .ok (.iload_n 2, 1) := by decide +kernel
theorem dX9_workEither_61 : decode cX9_workEither 61 = .ok (.lload_n 3, 1) := by decide +kernel
theorem dX9_workEither_62 : decode cX9_workEither 62 = .ok (.lload 5, 2) := by decide +kernel
theorem dX9_workEither_64 : decode cX9_workEither 64 = .ok (.lsub, 1) := by decide +kernel
theorem dX9_workEither_65 : decode cX9_workEither 65 = .ok (.invokevirtual 48, 3) := by decide +kernel
theorem dX9_workEither_68 : decode cX9_workEither 68 = .ok (.aload_n 0, 1) := by decide +kernel
theorem dX9_workEither_69 : decode cX9_workEither 69 = .ok (.getfield 12, 3) := by decide +kernel
theorem dX9_workEither_72 : decode cX9_workEither 72 = .ok (.bipush 50, 2) := by decide +kernel
theorem dX9_workEither_74 : decode cX9_workEither 74 = .ok (.invokevirtual 72, 3) := by decide +kernel
theorem dX9_workEither_77 : decode cX9_workEither 77 = .ok (.ireturn, 1) := by decide +kernel
theorem dX9_workRest_0 : decode cX9_workRest 0 = .ok (.iload_n 2, 1) := by decide +kernel
theorem dX9_workRest_1 : decode cX9_workRest 1 = .ok (.ifCond .gt 25, 3) := by decide +kernel
theorem dX9_workRest_4 : decode cX9_workRest 4 = .ok (.aload_n 0, 1) := by decide +kernel
theorem dX9_workRest_5 : decode cX9_workRest 5 = .ok (.getfield 12, 3) := by decide +kernel
theorem dX9_workRest_8 : decode cX9_workRest 8 = .ok (.getstatic 122, 3) := by decide +kernel
theorem dX9_workRest_11 : decode cX9_workRest 11 = .ok (.aload_n 0, 1) := by decide +kernel
theorem dX9_workRest_12 : decode cX9_workRest 12 = .ok (.getfield 32, 3) := by decide +kernel
theorem dX9_workRest_15 : decode cX9_workRest 15 = .ok (.iload_n 1, 1) := by decide +kernel
theorem dX9_workRest_16 : decode cX9_workRest 16 = .ok (.invokevirtual 76, 3) := by decide +kernel
theorem dX9_workRest_19 : decode cX9_workRest 19 = .ok (.invokestatic 113, 3) := by decide +kernel
theorem dX9_workRest_22 : decode cX9_workRest 22 = .ok (.invokevirtual 72, 3) := by decide +kernel
theorem dX9_workRest_25 : decode cX9_workRest 25 = .ok (.ireturn, 1) := by decide +kernel
theorem dX9_workRest_26 : decode cX9_workRest 26 = .ok (.aload_n 0, 1) := by decide +kernel
theorem dX9_workRest_27 : decode cX9_workRest 27 = .ok (.getfield 32, 3) := by decide +kernel
theorem dX9_workRest_30 : decode cX9_workRest 30 = .ok (.iload_n 1, 1) := by decide +kernel
theorem dX9_workRest_31 : decode cX9_workRest 31 = .ok (.invokevirtual 125, 3) := by decide +kernel
theorem dX9_workRest_34 : decode cX9_workRest 34 = .ok (.ifCond .eq 13, 3) := by decide +kernel
theorem dX9_workRest_37 : decode cX9_workRest 37 = .ok (.aload_n 0, 1) := by decide +kernel
theorem dX9_workRest_38 : decode cX9_workRest 38 = .ok (.iload_n 1, 1) := by decide +kernel
theorem dX9_workRest_39 : decode cX9_workRest 39 = .ok (.iload_n 2, 1) := by decide +kernel
theorem dX9_workRest_40 : decode cX9_workRest 40 = .ok (.lload_n 3, 1) := by decide +kernel
theorem dX9_workRest_41 : decode cX9_workRest 41 = .ok (.invokevirtual 128, 3) := by decide +kernel
theorem dX9_workRest_44 : decode cX9_workRest 44 = .ok (.goto 10, 3) := by decide +kernel
theorem dX9_workRest_47 : decode cX9_workRest 47 = .ok (.aload_n 0, 1) := by decide +kernel
theorem dX9_workRest_48 : decode cX9_workRest 48 = .ok (.iload_n 1, 1) := by decide +kernel
theorem dX9_workRest_49 : decode cX9_workRest 49 = .ok (.iload_n 2, 1) := by decide +kernel
theorem dX9_workRest_50 : decode cX9_workRest 50 = .ok (.lload_n 3, 1) := by decide +kernel
theorem dX9_workRest_51 : decode cX9_workRest 51 = .ok (.invokevirtual 88, 3) := by decide +kernel
theorem dX9_workRest_54 : decode cX9_workRest 54 = .ok (.aload_n 0, 1) := by decide +kernel
theorem dX9_workRest_55 : decode cX9_workRest 55 = .ok (.iconst 2, 1) := by decide +kernel
theorem dX9_workRest_56 : decode cX9_workRest 56 = .ok (.iload_n 1, 1) := by decide +kernel
theorem dX9_workRest_57 : decode cX9_workRest 57 = .ok (.iload_n 2, 1) := by decide +kernel
theorem dX9_workRest_58 : decode cX9_workRest 58 = .ok (.aload_n 0, 1) := by decide +kernel
theorem dX9_workRest_59 : decode cX9_workRest 59 = .ok (.getfield 92, 3) := by decide +kernel
theorem dX9_workRest_62 : decode cX9_workRest 62 = .ok (.isub, 1) := by decide +kernel
theorem dX9_workRest_63 : decode cX9_workRest 63 = .ok (.aload_n 0, 1) := by decide +kernel
theorem dX9_workRest_64 : decode cX9_workRest 64 = .ok (.getfield 95, 3) := by decide +kernel
theorem dX9_workRest_67 : decode cX9_workRest 67 = .ok (.invokevirtual 48, 3) := by decide +kernel
theorem dX9_workRest_70 : decode cX9_workRest 70 = .ok (.aload_n 0, 1) := by decide +kernel
theorem dX9_workRest_71 : decode cX9_workRest 71 = .ok (.iconst 1, 1) := by decide +kernel
theorem dX9_workRest_72 : decode cX9_workRest 72 = .ok (.aload_n 0, 1) := by decide +kernel
theorem dX9_workRest_73 : decode cX9_workRest 73 = .ok (.getfield 32, 3) := by decide +kernel
theorem dX9_workRest_76 : decode cX9_workRest 76 = .ok (.iload_n 1, 1) := by decide +kernel
theorem dX9_workRest_77 : decode cX9_workRest 77 = .ok (.invokevirtual 82, 3) := by decide +kernel
theorem dX9_workRest_80 : decode cX9_workRest 80 = .ok (.aload_n 0, 1) := by decide +kernel
theorem dX9_workRest_81 : decode cX9_workRest 81 = .ok (.getfield 92, 3) := by decide +kernel
theorem dX9_workRest_84 : decode cX9_workRest 84 = .ok (.aload_n 0, 1) := by decide +kernel
theorem dX9_workRest_85 : decode cX9_workRest 85 = .ok (.getfield 99, 3) := by decide +kernel
theorem dX9_workRest_88 : decode cX9_workRest 88 = .ok (.invokevirtual 48, 3) := by decide +kernel
theorem dX9_workRest_91 : decode cX9_workRest 91 = .ok (.iconst 1, 1) := by decide +kernel
theorem dX9_workRest_92 : decode cX9_workRest 92 = .ok (.ireturn, 1) := by decide +kernel
theorem dX9_splitLed_0 : decode cX9_splitLed 0 = .ok (.aload_n 0, 1) := by decide +kernel
theorem dX9_splitLed_1 : decode cX9_splitLed 1 = .ok (.getfield 32, 3) := by decide +kernel
theorem dX9_splitLed_4 : decode cX9_splitLed 4 = .ok (.iload_n 1, 1) := by decide +kernel
theorem dX9_splitLed_5 : decode cX9_splitLed 5 = .ok (.invokevirtual 82, 3) := by decide +kernel
theorem dX9_splitLed_8 : decode cX9_splitLed 8 = .ok (.istore 5, 2) := by decide +kernel
theorem dX9_splitLed_10 : decode cX9_splitLed 10 = .ok (.aload_n 0, 1) := by decide +kernel
theorem dX9_splitLed_11 : decode cX9_splitLed 11 = .ok (.getfield 36, 3) := by decide +kernel
theorem dX9_splitLed_14 : decode cX9_splitLed 14 = .ok (.iload_n 1, 1) := by decide +kernel
theorem dX9_splitLed_15 : decode cX9_splitLed 15 = .ok (.invokevirtual 131, 3) := by decide +kernel
theorem dX9_splitLed_18 : decode cX9_splitLed 18 = .ok (.istore 6, 2) := by decide +kernel
theorem dX9_splitLed_20 : decode cX9_splitLed 20 = .ok (.lload_n 3, 1) := by decide +kernel
theorem dX9_splitLed_21 : decode cX9_splitLed 21 = .ok (.lstore 7, 2) := by decide +kernel
theorem dX9_splitLed_23 : decode cX9_splitLed 23 = .ok (.iconst 0, 1) := by decide +kernel
theorem dX9_splitLed_24 : decode cX9_splitLed 24 = .ok (.istore 9, 2) := by decide +kernel
theorem dX9_splitLed_26 : decode cX9_splitLed 26 = .ok (.iload 9, 2) := by decide +kernel
theorem dX9_splitLed_28 : decode cX9_splitLed 28 = .ok (.iload_n 2, 1) := by decide +kernel
theorem dX9_splitLed_29 : decode cX9_splitLed 29 = .ok (.if_icmp .ge 48, 3) := by decide +kernel
theorem dX9_splitLed_32 : decode cX9_splitLed 32 = .ok (.lload 7, 2) := by decide +kernel
theorem dX9_splitLed_34 : decode cX9_splitLed 34 = .ok (.aload_n 0, 1) := by decide +kernel
theorem dX9_splitLed_35 : decode cX9_splitLed 35 = .ok (.getfield 36, 3) := by decide +kernel
theorem dX9_splitLed_38 : decode cX9_splitLed 38 = .ok (.iload 5, 2) := by decide +kernel
theorem dX9_splitLed_40 : decode cX9_splitLed 40 = .ok (.iload 6, 2) := by decide +kernel
theorem dX9_splitLed_42 : decode cX9_splitLed 42 = .ok (.iload_n 2, 1) := by decide +kernel
theorem dX9_splitLed_43 : decode cX9_splitLed 43 = .ok (.iload 9, 2) := by decide +kernel
theorem dX9_splitLed_45 : decode cX9_splitLed 45 = .ok (.invokevirtual 134, 3) := by decide +kernel
theorem dX9_splitLed_48 : decode cX9_splitLed 48 = .ok (.lcmp, 1) := by decide +kernel
theorem dX9_splitLed_49 : decode cX9_splitLed 49 = .ok (.ifCond .lt 28, 3) := by decide +kernel
theorem dX9_splitLed_52 : decode cX9_splitLed 52 = .ok (.lload 7, 2) := by decide +kernel
theorem dX9_splitLed_54 : decode cX9_splitLed 54 = .ok (.aload_n 0, 1) := by decide +kernel
theorem dX9_splitLed_55 : decode cX9_splitLed 55 = .ok (.getfield 36, 3) := by decide +kernel
theorem dX9_splitLed_58 : decode cX9_splitLed 58 = .ok (.iload 5, 2) := by decide +kernel
theorem dX9_splitLed_60 : decode cX9_splitLed 60 = .ok (.iload 6, 2) := by decide +kernel
theorem dX9_splitLed_62 : decode cX9_splitLed 62 = .ok (.iload_n 2, 1) := by decide +kernel
theorem dX9_splitLed_63 : decode cX9_splitLed 63 = .ok (.iload 9, 2) := by decide +kernel
theorem dX9_splitLed_65 : decode cX9_splitLed 65 = .ok (.invokevirtual 134, 3) := by decide +kernel
theorem dX9_splitLed_68 : decode cX9_splitLed 68 = .ok (.lsub, 1) := by decide +kernel
theorem dX9_splitLed_69 : decode cX9_splitLed 69 = .ok (.lstore 7, 2) := by decide +kernel
theorem dX9_splitLed_71 : decode cX9_splitLed 71 = .ok (.iinc 9 1, 3) := by decide +kernel
theorem dX9_splitLed_74 : decode cX9_splitLed 74 = .ok (.goto (-48), 3) := by decide +kernel
theorem dX9_splitLed_77 : decode cX9_splitLed 77 = .ok (.aload_n 0, 1) := by decide +kernel
theorem dX9_splitLed_78 : decode cX9_splitLed 78 = .ok (.getfield 36, 3) := by decide +kernel
theorem dX9_splitLed_81 : decode cX9_splitLed 81 = .ok (.iload 6, 2) := by decide +kernel
theorem dX9_splitLed_83 : decode cX9_splitLed 83 = .ok (.iload_n 2, 1) := by decide +kernel
theorem dX9_splitLed_84 : decode cX9_splitLed 84 = .ok (.iload 9, 2) := by decide +kernel
theorem dX9_splitLed_86 : decode cX9_splitLed 86 = .ok (.isub, 1) := by decide +kernel
theorem dX9_splitLed_87 : decode cX9_splitLed 87 = .ok (.invokevirtual 116, 3) := by decide +kernel
theorem dX9_splitLed_90 : decode cX9_splitLed 90 = .ok (.lstore 10, 2) := by decide +kernel
theorem dX9_splitLed_92 : decode cX9_splitLed 92 = .ok (.aload_n 0, 1) := by decide +kernel
theorem dX9_splitLed_93 : decode cX9_splitLed 93 = .ok (.iload 9, 2) := by decide +kernel
theorem dX9_splitLed_95 : decode cX9_splitLed 95 = .ok (.putfield 92, 3) := by decide +kernel
theorem dX9_splitLed_98 : decode cX9_splitLed 98 = .ok (.aload_n 0, 1) := by decide +kernel
theorem dX9_splitLed_99 : decode cX9_splitLed 99 = .ok (.lload 10, 2) := by decide +kernel
theorem dX9_splitLed_101 : decode cX9_splitLed 101 = .ok (.lconst 0, 1) := by decide +kernel
theorem dX9_splitLed_102 : decode cX9_splitLed 102 = .ok (.lcmp, 1) := by decide +kernel
theorem dX9_splitLed_103 : decode cX9_splitLed 103 = .ok (.ifCond .le 11, 3) := by decide +kernel
theorem dX9_splitLed_106 : decode cX9_splitLed 106 = .ok (.lload 7, 2) := by decide +kernel
theorem dX9_splitLed_108 : decode cX9_splitLed 108 = .ok (.lload 10, 2) := by decide +kernel
theorem dX9_splitLed_110 : decode cX9_splitLed 110 = .ok (.ldiv, 1) := by decide +kernel
theorem dX9_splitLed_111 : decode cX9_splitLed 111 = .ok (.goto 4, 3) := by decide +kernel
theorem dX9_splitLed_114 : decode cX9_splitLed 114 = .ok (.lconst 0, 1) := by decide +kernel
theorem dX9_splitLed_115 : decode cX9_splitLed 115 = .ok (.putfield 99, 3) := by decide +kernel
theorem dX9_splitLed_118 : decode cX9_splitLed 118 = .ok (.aload_n 0, 1) := by decide +kernel
theorem dX9_splitLed_119 : decode cX9_splitLed 119 = .ok (.lload 10, 2) := by decide +kernel
theorem dX9_splitLed_121 : decode cX9_splitLed 121 = .ok (.lconst 0, 1) := by decide +kernel
theorem dX9_splitLed_122 : decode cX9_splitLed 122 = .ok (.lcmp, 1) := by decide +kernel
theorem dX9_splitLed_123 : decode cX9_splitLed 123 = .ok (.ifCond .le 11, 3) := by decide +kernel
theorem dX9_splitLed_126 : decode cX9_splitLed 126 = .ok (.lload 7, 2) := by decide +kernel
theorem dX9_splitLed_128 : decode cX9_splitLed 128 = .ok (.lload 10, 2) := by decide +kernel
theorem dX9_splitLed_130 : decode cX9_splitLed 130 = .ok (.lrem, 1) := by decide +kernel
theorem dX9_splitLed_131 : decode cX9_splitLed 131 = .ok (.goto 4, 3) := by decide +kernel
theorem dX9_splitLed_134 : decode cX9_splitLed 134 = .ok (.lconst 0, 1) := by decide +kernel
theorem dX9_splitLed_135 : decode cX9_splitLed 135 = .ok (.putfield 95, 3) := by decide +kernel
theorem dX9_splitLed_138 : decode cX9_splitLed 138 = .ok (.return_, 1) := by decide +kernel
theorem dX9_splitBag_0 : decode cX9_splitBag 0 = .ok (.iconst 1, 1) := by decide +kernel
theorem dX9_splitBag_1 : decode cX9_splitBag 1 = .ok (.istore 5, 2) := by decide +kernel
theorem dX9_splitBag_3 : decode cX9_splitBag 3 = .ok (.iload 5, 2) := by decide +kernel
theorem dX9_splitBag_5 : decode cX9_splitBag 5 = .ok (.iload_n 2, 1) := by decide +kernel
theorem dX9_splitBag_6 : decode cX9_splitBag 6 = .ok (.if_icmp .ge 25, 3) := by decide +kernel
theorem dX9_splitBag_9 : decode cX9_splitBag 9 = .ok (.lload_n 3, 1) := by decide +kernel
theorem dX9_splitBag_10 : decode cX9_splitBag 10 = .ok (.aload_n 0, 1) := by decide +kernel
theorem dX9_splitBag_11 : decode cX9_splitBag 11 = .ok (.getfield 36, 3) := by decide +kernel
theorem dX9_splitBag_14 : decode cX9_splitBag 14 = .ok (.iload_n 1, 1) := by decide +kernel
theorem dX9_splitBag_15 : decode cX9_splitBag 15 = .ok (.iload_n 2, 1) := by decide +kernel
theorem dX9_splitBag_16 : decode cX9_splitBag 16 = .ok (.iload 5, 2) := by decide +kernel
theorem dX9_splitBag_18 : decode cX9_splitBag 18 = .ok (.invokevirtual 138, 3) := by decide +kernel
theorem dX9_splitBag_21 : decode cX9_splitBag 21 = .ok (.lcmp, 1) := by decide +kernel
theorem dX9_splitBag_22 : decode cX9_splitBag 22 = .ok (.ifCond .lt 9, 3) := by decide +kernel
theorem dX9_splitBag_25 : decode cX9_splitBag 25 = .ok (.iinc 5 1, 3) := by decide +kernel
theorem dX9_splitBag_28 : decode cX9_splitBag 28 = .ok (.goto (-25), 3) := by decide +kernel
theorem dX9_splitBag_31 : decode cX9_splitBag 31 = .ok (.lconst 0, 1) := by decide +kernel
theorem dX9_splitBag_32 : decode cX9_splitBag 32 = .ok (.lstore 6, 2) := by decide +kernel
theorem dX9_splitBag_34 : decode cX9_splitBag 34 = .ok (.lconst 0, 1) := by decide +kernel
theorem dX9_splitBag_35 : decode cX9_splitBag 35 = .ok (.aload_n 0, 1) := by decide +kernel
theorem dX9_splitBag_36 : decode cX9_splitBag 36 = .ok (.getfield 36, 3) := by decide +kernel
theorem dX9_splitBag_39 : decode cX9_splitBag 39 = .ok (.aload_n 0, 1) := by decide +kernel
theorem dX9_splitBag_40 : decode cX9_splitBag 40 = .ok (.getfield 32, 3) := by decide +kernel
theorem dX9_splitBag_43 : decode cX9_splitBag 43 = .ok (.iload_n 1, 1) := by decide +kernel
theorem dX9_splitBag_44 : decode cX9_splitBag 44 = .ok (.invokevirtual 82, 3) := by decide +kernel
theorem dX9_splitBag_47 : decode cX9_splitBag 47 = .ok (.iload 5, 2) := by decide +kernel
theorem dX9_splitBag_49 : decode cX9_splitBag 49 = .ok (.invokevirtual 116, 3) := by decide +kernel
theorem dX9_splitBag_52 : decode cX9_splitBag 52 = .ok (.lconst 1, 1) := by decide +kernel
theorem dX9_splitBag_53 : decode cX9_splitBag 53 = .ok (.lsub, 1) := by decide +kernel
theorem dX9_splitBag_54 : decode cX9_splitBag 54 = .ok (.invokestatic 142, 3) := by decide +kernel
theorem dX9_splitBag_57 : decode cX9_splitBag 57 = .ok (.lstore 8, 2) := by decide +kernel
theorem dX9_splitBag_59 : decode cX9_splitBag 59 = .ok (.iconst 0, 1) := by decide +kernel
theorem dX9_splitBag_60 : decode cX9_splitBag 60 = .ok (.istore 10, 2) := by decide +kernel
theorem dX9_splitBag_62 : decode cX9_splitBag 62 = .ok (.iload 10, 2) := by decide +kernel
theorem dX9_splitBag_64 : decode cX9_splitBag 64 = .ok (.bipush 64, 2) := by decide +kernel
theorem dX9_splitBag_66 : decode cX9_splitBag 66 = .ok (.if_icmp .ge 64, 3) := by decide +kernel
theorem dX9_splitBag_69 : decode cX9_splitBag 69 = .ok (.lload 6, 2) := by decide +kernel
theorem dX9_splitBag_71 : decode cX9_splitBag 71 = .ok (.lload 8, 2) := by decide +kernel
theorem dX9_splitBag_73 : decode cX9_splitBag 73 = .ok (.lcmp, 1) := by decide +kernel
theorem dX9_splitBag_74 : decode cX9_splitBag 74 = .ok (.ifCond .ge 56, 3) := by decide +kernel
theorem dX9_splitBag_77 : decode cX9_splitBag 77 = .ok (.lload 6, 2) := by decide +kernel
theorem dX9_splitBag_79 : decode cX9_splitBag 79 = .ok (.lload 8, 2) := by decide +kernel
theorem dX9_splitBag_81 : decode cX9_splitBag 81 = .ok (.lload 6, 2) := by decide +kernel
theorem dX9_splitBag_83 : decode cX9_splitBag 83 = .ok (.lsub, 1) := by decide +kernel
theorem dX9_splitBag_84 : decode cX9_splitBag 84 = .ok (.lconst 1, 1) := by decide +kernel
theorem dX9_splitBag_85 : decode cX9_splitBag 85 = .ok (.ladd, 1) := by decide +kernel
theorem dX9_splitBag_86 : decode cX9_splitBag 86 = .ok (.ldc2_w 148, 3) := by decide +kernel
theorem dX9_splitBag_89 : decode cX9_splitBag 89 = .ok (.ldiv, 1) := by decide +kernel
theorem dX9_splitBag_90 : decode cX9_splitBag 90 = .ok (.ladd, 1) := by decide +kernel
theorem dX9_splitBag_91 : decode cX9_splitBag 91 = .ok (.lstore 11, 2) := by decide +kernel
theorem dX9_splitBag_93 : decode cX9_splitBag 93 = .ok (.aload_n 0, 1) := by decide +kernel
theorem dX9_splitBag_94 : decode cX9_splitBag 94 = .ok (.getfield 36, 3) := by decide +kernel
theorem dX9_splitBag_97 : decode cX9_splitBag 97 = .ok (.iload_n 1, 1) := by decide +kernel
theorem dX9_splitBag_98 : decode cX9_splitBag 98 = .ok (.iload_n 2, 1) := by decide +kernel
theorem dX9_splitBag_99 : decode cX9_splitBag 99 = .ok (.iload 5, 2) := by decide +kernel
theorem dX9_splitBag_101 : decode cX9_splitBag 101 = .ok (.lload 11, 2) := by decide +kernel
theorem dX9_splitBag_103 : decode cX9_splitBag 103 = .ok (.invokevirtual 150, 3) := by decide +kernel
theorem dX9_splitBag_106 : decode cX9_splitBag 106 = .ok (.lload_n 3, 1) := by decide +kernel
theorem dX9_splitBag_107 : decode cX9_splitBag 107 = .ok (.lcmp, 1) := by decide +kernel
theorem dX9_splitBag_108 : decode cX9_splitBag 108 = .ok (.ifCond .gt 10, 3) := by decide +kernel
theorem dX9_splitBag_111 : decode cX9_splitBag 111 = .ok (.lload 11, 2) := by decide +kernel
theorem dX9_splitBag_113 : decode cX9_splitBag 113 = .ok (.lstore 6, 2) := by decide +kernel
theorem dX9_splitBag_115 : decode cX9_splitBag 115 = .ok (.goto 9, 3) := by decide +kernel
theorem dX9_splitBag_118 : decode cX9_splitBag 118 = .ok (.lload 11, 2) := by decide +kernel
theorem dX9_splitBag_120 : decode cX9_splitBag 120 = .ok (.lconst 1, 1) := by decide +kernel
theorem dX9_splitBag_121 : decode cX9_splitBag 121 = .ok (.lsub, 1) := by decide +kernel
theorem dX9_splitBag_122 : decode cX9_splitBag 122 = .ok (.lstore 8, 2) := by decide +kernel
theorem dX9_splitBag_124 : decode cX9_splitBag 124 = .ok (.iinc 10 1, 3) := by decide +kernel
theorem dX9_splitBag_127 : decode cX9_splitBag 127 = .ok (.goto (-65), 3) := by decide +kernel
theorem dX9_splitBag_130 : decode cX9_splitBag 130 = .ok (.aload_n 0, 1) := by decide +kernel
theorem dX9_splitBag_131 : decode cX9_splitBag 131 = .ok (.iload 5, 2) := by decide +kernel
theorem dX9_splitBag_133 : decode cX9_splitBag 133 = .ok (.putfield 92, 3) := by decide +kernel
theorem dX9_splitBag_136 : decode cX9_splitBag 136 = .ok (.aload_n 0, 1) := by decide +kernel
theorem dX9_splitBag_137 : decode cX9_splitBag 137 = .ok (.lload 6, 2) := by decide +kernel
theorem dX9_splitBag_139 : decode cX9_splitBag 139 = .ok (.putfield 99, 3) := by decide +kernel
theorem dX9_splitBag_142 : decode cX9_splitBag 142 = .ok (.aload_n 0, 1) := by decide +kernel
theorem dX9_splitBag_143 : decode cX9_splitBag 143 = .ok (.lload_n 3, 1) := by decide +kernel
theorem dX9_splitBag_144 : decode cX9_splitBag 144 = .ok (.aload_n 0, 1) := by decide +kernel
theorem dX9_splitBag_145 : decode cX9_splitBag 145 = .ok (.getfield 36, 3) := by decide +kernel
theorem dX9_splitBag_148 : decode cX9_splitBag 148 = .ok (.iload_n 1, 1) := by decide +kernel
theorem dX9_splitBag_149 : decode cX9_splitBag 149 = .ok (.iload_n 2, 1) := by decide +kernel
theorem dX9_splitBag_150 : decode cX9_splitBag 150 = .ok (.iload 5, 2) := by decide +kernel
theorem dX9_splitBag_152 : decode cX9_splitBag 152 = .ok (.lload 6, 2) := by decide +kernel
theorem dX9_splitBag_154 : decode cX9_splitBag 154 = .ok (.invokevirtual 150, 3) := by decide +kernel
theorem dX9_splitBag_157 : decode cX9_splitBag 157 = .ok (.lsub, 1) := by decide +kernel
theorem dX9_splitBag_158 : decode cX9_splitBag 158 = .ok (.putfield 95, 3) := by decide +kernel
theorem dX9_splitBag_161 : decode cX9_splitBag 161 = .ok (.return_, 1) := by decide +kernel
theorem dX9_addLetters_0 : decode cX9_addLetters 0 = .ok (.lload_n 2, 1) := by decide +kernel
theorem dX9_addLetters_1 : decode cX9_addLetters 1 = .ok (.lstore 4, 2) := by decide +kernel
theorem dX9_addLetters_3 : decode cX9_addLetters 3 = .ok (.iconst 0, 1) := by decide +kernel
theorem dX9_addLetters_4 : decode cX9_addLetters 4 = .ok (.istore 6, 2) := by decide +kernel
theorem dX9_addLetters_6 : decode cX9_addLetters 6 = .ok (.iload_n 1, 1) := by decide +kernel
theorem dX9_addLetters_7 : decode cX9_addLetters 7 = .ok (.iconst 1, 1) := by decide +kernel
theorem dX9_addLetters_8 : decode cX9_addLetters 8 = .ok (.isub, 1) := by decide +kernel
theorem dX9_addLetters_9 : decode cX9_addLetters 9 = .ok (.istore 7, 2) := by decide +kernel
theorem dX9_addLetters_11 : decode cX9_addLetters 11 = .ok (.iload 7, 2) := by decide +kernel
theorem dX9_addLetters_13 : decode cX9_addLetters 13 = .ok (.ifCond .lt 79, 3) := by decide +kernel
theorem dX9_addLetters_16 : decode cX9_addLetters 16 = .ok (.iload 7, 2) := by decide +kernel
theorem dX9_addLetters_18 : decode cX9_addLetters 18 = .ok (.invokestatic 154, 3) := by decide +kernel
theorem dX9_addLetters_21 : decode cX9_addLetters 21 = .ok (.lstore 8, 2) := by decide +kernel
theorem dX9_addLetters_23 : decode cX9_addLetters 23 = .ok (.lload 8, 2) := by decide +kernel
theorem dX9_addLetters_25 : decode cX9_addLetters 25 = .ok (.lconst 0, 1) := by decide +kernel
theorem dX9_addLetters_26 : decode cX9_addLetters 26 = .ok (.lcmp, 1) := by decide +kernel
theorem dX9_addLetters_27 : decode cX9_addLetters 27 = .ok (.ifCond .le 11, 3) := by decide +kernel
theorem dX9_addLetters_30 : decode cX9_addLetters 30 = .ok (.lload 4, 2) := by decide +kernel
theorem dX9_addLetters_32 : decode cX9_addLetters 32 = .ok (.lload 8, 2) := by decide +kernel
theorem dX9_addLetters_34 : decode cX9_addLetters 34 = .ok (.ldiv, 1) := by decide +kernel
theorem dX9_addLetters_35 : decode cX9_addLetters 35 = .ok (.goto 4, 3) := by decide +kernel
theorem dX9_addLetters_38 : decode cX9_addLetters 38 = .ok (.lconst 0, 1) := by decide +kernel
theorem dX9_addLetters_39 : decode cX9_addLetters 39 = .ok (.lstore 10, 2) := by decide +kernel
theorem dX9_addLetters_41 : decode cX9_addLetters 41 = .ok (.lload 4, 2) := by decide +kernel
theorem dX9_addLetters_43 : decode cX9_addLetters 43 = .ok (.lload 10, 2) := by decide +kernel
theorem dX9_addLetters_45 : decode cX9_addLetters 45 = .ok (.lload 8, 2) := by decide +kernel
theorem dX9_addLetters_47 : decode cX9_addLetters 47 = .ok (.lmul, 1) := by decide +kernel
theorem dX9_addLetters_48 : decode cX9_addLetters 48 = .ok (.lsub, 1) := by decide +kernel
theorem dX9_addLetters_49 : decode cX9_addLetters 49 = .ok (.lstore 4, 2) := by decide +kernel
theorem dX9_addLetters_51 : decode cX9_addLetters 51 = .ok (.iload 6, 2) := by decide +kernel
theorem dX9_addLetters_53 : decode cX9_addLetters 53 = .ok (.lload 10, 2) := by decide +kernel
theorem dX9_addLetters_55 : decode cX9_addLetters 55 = .ok (.invokestatic 160, 3) := by decide +kernel
theorem dX9_addLetters_58 : decode cX9_addLetters 58 = .ok (.istore 12, 2) := by decide +kernel
theorem dX9_addLetters_60 : decode cX9_addLetters 60 = .ok (.iload 6, 2) := by decide +kernel
theorem dX9_addLetters_62 : decode cX9_addLetters 62 = .ok (.iconst 1, 1) := by decide +kernel
theorem dX9_addLetters_63 : decode cX9_addLetters 63 = .ok (.iload 12, 2) := by decide +kernel
theorem dX9_addLetters_65 : decode cX9_addLetters 65 = .ok (.ishl, 1) := by decide +kernel
theorem dX9_addLetters_66 : decode cX9_addLetters 66 = .ok (.ior, 1) := by decide +kernel
theorem dX9_addLetters_67 : decode cX9_addLetters 67 = .ok (.istore 6, 2) := by decide +kernel
theorem dX9_addLetters_69 : decode cX9_addLetters 69 = .ok (.aload_n 0, 1) := by decide +kernel
theorem dX9_addLetters_70 : decode cX9_addLetters 70 = .ok (.getfield 12, 3) := by decide +kernel
theorem dX9_addLetters_73 : decode cX9_addLetters 73 = .ok (.bipush 97, 2) := by decide +kernel
theorem dX9_addLetters_75 : decode cX9_addLetters 75 = .ok (.iload 12, 2) := by decide +kernel
theorem dX9_addLetters_77 : decode cX9_addLetters 77 = .ok (.iadd, 1) := by decide +kernel
theorem dX9_addLetters_78 : decode cX9_addLetters 78 = .ok (.invokevirtual 72, 3) := by decide +kernel
theorem dX9_addLetters_81 : decode cX9_addLetters 81 = .ok (.ifCond .ne 5, 3) := by decide +kernel
theorem dX9_addLetters_84 : decode cX9_addLetters 84 = .ok (.iconst 0, 1) := by decide +kernel
theorem dX9_addLetters_85 : decode cX9_addLetters 85 = .ok (.ireturn, 1) := by decide +kernel
theorem dX9_addLetters_86 : decode cX9_addLetters 86 = .ok (.iinc 7 (-1), 3) := by decide +kernel
theorem dX9_addLetters_89 : decode cX9_addLetters 89 = .ok (.goto (-78), 3) := by decide +kernel
theorem dX9_addLetters_92 : decode cX9_addLetters 92 = .ok (.iconst 1, 1) := by decide +kernel
theorem dX9_addLetters_93 : decode cX9_addLetters 93 = .ok (.ireturn, 1) := by decide +kernel
theorem dX9_unusedLetter_0 : decode cX9_unusedLetter 0 = .ok (.lload_n 1, 1) := by decide +kernel
theorem dX9_unusedLetter_1 : decode cX9_unusedLetter 1 = .ok (.lstore_n 3, 1) := by decide +kernel
theorem dX9_unusedLetter_2 : decode cX9_unusedLetter 2 = .ok (.iconst 0, 1) := by decide +kernel
theorem dX9_unusedLetter_3 : decode cX9_unusedLetter 3 = .ok (.istore 5, 2) := by decide +kernel
theorem dX9_unusedLetter_5 : decode cX9_unusedLetter 5 = .ok (.iload 5, 2) := by decide +kernel
theorem dX9_unusedLetter_7 : decode cX9_unusedLetter 7 = .ok (.bipush 8, 2) := by decide +kernel
theorem dX9_unusedLetter_9 : decode cX9_unusedLetter 9 = .ok (.if_icmp .ge 31, 3) := by decide +kernel
theorem dX9_unusedLetter_12 : decode cX9_unusedLetter 12 = .ok (.iload_n 0, 1) := by decide +kernel
theorem dX9_unusedLetter_13 : decode cX9_unusedLetter 13 = .ok (.iload 5, 2) := by decide +kernel
theorem dX9_unusedLetter_15 : decode cX9_unusedLetter 15 = .ok (.ishr, 1) := by decide +kernel
theorem dX9_unusedLetter_16 : decode cX9_unusedLetter 16 = .ok (.iconst 1, 1) := by decide +kernel
theorem dX9_unusedLetter_17 : decode cX9_unusedLetter 17 = .ok (.iand, 1) := by decide +kernel
theorem dX9_unusedLetter_18 : decode cX9_unusedLetter 18 = .ok (.ifCond .ne 16, 3) := by decide +kernel
theorem dX9_unusedLetter_21 : decode cX9_unusedLetter 21 = .ok (.lload_n 3, 1) := by decide +kernel
theorem dX9_unusedLetter_22 : decode cX9_unusedLetter 22 = .ok (.lconst 0, 1) := by decide +kernel
theorem dX9_unusedLetter_23 : decode cX9_unusedLetter 23 = .ok (.lcmp, 1) := by decide +kernel
theorem dX9_unusedLetter_24 : decode cX9_unusedLetter 24 = .ok (.ifCond .ne 6, 3) := by decide +kernel
theorem dX9_unusedLetter_27 : decode cX9_unusedLetter 27 = .ok (.iload 5, 2) := by decide +kernel
theorem dX9_unusedLetter_29 : decode cX9_unusedLetter 29 = .ok (.ireturn, 1) := by decide +kernel
theorem dX9_unusedLetter_30 : decode cX9_unusedLetter 30 = .ok (.lload_n 3, 1) := by decide +kernel
theorem dX9_unusedLetter_31 : decode cX9_unusedLetter 31 = .ok (.lconst 1, 1) := by decide +kernel
theorem dX9_unusedLetter_32 : decode cX9_unusedLetter 32 = .ok (.lsub, 1) := by decide +kernel
theorem dX9_unusedLetter_33 : decode cX9_unusedLetter 33 = .ok (.lstore_n 3, 1) := by decide +kernel
theorem dX9_unusedLetter_34 : decode cX9_unusedLetter 34 = .ok (.iinc 5 1, 3) := by decide +kernel
theorem dX9_unusedLetter_37 : decode cX9_unusedLetter 37 = .ok (.goto (-32), 3) := by decide +kernel
theorem dX9_unusedLetter_40 : decode cX9_unusedLetter 40 = .ok (.iconst 0, 1) := by decide +kernel
theorem dX9_unusedLetter_41 : decode cX9_unusedLetter 41 = .ok (.ireturn, 1) := by decide +kernel
theorem dX10_init_0 : decode cX10_init 0 = .ok (.aload_n 0, 1) := by decide +kernel
theorem dX10_init_1 : decode cX10_init 1 = .ok (.invokespecial 3, 3) := by decide +kernel
theorem dX10_init_4 : decode cX10_init 4 = .ok (.aload_n 0, 1) := by decide +kernel
theorem dX10_init_5 : decode cX10_init 5 = .ok (.new 9, 3) := by decide +kernel
theorem dX10_init_8 : decode cX10_init 8 = .ok (.dup, 1) := by decide +kernel
theorem dX10_init_9 : decode cX10_init 9 = .ok (.invokespecial 11, 3) := by decide +kernel
theorem dX10_init_12 : decode cX10_init 12 = .ok (.putfield 12, 3) := by decide +kernel
theorem dX10_init_15 : decode cX10_init 15 = .ok (.aload_n 0, 1) := by decide +kernel
theorem dX10_init_16 : decode cX10_init 16 = .ok (.new 16, 3) := by decide +kernel
theorem dX10_init_19 : decode cX10_init 19 = .ok (.dup, 1) := by decide +kernel
theorem dX10_init_20 : decode cX10_init 20 = .ok (.aload_n 0, 1) := by decide +kernel
theorem dX10_init_21 : decode cX10_init 21 = .ok (.getfield 12, 3) := by decide +kernel
theorem dX10_init_24 : decode cX10_init 24 = .ok (.invokespecial 18, 3) := by decide +kernel
theorem dX10_init_27 : decode cX10_init 27 = .ok (.putfield 21, 3) := by decide +kernel
theorem dX10_init_30 : decode cX10_init 30 = .ok (.aload_n 0, 1) := by decide +kernel
theorem dX10_init_31 : decode cX10_init 31 = .ok (.new 25, 3) := by decide +kernel
theorem dX10_init_34 : decode cX10_init 34 = .ok (.dup, 1) := by decide +kernel
theorem dX10_init_35 : decode cX10_init 35 = .ok (.aload_n 0, 1) := by decide +kernel
theorem dX10_init_36 : decode cX10_init 36 = .ok (.getfield 12, 3) := by decide +kernel
theorem dX10_init_39 : decode cX10_init 39 = .ok (.invokespecial 27, 3) := by decide +kernel
theorem dX10_init_42 : decode cX10_init 42 = .ok (.putfield 28, 3) := by decide +kernel
theorem dX10_init_45 : decode cX10_init 45 = .ok (.aload_n 0, 1) := by decide +kernel
theorem dX10_init_46 : decode cX10_init 46 = .ok (.new 32, 3) := by decide +kernel
theorem dX10_init_49 : decode cX10_init 49 = .ok (.dup, 1) := by decide +kernel
theorem dX10_init_50 : decode cX10_init 50 = .ok (.aload_n 0, 1) := by decide +kernel
theorem dX10_init_51 : decode cX10_init 51 = .ok (.getfield 12, 3) := by decide +kernel
theorem dX10_init_54 : decode cX10_init 54 = .ok (.aload_n 0, 1) := by decide +kernel
theorem dX10_init_55 : decode cX10_init 55 = .ok (.getfield 28, 3) := by decide +kernel
theorem dX10_init_58 : decode cX10_init 58 = .ok (.invokespecial 34, 3) := by decide +kernel
theorem dX10_init_61 : decode cX10_init 61 = .ok (.putfield 37, 3) := by decide +kernel
theorem dX10_init_64 : decode cX10_init 64 = .ok (.aload_n 0, 1) := by decide +kernel
theorem dX10_init_65 : decode cX10_init 65 = .ok (.new 41, 3) := by decide +kernel
theorem dX10_init_68 : decode cX10_init 68 = .ok (.dup, 1) := by decide +kernel
theorem dX10_init_69 : decode cX10_init 69 = .ok (.aload_n 0, 1) := by decide +kernel
theorem dX10_init_70 : decode cX10_init 70 = .ok (.getfield 12, 3) := by decide +kernel
theorem dX10_init_73 : decode cX10_init 73 = .ok (.aload_n 0, 1) := by decide +kernel
theorem dX10_init_74 : decode cX10_init 74 = .ok (.getfield 37, 3) := by decide +kernel
theorem dX10_init_77 : decode cX10_init 77 = .ok (.invokespecial 43, 3) := by decide +kernel
theorem dX10_init_80 : decode cX10_init 80 = .ok (.putfield 46, 3) := by decide +kernel
theorem dX10_init_83 : decode cX10_init 83 = .ok (.aload_n 0, 1) := by decide +kernel
theorem dX10_init_84 : decode cX10_init 84 = .ok (.new 50, 3) := by decide +kernel
theorem dX10_init_87 : decode cX10_init 87 = .ok (.dup, 1) := by decide +kernel
theorem dX10_init_88 : decode cX10_init 88 = .ok (.invokespecial 52, 3) := by decide +kernel
theorem dX10_init_91 : decode cX10_init 91 = .ok (.putfield 53, 3) := by decide +kernel
theorem dX10_init_94 : decode cX10_init 94 = .ok (.aload_n 0, 1) := by decide +kernel
theorem dX10_init_95 : decode cX10_init 95 = .ok (.new 50, 3) := by decide +kernel
theorem dX10_init_98 : decode cX10_init 98 = .ok (.dup, 1) := by decide +kernel
theorem dX10_init_99 : decode cX10_init 99 = .ok (.invokespecial 52, 3) := by decide +kernel
theorem dX10_init_102 : decode cX10_init 102 = .ok (.putfield 57, 3) := by decide +kernel
theorem dX10_init_105 : decode cX10_init 105 = .ok (.aload_n 0, 1) := by decide +kernel
theorem dX10_init_106 : decode cX10_init 106 = .ok (.new 60, 3) := by decide +kernel
theorem dX10_init_109 : decode cX10_init 109 = .ok (.dup, 1) := by decide +kernel
theorem dX10_init_110 : decode cX10_init 110 = .ok (.aload_n 0, 1) := by decide +kernel
theorem dX10_init_111 : decode cX10_init 111 = .ok (.getfield 12, 3) := by decide +kernel
theorem dX10_init_114 : decode cX10_init 114 = .ok (.aload_n 0, 1) := by decide +kernel
theorem dX10_init_115 : decode cX10_init 115 = .ok (.getfield 53, 3) := by decide +kernel
theorem dX10_init_118 : decode cX10_init 118 = .ok (.invokespecial 62, 3) := by decide +kernel
theorem dX10_init_121 : decode cX10_init 121 = .ok (.putfield 65, 3) := by decide +kernel
theorem dX10_init_124 : decode cX10_init 124 = .ok (.aload_n 0, 1) := by decide +kernel
theorem dX10_init_125 : decode cX10_init 125 = .ok (.new 69, 3) := by decide +kernel
theorem dX10_init_128 : decode cX10_init 128 = .ok (.dup, 1) := by decide +kernel
theorem dX10_init_129 : decode cX10_init 129 = .ok (.aload_n 0, 1) := by decide +kernel
theorem dX10_init_130 : decode cX10_init 130 = .ok (.getfield 12, 3) := by decide +kernel
theorem dX10_init_133 : decode cX10_init 133 = .ok (.aload_n 0, 1) := by decide +kernel
theorem dX10_init_134 : decode cX10_init 134 = .ok (.getfield 37, 3) := by decide +kernel
theorem dX10_init_137 : decode cX10_init 137 = .ok (.aload_n 0, 1) := by decide +kernel
theorem dX10_init_138 : decode cX10_init 138 = .ok (.getfield 65, 3) := by decide +kernel
theorem dX10_init_141 : decode cX10_init 141 = .ok (.aload_n 0, 1) := by decide +kernel
theorem dX10_init_142 : decode cX10_init 142 = .ok (.getfield 53, 3) := by decide +kernel
theorem dX10_init_145 : decode cX10_init 145 = .ok (.invokespecial 71, 3) := by decide +kernel
theorem dX10_init_148 : decode cX10_init 148 = .ok (.putfield 74, 3) := by decide +kernel
theorem dX10_init_151 : decode cX10_init 151 = .ok (.return_, 1) := by decide +kernel
theorem dX10_shape_0 : decode cX10_shape 0 = .ok (.iload_n 1, 1) := by decide +kernel
theorem dX10_shape_1 : decode cX10_shape 1 = .ok (.iload_n 2, 1) := by decide +kernel
theorem dX10_shape_2 : decode cX10_shape 2 = .ok (.iload_n 3, 1) := by decide +kernel
theorem dX10_shape_3 : decode cX10_shape 3 = .ok (.invokestatic 78, 3) := by decide +kernel
theorem dX10_shape_6 : decode cX10_shape 6 = .ok (.ifCond .ne 7, 3) := by decide +kernel
theorem dX10_shape_9 : decode cX10_shape 9 = .ok (.ldc2_w 82, 3) := by decide +kernel
theorem dX10_shape_12 : decode cX10_shape 12 = .ok (.lreturn, 1) := by decide +kernel
theorem dX10_shape_13 : decode cX10_shape 13 = .ok (.aload_n 0, 1) := by decide +kernel
theorem dX10_shape_14 : decode cX10_shape 14 = .ok (.getfield 12, 3) := by decide +kernel
theorem dX10_shape_17 : decode cX10_shape 17 = .ok (.invokevirtual 84, 3) := by decide +kernel
theorem dX10_shape_20 : decode cX10_shape 20 = .ok (.bipush 16, 2) := by decide +kernel
theorem dX10_shape_22 : decode cX10_shape 22 = .ok (.if_icmp .lt 7, 3) := by decide +kernel
theorem dX10_shape_25 : decode cX10_shape 25 = .ok (.ldc2_w 88, 3) := by decide +kernel
theorem dX10_shape_28 : decode cX10_shape 28 = .ok (.lreturn, 1) := by decide +kernel
theorem dX10_shape_29 : decode cX10_shape 29 = .ok (.aload_n 0, 1) := by decide +kernel
theorem dX10_shape_30 : decode cX10_shape 30 = .ok (.getfield 12, 3) := by decide +kernel
theorem dX10_shape_33 : decode cX10_shape 33 = .ok (.invokevirtual 84, 3) := by decide +kernel
theorem dX10_shape_36 : decode cX10_shape 36 = .ok (.istore 4, 2) := by decide +kernel
theorem dX10_shape_38 : decode cX10_shape 38 = .ok (.aload_n 0, 1) := by decide +kernel
theorem dX10_shape_39 : decode cX10_shape 39 = .ok (.getfield 21, 3) := by decide +kernel
theorem dX10_shape_42 : decode cX10_shape 42 = .ok (.iload 4, 2) := by decide +kernel
theorem dX10_shape_44 : decode cX10_shape 44 = .ok (.iconst (-1), 1) := by decide +kernel
theorem dX10_shape_45 : decode cX10_shape 45 = .ok (.iconst 0, 1) := by decide +kernel
theorem dX10_shape_46 : decode cX10_shape 46 = .ok (.iconst 0, 1) := by decide +kernel
theorem dX10_shape_47 : decode cX10_shape 47 = .ok (.invokevirtual 90, 3) := by decide +kernel
theorem dX10_shape_50 : decode cX10_shape 50 = .ok (.aload_n 0, 1) := by decide +kernel
theorem dX10_shape_51 : decode cX10_shape 51 = .ok (.getfield 12, 3) := by decide +kernel
theorem dX10_shape_54 : decode cX10_shape 54 = .ok (.iload_n 1, 1) := by decide +kernel
theorem dX10_shape_55 : decode cX10_shape 55 = .ok (.iload_n 2, 1) := by decide +kernel
theorem dX10_shape_56 : decode cX10_shape 56 = .ok (.iload_n 3, 1) := by decide +kernel
theorem dX10_shape_57 : decode cX10_shape 57 = .ok (.invokevirtual 94, 3) := by decide +kernel
theorem dX10_shape_60 : decode cX10_shape 60 = .ok (.aload_n 0, 1) := by decide +kernel
theorem dX10_shape_61 : decode cX10_shape 61 = .ok (.iconst 0, 1) := by decide +kernel
theorem dX10_shape_62 : decode cX10_shape 62 = .ok (.putfield 98, 3) := by decide +kernel
theorem dX10_shape_65 : decode cX10_shape 65 = .ok (.iload 4, 2) := by decide +kernel
theorem dX10_shape_67 : decode cX10_shape 67 = .ok (.i2l, 1) := by decide +kernel
theorem dX10_shape_68 : decode cX10_shape 68 = .ok (.lreturn, 1) := by decide +kernel
theorem dX10_put_0 : decode cX10_put 0 = .ok (.aload_n 0, 1) := by decide +kernel
theorem dX10_put_1 : decode cX10_put 1 = .ok (.getfield 12, 3) := by decide +kernel
theorem dX10_put_4 : decode cX10_put 4 = .ok (.iload_n 1, 1) := by decide +kernel
theorem dX10_put_5 : decode cX10_put 5 = .ok (.invokevirtual 102, 3) := by decide +kernel
theorem dX10_put_8 : decode cX10_put 8 = .ok (.ifCond .eq 13, 3) := by decide +kernel
theorem dX10_put_11 : decode cX10_put 11 = .ok (.iload_n 2, 1) := by decide +kernel
theorem dX10_put_12 : decode cX10_put 12 = .ok (.iload_n 3, 1) := by decide +kernel
theorem dX10_put_13 : decode cX10_put 13 = .ok (.iload 4, 2) := by decide +kernel
theorem dX10_put_15 : decode cX10_put 15 = .ok (.invokestatic 78, 3) := by decide +kernel
theorem dX10_put_18 : decode cX10_put 18 = .ok (.ifCond .ne 7, 3) := by decide +kernel
theorem dX10_put_21 : decode cX10_put 21 = .ok (.ldc2_w 82, 3) := by decide +kernel
theorem dX10_put_24 : decode cX10_put 24 = .ok (.lreturn, 1) := by decide +kernel
theorem dX10_put_25 : decode cX10_put 25 = .ok (.aload_n 0, 1) := by decide +kernel
theorem dX10_put_26 : decode cX10_put 26 = .ok (.getfield 21, 3) := by decide +kernel
theorem dX10_put_29 : decode cX10_put 29 = .ok (.iload_n 1, 1) := by decide +kernel
theorem dX10_put_30 : decode cX10_put 30 = .ok (.aload_n 0, 1) := by decide +kernel
theorem dX10_put_31 : decode cX10_put 31 = .ok (.getfield 12, 3) := by decide +kernel
theorem dX10_put_34 : decode cX10_put 34 = .ok (.iload_n 1, 1) := by decide +kernel
theorem dX10_put_35 : decode cX10_put 35 = .ok (.invokevirtual 106, 3) := by decide +kernel
theorem dX10_put_38 : decode cX10_put 38 = .ok (.aload_n 0, 1) := by decide +kernel
theorem dX10_put_39 : decode cX10_put 39 = .ok (.getfield 12, 3) := by decide +kernel
theorem dX10_put_42 : decode cX10_put 42 = .ok (.iload_n 1, 1) := by decide +kernel
theorem dX10_put_43 : decode cX10_put 43 = .ok (.invokevirtual 110, 3) := by decide +kernel
theorem dX10_put_46 : decode cX10_put 46 = .ok (.aload_n 0, 1) := by decide +kernel
theorem dX10_put_47 : decode cX10_put 47 = .ok (.getfield 12, 3) := by decide +kernel
theorem dX10_put_50 : decode cX10_put 50 = .ok (.iload_n 1, 1) := by decide +kernel
theorem dX10_put_51 : decode cX10_put 51 = .ok (.invokevirtual 113, 3) := by decide +kernel
theorem dX10_put_54 : decode cX10_put 54 = .ok (.invokevirtual 90, 3) := by decide +kernel
theorem dX10_put_57 : decode cX10_put 57 = .ok (.aload_n 0, 1) := by decide +kernel
theorem dX10_put_58 : decode cX10_put 58 = .ok (.getfield 12, 3) := by decide +kernel
theorem dX10_put_61 : decode cX10_put 61 = .ok (.iload_n 1, 1) := by decide +kernel
theorem dX10_put_62 : decode cX10_put 62 = .ok (.iload_n 2, 1) := by decide +kernel
theorem dX10_put_63 : decode cX10_put 63 = .ok (.iload_n 3, 1) := by decide +kernel
theorem dX10_put_64 : decode cX10_put 64 = .ok (.iload 4, 2) := by decide +kernel
theorem dX10_put_66 : decode cX10_put 66 = .ok (.invokevirtual 116, 3) := by decide +kernel
theorem dX10_put_69 : decode cX10_put 69 = .ok (.aload_n 0, 1) := by decide +kernel
theorem dX10_put_70 : decode cX10_put 70 = .ok (.iconst 0, 1) := by decide +kernel
theorem dX10_put_71 : decode cX10_put 71 = .ok (.putfield 98, 3) := by decide +kernel
theorem dX10_put_74 : decode cX10_put 74 = .ok (.lconst 0, 1) := by decide +kernel
theorem dX10_put_75 : decode cX10_put 75 = .ok (.lreturn, 1) := by decide +kernel
theorem dX10_undo_0 : decode cX10_undo 0 = .ok (.aload_n 0, 1) := by decide +kernel
theorem dX10_undo_1 : decode cX10_undo 1 = .ok (.getfield 21, 3) := by decide +kernel
theorem dX10_undo_4 : decode cX10_undo 4 = .ok (.invokevirtual 119, 3) := by decide +kernel
theorem dX10_undo_7 : decode cX10_undo 7 = .ok (.ifCond .ne 7, 3) := by decide +kernel
theorem dX10_undo_10 : decode cX10_undo 10 = .ok (.ldc2_w 120, 3) := by decide +kernel
theorem dX10_undo_13 : decode cX10_undo 13 = .ok (.lreturn, 1) := by decide +kernel
theorem dX10_undo_14 : decode cX10_undo 14 = .ok (.aload_n 0, 1) := by decide +kernel
theorem dX10_undo_15 : decode cX10_undo 15 = .ok (.getfield 21, 3) := by decide +kernel
theorem dX10_undo_18 : decode cX10_undo 18 = .ok (.invokevirtual 122, 3) := by decide +kernel
theorem dX10_undo_21 : decode cX10_undo 21 = .ok (.aload_n 0, 1) := by decide +kernel
theorem dX10_undo_22 : decode cX10_undo 22 = .ok (.iconst 0, 1) := by decide +kernel
theorem dX10_undo_23 : decode cX10_undo 23 = .ok (.putfield 98, 3) := by decide +kernel
theorem dX10_undo_26 : decode cX10_undo 26 = .ok (.aload_n 0, 1) := by decide +kernel
theorem dX10_undo_27 : decode cX10_undo 27 = .ok (.getfield 21, 3) := by decide +kernel
theorem dX10_undo_30 : decode cX10_undo 30 = .ok (.invokevirtual 119, 3) := by decide +kernel
theorem dX10_undo_33 : decode cX10_undo 33 = .ok (.i2l, 1) := by decide +kernel
theorem dX10_undo_34 : decode cX10_undo 34 = .ok (.lreturn, 1) := by decide +kernel
theorem dX10_about_0 : decode cX10_about 0 = .ok (.aload_n 0, 1) := by decide +kernel
theorem dX10_about_1 : decode cX10_about 1 = .ok (.getfield 12, 3) := by decide +kernel
theorem dX10_about_4 : decode cX10_about 4 = .ok (.iload_n 1, 1) := by decide +kernel
theorem dX10_about_5 : decode cX10_about 5 = .ok (.invokevirtual 102, 3) := by decide +kernel
theorem dX10_about_8 : decode cX10_about 8 = .ok (.ifCond .ne 7, 3) := by decide +kernel
theorem dX10_about_11 : decode cX10_about 11 = .ok (.ldc2_w 82, 3) := by decide +kernel
theorem dX10_about_14 : decode cX10_about 14 = .ok (.lreturn, 1) := by decide +kernel
theorem dX10_about_15 : decode cX10_about 15 = .ok (.iload_n 2, 1) := by decide +kernel
theorem dX10_about_16 : decode cX10_about 16 = .ok (.tableswitch 58 0 2 #[28, 38, 48], 28) := by decide +kernel
theorem dX10_about_44 : decode cX10_about 44 = .ok (.aload_n 0, 1) := by decide +kernel
theorem dX10_about_45 : decode cX10_about 45 = .ok (.getfield 12, 3) := by decide +kernel
theorem dX10_about_48 : decode cX10_about 48 = .ok (.iload_n 1, 1) := by decide +kernel
theorem dX10_about_49 : decode cX10_about 49 = .ok (.invokevirtual 106, 3) := by decide +kernel
theorem dX10_about_52 : decode cX10_about 52 = .ok (.i2l, 1) := by decide +kernel
theorem dX10_about_53 : decode cX10_about 53 = .ok (.lreturn, 1) := by decide +kernel
theorem dX10_about_54 : decode cX10_about 54 = .ok (.aload_n 0, 1) := by decide +kernel
theorem dX10_about_55 : decode cX10_about 55 = .ok (.getfield 12, 3) := by decide +kernel
theorem dX10_about_58 : decode cX10_about 58 = .ok (.iload_n 1, 1) := by decide +kernel
theorem dX10_about_59 : decode cX10_about 59 = .ok (.invokevirtual 110, 3) := by decide +kernel
theorem dX10_about_62 : decode cX10_about 62 = .ok (.i2l, 1) := by decide +kernel
theorem dX10_about_63 : decode cX10_about 63 = .ok (.lreturn, 1) := by decide +kernel
theorem dX10_about_64 : decode cX10_about 64 = .ok (.aload_n 0, 1) := by decide +kernel
theorem dX10_about_65 : decode cX10_about 65 = .ok (.getfield 12, 3) := by decide +kernel
theorem dX10_about_68 : decode cX10_about 68 = .ok (.iload_n 1, 1) := by decide +kernel
theorem dX10_about_69 : decode cX10_about 69 = .ok (.invokevirtual 113, 3) := by decide +kernel
theorem dX10_about_72 : decode cX10_about 72 = .ok (.i2l, 1) := by decide +kernel
theorem dX10_about_73 : decode cX10_about 73 = .ok (.lreturn, 1) := by decide +kernel
theorem dX10_about_74 : decode cX10_about 74 = .ok (.ldc2_w 82, 3) := by decide +kernel
theorem dX10_about_77 : decode cX10_about 77 = .ok (.lreturn, 1) := by decide +kernel
theorem dX10_ready_0 : decode cX10_ready 0 = .ok (.aload_n 0, 1) := by decide +kernel
theorem dX10_ready_1 : decode cX10_ready 1 = .ok (.getfield 28, 3) := by decide +kernel
theorem dX10_ready_4 : decode cX10_ready 4 = .ok (.invokevirtual 125, 3) := by decide +kernel
theorem dX10_ready_7 : decode cX10_ready 7 = .ok (.istore_n 1, 1) := by decide +kernel
theorem dX10_ready_8 : decode cX10_ready 8 = .ok (.iload_n 1, 1) := by decide +kernel
theorem dX10_ready_9 : decode cX10_ready 9 = .ok (.ifCond .eq 6, 3) := by decide +kernel
theorem dX10_ready_12 : decode cX10_ready 12 = .ok (.iload_n 1, 1) := by decide +kernel
theorem dX10_ready_13 : decode cX10_ready 13 = .ok (.i2l, 1) := by decide +kernel
theorem dX10_ready_14 : decode cX10_ready 14 = .ok (.lreturn, 1) := by decide +kernel
theorem dX10_ready_15 : decode cX10_ready 15 = .ok (.aload_n 0, 1) := by decide +kernel
theorem dX10_ready_16 : decode cX10_ready 16 = .ok (.getfield 98, 3) := by decide +kernel
theorem dX10_ready_19 : decode cX10_ready 19 = .ok (.ifCond .ne 15, 3) := by decide +kernel
theorem dX10_ready_22 : decode cX10_ready 22 = .ok (.aload_n 0, 1) := by decide +kernel
theorem dX10_ready_23 : decode cX10_ready 23 = .ok (.getfield 37, 3) := by decide +kernel
theorem dX10_ready_26 : decode cX10_ready 26 = .ok (.invokevirtual 128, 3) := by decide +kernel
theorem dX10_ready_29 : decode cX10_ready 29 = .ok (.aload_n 0, 1) := by decide +kernel
theorem dX10_ready_30 : decode cX10_ready 30 = .ok (.iconst 1, 1) := by decide +kernel
theorem dX10_ready_31 : decode cX10_ready 31 = .ok (.putfield 98, 3) := by decide +kernel
theorem dX10_ready_34 : decode cX10_ready 34 = .ok (.lconst 0, 1) := by decide +kernel
theorem dX10_ready_35 : decode cX10_ready 35 = .ok (.lreturn, 1) := by decide +kernel
theorem dX10_count_0 : decode cX10_count 0 = .ok (.aload_n 0, 1) := by decide +kernel
theorem dX10_count_1 : decode cX10_count 1 = .ok (.getfield 12, 3) := by decide +kernel
theorem dX10_count_4 : decode cX10_count 4 = .ok (.iload_n 1, 1) := by decide +kernel
theorem dX10_count_5 : decode cX10_count 5 = .ok (.invokevirtual 102, 3) := by decide +kernel
theorem dX10_count_8 : decode cX10_count 8 = .ok (.ifCond .eq 10, 3) := by decide +kernel
theorem dX10_count_11 : decode cX10_count 11 = .ok (.iload_n 2, 1) := by decide +kernel
theorem dX10_count_12 : decode cX10_count 12 = .ok (.invokestatic 131, 3) := by decide +kernel
theorem dX10_count_15 : decode cX10_count 15 = .ok (.ifCond .ne 7, 3) := by decide +kernel
theorem dX10_count_18 : decode cX10_count 18 = .ok (.ldc2_w 82, 3) := by decide +kernel
theorem dX10_count_21 : decode cX10_count 21 = .ok (.lreturn, 1) := by decide +kernel
theorem dX10_count_22 : decode cX10_count 22 = .ok (.aload_n 0, 1) := by decide +kernel
theorem dX10_count_23 : decode cX10_count 23 = .ok (.getfield 98, 3) := by decide +kernel
theorem dX10_count_26 : decode cX10_count 26 = .ok (.ifCond .eq 18, 3) := by decide +kernel
theorem dX10_count_29 : decode cX10_count 29 = .ok (.aload_n 0, 1) := by decide +kernel
theorem dX10_count_30 : decode cX10_count 30 = .ok (.getfield 37, 3) := by decide +kernel
theorem dX10_count_33 : decode cX10_count 33 = .ok (.iload_n 1, 1) := by decide +kernel
theorem dX10_count_34 : decode cX10_count 34 = .ok (.iload_n 2, 1) := by decide +kernel
theorem dX10_count_35 : decode cX10_count 35 = .ok (.invokevirtual 134, 3) := by decide +kernel
theorem dX10_count_38 : decode cX10_count 38 = .ok (.invokestatic 138, 3) := by decide +kernel
theorem dX10_count_41 : decode cX10_count 41 = .ok (.goto 6, 3) := by decide +kernel
theorem dX10_count_44 : decode cX10_count 44 = .ok (.ldc2_w 120, 3) := by decide +kernel
theorem dX10_count_47 : decode cX10_count 47 = .ok (.lreturn, 1) := by decide +kernel
theorem dX10_upTo_0 : decode cX10_upTo 0 = .ok (.aload_n 0, 1) := by decide +kernel
theorem dX10_upTo_1 : decode cX10_upTo 1 = .ok (.getfield 12, 3) := by decide +kernel
theorem dX10_upTo_4 : decode cX10_upTo 4 = .ok (.iload_n 1, 1) := by decide +kernel
theorem dX10_upTo_5 : decode cX10_upTo 5 = .ok (.invokevirtual 102, 3) := by decide +kernel
theorem dX10_upTo_8 : decode cX10_upTo 8 = .ok (.ifCond .eq 10, 3) := by decide +kernel
theorem dX10_upTo_11 : decode cX10_upTo 11 = .ok (.iload_n 2, 1) := by decide +kernel
theorem dX10_upTo_12 : decode cX10_upTo 12 = .ok (.invokestatic 131, 3) := by decide +kernel
theorem dX10_upTo_15 : decode cX10_upTo 15 = .ok (.ifCond .ne 7, 3) := by decide +kernel
theorem dX10_upTo_18 : decode cX10_upTo 18 = .ok (.ldc2_w 82, 3) := by decide +kernel
theorem dX10_upTo_21 : decode cX10_upTo 21 = .ok (.lreturn, 1) := by decide +kernel
theorem dX10_upTo_22 : decode cX10_upTo 22 = .ok (.aload_n 0, 1) := by decide +kernel
theorem dX10_upTo_23 : decode cX10_upTo 23 = .ok (.getfield 98, 3) := by decide +kernel
theorem dX10_upTo_26 : decode cX10_upTo 26 = .ok (.ifCond .ne 7, 3) := by decide +kernel
theorem dX10_upTo_29 : decode cX10_upTo 29 = .ok (.ldc2_w 120, 3) := by decide +kernel
theorem dX10_upTo_32 : decode cX10_upTo 32 = .ok (.lreturn, 1) := by decide +kernel
theorem dX10_upTo_33 : decode cX10_upTo 33 = .ok (.lconst 0, 1) := by decide +kernel
theorem dX10_upTo_34 : decode cX10_upTo 34 = .ok (.lstore_n 3, 1) := by decide +kernel
theorem dX10_upTo_35 : decode cX10_upTo 35 = .ok (.iconst 0, 1) := by decide +kernel
theorem dX10_upTo_36 : decode cX10_upTo 36 = .ok (.istore 5, 2) := by decide +kernel
theorem dX10_upTo_38 : decode cX10_upTo 38 = .ok (.iload 5, 2) := by decide +kernel
theorem dX10_upTo_40 : decode cX10_upTo 40 = .ok (.iload_n 2, 1) := by decide +kernel
theorem dX10_upTo_41 : decode cX10_upTo 41 = .ok (.if_icmp .gt 24, 3) := by decide +kernel
theorem dX10_upTo_44 : decode cX10_upTo 44 = .ok (.lload_n 3, 1) := by decide +kernel
theorem dX10_upTo_45 : decode cX10_upTo 45 = .ok (.aload_n 0, 1) := by decide +kernel
theorem dX10_upTo_46 : decode cX10_upTo 46 = .ok (.getfield 37, 3) := by decide +kernel
theorem dX10_upTo_49 : decode cX10_upTo 49 = .ok (.iload_n 1, 1) := by decide +kernel
theorem dX10_upTo_50 : decode cX10_upTo 50 = .ok (.iload 5, 2) := by decide +kernel
theorem dX10_upTo_52 : decode cX10_upTo 52 = .ok (.invokevirtual 134, 3) := by decide +kernel
theorem dX10_upTo_55 : decode cX10_upTo 55 = .ok (.invokestatic 142, 3) := by decide +kernel
theorem dX10_upTo_58 : decode cX10_upTo 58 = .ok (.lstore_n 3, 1) := by decide +kernel
theorem dX10_upTo_59 : decode cX10_upTo 59 = .ok (.iinc 5 1, 3) := by decide +kernel
theorem dX10_upTo_62 : decode cX10_upTo 62 = .ok (.goto (-24), 3) := by decide +kernel
theorem dX10_upTo_65 : decode cX10_upTo 65 = .ok (.lload_n 3, 1) := by decide +kernel
theorem dX10_upTo_66 : decode cX10_upTo 66 = .ok (.invokestatic 138, 3) := by decide +kernel
theorem dX10_upTo_69 : decode cX10_upTo 69 = .ok (.lreturn, 1) := by decide +kernel
theorem dX10_parts_0 : decode cX10_parts 0 = .ok (.aload_n 0, 1) := by decide +kernel
theorem dX10_parts_1 : decode cX10_parts 1 = .ok (.getfield 12, 3) := by decide +kernel
theorem dX10_parts_4 : decode cX10_parts 4 = .ok (.iload_n 1, 1) := by decide +kernel
theorem dX10_parts_5 : decode cX10_parts 5 = .ok (.invokevirtual 102, 3) := by decide +kernel
theorem dX10_parts_8 : decode cX10_parts 8 = .ok (.ifCond .eq 21, 3) := by decide +kernel
theorem dX10_parts_11 : decode cX10_parts 11 = .ok (.aload_n 0, 1) := by decide +kernel
theorem dX10_parts_12 : decode cX10_parts 12 = .ok (.getfield 12, 3) := by decide +kernel
theorem dX10_parts_15 : decode cX10_parts 15 = .ok (.iload_n 2, 1) := by decide +kernel
theorem dX10_parts_16 : decode cX10_parts 16 = .ok (.invokevirtual 102, 3) := by decide +kernel
theorem dX10_parts_19 : decode cX10_parts 19 = .ok (.ifCond .eq 10, 3) := by decide +kernel
theorem dX10_parts_22 : decode cX10_parts 22 = .ok (.iload_n 3, 1) := by decide +kernel
theorem dX10_parts_23 : decode cX10_parts 23 = .ok (.invokestatic 131, 3) := by decide +kernel
theorem dX10_parts_26 : decode cX10_parts 26 = .ok (.ifCond .ne 7, 3) := by decide +kernel
theorem dX10_parts_29 : decode cX10_parts 29 = .ok (.ldc2_w 82, 3) := by decide +kernel
theorem dX10_parts_32 : decode cX10_parts 32 = .ok (.lreturn, 1) := by decide +kernel
theorem dX10_parts_33 : decode cX10_parts 33 = .ok (.aload_n 0, 1) := by decide +kernel
theorem dX10_parts_34 : decode cX10_parts 34 = .ok (.getfield 98, 3) := by decide +kernel
theorem dX10_parts_37 : decode cX10_parts 37 = .ok (.ifCond .ne 7, 3) := by decide +kernel
theorem dX10_parts_40 : decode cX10_parts 40 = .ok (.ldc2_w 120, 3) := by decide +kernel
theorem dX10_parts_43 : decode cX10_parts 43 = .ok (.lreturn, 1) := by decide +kernel
theorem dX10_parts_44 : decode cX10_parts 44 = .ok (.iconst 0, 1) := by decide +kernel
theorem dX10_parts_45 : decode cX10_parts 45 = .ok (.istore 4, 2) := by decide +kernel
theorem dX10_parts_47 : decode cX10_parts 47 = .ok (.iload 4, 2) := by decide +kernel
theorem dX10_parts_49 : decode cX10_parts 49 = .ok (.iload_n 3, 1) := by decide +kernel
theorem dX10_parts_50 : decode cX10_parts 50 = .ok (.if_icmp .gt 37, 3) := by decide +kernel
theorem dX10_parts_53 : decode cX10_parts 53 = .ok (.aload_n 0, 1) := by decide +kernel
theorem dX10_parts_54 : decode cX10_parts 54 = .ok (.getfield 37, 3) := by decide +kernel
theorem dX10_parts_57 : decode cX10_parts 57 = .ok (.iload_n 1, 1) := by decide +kernel
theorem dX10_parts_58 : decode cX10_parts 58 = .ok (.iload 4, 2) := by decide +kernel
theorem dX10_parts_60 : decode cX10_parts 60 = .ok (.invokevirtual 134, 3) := by decide +kernel
theorem dX10_parts_63 : decode cX10_parts 63 = .ok (.aload_n 0, 1) := by decide +kernel
theorem dX10_parts_64 : decode cX10_parts 64 = .ok (.getfield 37, 3) := by decide +kernel
theorem dX10_parts_67 : decode cX10_parts 67 = .ok (.iload_n 2, 1) := by decide +kernel
theorem dX10_parts_68 : decode cX10_parts 68 = .ok (.iload 4, 2) := by decide +kernel
theorem dX10_parts_70 : decode cX10_parts 70 = .ok (.invokevirtual 134, 3) := by decide +kernel
theorem dX10_parts_73 : decode cX10_parts 73 = .ok (.lcmp, 1) := by decide +kernel
theorem dX10_parts_74 : decode cX10_parts 74 = .ok (.ifCond .eq 7, 3) := by decide +kernel
theorem dX10_parts_77 : decode cX10_parts 77 = .ok (.iload 4, 2) := by decide +kernel
theorem dX10_parts_79 : decode cX10_parts 79 = .ok (.i2l, 1) := by decide +kernel
theorem dX10_parts_80 : decode cX10_parts 80 = .ok (.lreturn, 1) := by decide +kernel
theorem dX10_parts_81 : decode cX10_parts 81 = .ok (.iinc 4 1, 3) := by decide +kernel
theorem dX10_parts_84 : decode cX10_parts 84 = .ok (.goto (-37), 3) := by decide +kernel
theorem dX10_parts_87 : decode cX10_parts 87 = .ok (.ldc2_w 148, 3) := by decide +kernel
theorem dX10_parts_90 : decode cX10_parts 90 = .ok (.lreturn, 1) := by decide +kernel
theorem dX10_thing_0 : decode cX10_thing 0 = .ok (.aload_n 0, 1) := by decide +kernel
theorem dX10_thing_1 : decode cX10_thing 1 = .ok (.getfield 12, 3) := by decide +kernel
theorem dX10_thing_4 : decode cX10_thing 4 = .ok (.iload_n 1, 1) := by decide +kernel
theorem dX10_thing_5 : decode cX10_thing 5 = .ok (.invokevirtual 102, 3) := by decide +kernel
theorem dX10_thing_8 : decode cX10_thing 8 = .ok (.ifCond .eq 24, 3) := by decide +kernel
theorem dX10_thing_11 : decode cX10_thing 11 = .ok (.iload_n 2, 1) := by decide +kernel
theorem dX10_thing_12 : decode cX10_thing 12 = .ok (.invokestatic 131, 3) := by decide +kernel
theorem dX10_thing_15 : decode cX10_thing 15 = .ok (.ifCond .eq 17, 3) := by decide +kernel
theorem dX10_thing_18 : decode cX10_thing 18 = .ok (.lload_n 3, 1) := by decide +kernel
theorem dX10_thing_19 : decode cX10_thing 19 = .ok (.lconst 0, 1) := by decide +kernel
theorem dX10_thing_20 : decode cX10_thing 20 = .ok (.lcmp, 1) := by decide +kernel
theorem dX10_thing_21 : decode cX10_thing 21 = .ok (.ifCond .lt 11, 3) := by decide +kernel
theorem dX10_thing_24 : decode cX10_thing 24 = .ok (.lload_n 3, 1) := by decide +kernel
theorem dX10_thing_25 : decode cX10_thing 25 = .ok (.ldc2_w 150, 3) := by decide +kernel
theorem dX10_thing_28 : decode cX10_thing 28 = .ok (.lcmp, 1) := by decide +kernel
theorem dX10_thing_29 : decode cX10_thing 29 = .ok (.ifCond .lt 7, 3) := by decide +kernel
theorem dX10_thing_32 : decode cX10_thing 32 = .ok (.ldc2_w 82, 3) := by decide +kernel
theorem dX10_thing_35 : decode cX10_thing 35 = .ok (.lreturn, 1) := by decide +kernel
theorem dX10_thing_36 : decode cX10_thing 36 = .ok (.aload_n 0, 1) := by decide +kernel
theorem dX10_thing_37 : decode cX10_thing 37 = .ok (.getfield 98, 3) := by decide +kernel
theorem dX10_thing_40 : decode cX10_thing 40 = .ok (.ifCond .ne 7, 3) := by decide +kernel
theorem dX10_thing_43 : decode cX10_thing 43 = .ok (.ldc2_w 120, 3) := by decide +kernel
theorem dX10_thing_46 : decode cX10_thing 46 = .ok (.lreturn, 1) := by decide +kernel
theorem dX10_thing_47 : decode cX10_thing 47 = .ok (.lload_n 3, 1) := by decide +kernel
theorem dX10_thing_48 : decode cX10_thing 48 = .ok (.aload_n 0, 1) := by decide +kernel
theorem dX10_thing_49 : decode cX10_thing 49 = .ok (.getfield 37, 3) := by decide +kernel
theorem dX10_thing_52 : decode cX10_thing 52 = .ok (.iload_n 1, 1) := by decide +kernel
theorem dX10_thing_53 : decode cX10_thing 53 = .ok (.iload_n 2, 1) := by decide +kernel
theorem dX10_thing_54 : decode cX10_thing 54 = .ok (.invokevirtual 134, 3) := by decide +kernel
theorem dX10_thing_57 : decode cX10_thing 57 = .ok (.lcmp, 1) := by decide +kernel
theorem dX10_thing_58 : decode cX10_thing 58 = .ok (.ifCond .lt 7, 3) := by decide +kernel
theorem dX10_thing_61 : decode cX10_thing 61 = .ok (.ldc2_w 148, 3) := by decide +kernel
theorem dX10_thing_64 : decode cX10_thing 64 = .ok (.lreturn, 1) := by decide +kernel
theorem dX10_thing_65 : decode cX10_thing 65 = .ok (.aload_n 0, 1) := by decide +kernel
theorem dX10_thing_66 : decode cX10_thing 66 = .ok (.getfield 46, 3) := by decide +kernel
theorem dX10_thing_69 : decode cX10_thing 69 = .ok (.iload_n 1, 1) := by decide +kernel
theorem dX10_thing_70 : decode cX10_thing 70 = .ok (.iload_n 2, 1) := by decide +kernel
theorem dX10_thing_71 : decode cX10_thing 71 = .ok (.lload_n 3, 1) := by decide +kernel
theorem dX10_thing_72 : decode cX10_thing 72 = .ok (.invokevirtual 152, 3) := by decide +kernel
theorem dX10_thing_75 : decode cX10_thing 75 = .ok (.ifCond .ne 7, 3) := by decide +kernel
theorem dX10_thing_78 : decode cX10_thing 78 = .ok (.ldc2_w 88, 3) := by decide +kernel
theorem dX10_thing_81 : decode cX10_thing 81 = .ok (.lreturn, 1) := by decide +kernel
theorem dX10_thing_82 : decode cX10_thing 82 = .ok (.aload_n 0, 1) := by decide +kernel
theorem dX10_thing_83 : decode cX10_thing 83 = .ok (.getfield 57, 3) := by decide +kernel
theorem dX10_thing_86 : decode cX10_thing 86 = .ok (.aload_n 0, 1) := by decide +kernel
theorem dX10_thing_87 : decode cX10_thing 87 = .ok (.getfield 46, 3) := by decide +kernel
theorem dX10_thing_90 : decode cX10_thing 90 = .ok (.invokevirtual 156, 3) := by decide +kernel
theorem dX10_thing_93 : decode cX10_thing 93 = .ok (.invokevirtual 160, 3) := by decide +kernel
theorem dX10_thing_96 : decode cX10_thing 96 = .ok (.aload_n 0, 1) := by decide +kernel
theorem dX10_thing_97 : decode cX10_thing 97 = .ok (.getfield 57, 3) := by decide +kernel
theorem dX10_thing_100 : decode cX10_thing 100 = .ok (.invokevirtual 164, 3) := by decide +kernel
theorem dX10_thing_103 : decode cX10_thing 103 = .ok (.i2l, 1) := by decide +kernel
theorem dX10_thing_104 : decode cX10_thing 104 = .ok (.lreturn, 1) := by decide +kernel
theorem dX10_feed_0 : decode cX10_feed 0 = .ok (.aload_n 0, 1) := by decide +kernel
theorem dX10_feed_1 : decode cX10_feed 1 = .ok (.getfield 53, 3) := by decide +kernel
theorem dX10_feed_4 : decode cX10_feed 4 = .ok (.invokevirtual 164, 3) := by decide +kernel
theorem dX10_feed_7 : decode cX10_feed 7 = .ok (.bipush 20, 2) := by decide +kernel
theorem dX10_feed_9 : decode cX10_feed 9 = .ok (.iadd, 1) := by decide +kernel
theorem dX10_feed_10 : decode cX10_feed 10 = .ok (.sipush 300, 3) := by decide +kernel
theorem dX10_feed_13 : decode cX10_feed 13 = .ok (.if_icmp .le 7, 3) := by decide +kernel
theorem dX10_feed_16 : decode cX10_feed 16 = .ok (.ldc2_w 88, 3) := by decide +kernel
theorem dX10_feed_19 : decode cX10_feed 19 = .ok (.lreturn, 1) := by decide +kernel
theorem dX10_feed_20 : decode cX10_feed 20 = .ok (.aload_n 0, 1) := by decide +kernel
theorem dX10_feed_21 : decode cX10_feed 21 = .ok (.getfield 53, 3) := by decide +kernel
theorem dX10_feed_24 : decode cX10_feed 24 = .ok (.iload_n 1, 1) := by decide +kernel
theorem dX10_feed_25 : decode cX10_feed 25 = .ok (.invokevirtual 167, 3) := by decide +kernel
theorem dX10_feed_28 : decode cX10_feed 28 = .ok (.aload_n 0, 1) := by decide +kernel
theorem dX10_feed_29 : decode cX10_feed 29 = .ok (.getfield 53, 3) := by decide +kernel
theorem dX10_feed_32 : decode cX10_feed 32 = .ok (.iload_n 2, 1) := by decide +kernel
theorem dX10_feed_33 : decode cX10_feed 33 = .ok (.invokevirtual 167, 3) := by decide +kernel
theorem dX10_feed_36 : decode cX10_feed 36 = .ok (.aload_n 0, 1) := by decide +kernel
theorem dX10_feed_37 : decode cX10_feed 37 = .ok (.getfield 53, 3) := by decide +kernel
theorem dX10_feed_40 : decode cX10_feed 40 = .ok (.iload_n 3, 1) := by decide +kernel
theorem dX10_feed_41 : decode cX10_feed 41 = .ok (.invokevirtual 167, 3) := by decide +kernel
theorem dX10_feed_44 : decode cX10_feed 44 = .ok (.aload_n 0, 1) := by decide +kernel
theorem dX10_feed_45 : decode cX10_feed 45 = .ok (.getfield 53, 3) := by decide +kernel
theorem dX10_feed_48 : decode cX10_feed 48 = .ok (.iload 4, 2) := by decide +kernel
theorem dX10_feed_50 : decode cX10_feed 50 = .ok (.invokevirtual 167, 3) := by decide +kernel
theorem dX10_feed_53 : decode cX10_feed 53 = .ok (.aload_n 0, 1) := by decide +kernel
theorem dX10_feed_54 : decode cX10_feed 54 = .ok (.getfield 53, 3) := by decide +kernel
theorem dX10_feed_57 : decode cX10_feed 57 = .ok (.iload 5, 2) := by decide +kernel
theorem dX10_feed_59 : decode cX10_feed 59 = .ok (.invokevirtual 167, 3) := by decide +kernel
theorem dX10_feed_62 : decode cX10_feed 62 = .ok (.aload_n 0, 1) := by decide +kernel
theorem dX10_feed_63 : decode cX10_feed 63 = .ok (.getfield 53, 3) := by decide +kernel
theorem dX10_feed_66 : decode cX10_feed 66 = .ok (.invokevirtual 164, 3) := by decide +kernel
theorem dX10_feed_69 : decode cX10_feed 69 = .ok (.i2l, 1) := by decide +kernel
theorem dX10_feed_70 : decode cX10_feed 70 = .ok (.lreturn, 1) := by decide +kernel
theorem dX10_trim_0 : decode cX10_trim 0 = .ok (.iload_n 1, 1) := by decide +kernel
theorem dX10_trim_1 : decode cX10_trim 1 = .ok (.ifCond .lt 14, 3) := by decide +kernel
theorem dX10_trim_4 : decode cX10_trim 4 = .ok (.iload_n 1, 1) := by decide +kernel
theorem dX10_trim_5 : decode cX10_trim 5 = .ok (.aload_n 0, 1) := by decide +kernel
theorem dX10_trim_6 : decode cX10_trim 6 = .ok (.getfield 53, 3) := by decide +kernel
theorem dX10_trim_9 : decode cX10_trim 9 = .ok (.invokevirtual 164, 3) := by decide +kernel
theorem dX10_trim_12 : decode cX10_trim 12 = .ok (.if_icmp .le 7, 3) := by decide +kernel
theorem dX10_trim_15 : decode cX10_trim 15 = .ok (.ldc2_w 82, 3) := by decide +kernel
theorem dX10_trim_18 : decode cX10_trim 18 = .ok (.lreturn, 1) := by decide +kernel
theorem dX10_trim_19 : decode cX10_trim 19 = .ok (.aload_n 0, 1) := by decide +kernel
theorem dX10_trim_20 : decode cX10_trim 20 = .ok (.getfield 53, 3) := by decide +kernel
theorem dX10_trim_23 : decode cX10_trim 23 = .ok (.iload_n 1, 1) := by decide +kernel
theorem dX10_trim_24 : decode cX10_trim 24 = .ok (.invokevirtual 171, 3) := by decide +kernel
theorem dX10_trim_27 : decode cX10_trim 27 = .ok (.iload_n 1, 1) := by decide +kernel
theorem dX10_trim_28 : decode cX10_trim 28 = .ok (.i2l, 1) := by decide +kernel
theorem dX10_trim_29 : decode cX10_trim 29 = .ok (.lreturn, 1) := by decide +kernel
theorem dX10_again_0 : decode cX10_again 0 = .ok (.aload_n 0, 1) := by decide +kernel
theorem dX10_again_1 : decode cX10_again 1 = .ok (.getfield 53, 3) := by decide +kernel
theorem dX10_again_4 : decode cX10_again 4 = .ok (.aload_n 0, 1) := by decide +kernel
theorem dX10_again_5 : decode cX10_again 5 = .ok (.getfield 57, 3) := by decide +kernel
theorem dX10_again_8 : decode cX10_again 8 = .ok (.invokevirtual 160, 3) := by decide +kernel
theorem dX10_again_11 : decode cX10_again 11 = .ok (.aload_n 0, 1) := by decide +kernel
theorem dX10_again_12 : decode cX10_again 12 = .ok (.getfield 53, 3) := by decide +kernel
theorem dX10_again_15 : decode cX10_again 15 = .ok (.invokevirtual 164, 3) := by decide +kernel
theorem dX10_again_18 : decode cX10_again 18 = .ok (.i2l, 1) := by decide +kernel
theorem dX10_again_19 : decode cX10_again 19 = .ok (.lreturn, 1) := by decide +kernel
theorem dX10_read_0 : decode cX10_read 0 = .ok (.aload_n 0, 1) := by decide +kernel
theorem dX10_read_1 : decode cX10_read 1 = .ok (.getfield 12, 3) := by decide +kernel
theorem dX10_read_4 : decode cX10_read 4 = .ok (.iload_n 1, 1) := by decide +kernel
theorem dX10_read_5 : decode cX10_read 5 = .ok (.invokevirtual 102, 3) := by decide +kernel
theorem dX10_read_8 : decode cX10_read 8 = .ok (.ifCond .eq 9, 3) := by decide +kernel
theorem dX10_read_11 : decode cX10_read 11 = .ok (.ldc2_w 120, 3) := by decide +kernel
theorem dX10_read_14 : decode cX10_read 14 = .ok (.goto 6, 3) := by decide +kernel
theorem dX10_read_17 : decode cX10_read 17 = .ok (.ldc2_w 82, 3) := by decide +kernel
theorem dX10_read_20 : decode cX10_read 20 = .ok (.lstore_n 2, 1) := by decide +kernel
theorem dX10_read_21 : decode cX10_read 21 = .ok (.aload_n 0, 1) := by decide +kernel
theorem dX10_read_22 : decode cX10_read 22 = .ok (.getfield 98, 3) := by decide +kernel
theorem dX10_read_25 : decode cX10_read 25 = .ok (.ifCond .eq 27, 3) := by decide +kernel
theorem dX10_read_28 : decode cX10_read 28 = .ok (.aload_n 0, 1) := by decide +kernel
theorem dX10_read_29 : decode cX10_read 29 = .ok (.getfield 12, 3) := by decide +kernel
theorem dX10_read_32 : decode cX10_read 32 = .ok (.iload_n 1, 1) := by decide +kernel
theorem dX10_read_33 : decode cX10_read 33 = .ok (.invokevirtual 102, 3) := by decide +kernel
theorem dX10_read_36 : decode cX10_read 36 = .ok (.ifCond .eq 16, 3) := by decide +kernel
theorem dX10_read_39 : decode cX10_read 39 = .ok (.aload_n 0, 1) := by decide +kernel
theorem dX10_read_40 : decode cX10_read 40 = .ok (.getfield 65, 3) := by decide +kernel
theorem dX10_read_43 : decode cX10_read 43 = .ok (.iload_n 1, 1) := by decide +kernel
theorem dX10_read_44 : decode cX10_read 44 = .ok (.invokevirtual 174, 3) := by decide +kernel
theorem dX10_read_47 : decode cX10_read 47 = .ok (.aload_n 0, 1) := by decide +kernel
theorem dX10_read_48 : decode cX10_read 48 = .ok (.invokevirtual 177, 3) := by decide +kernel
theorem dX10_read_51 : decode cX10_read 51 = .ok (.lstore_n 2, 1) := by decide +kernel
theorem dX10_read_52 : decode cX10_read 52 = .ok (.aload_n 0, 1) := by decide +kernel
theorem dX10_read_53 : decode cX10_read 53 = .ok (.getfield 53, 3) := by decide +kernel
theorem dX10_read_56 : decode cX10_read 56 = .ok (.iconst 0, 1) := by decide +kernel
theorem dX10_read_57 : decode cX10_read 57 = .ok (.invokevirtual 171, 3) := by decide +kernel
theorem dX10_read_60 : decode cX10_read 60 = .ok (.lload_n 2, 1) := by decide +kernel
theorem dX10_read_61 : decode cX10_read 61 = .ok (.lreturn, 1) := by decide +kernel
theorem dX10_found_0 : decode cX10_found 0 = .ok (.iload_n 1, 1) := by decide +kernel
theorem dX10_found_1 : decode cX10_found 1 = .ok (.ifCond .lt 8, 3) := by decide +kernel
theorem dX10_found_4 : decode cX10_found 4 = .ok (.iload_n 1, 1) := by decide +kernel
theorem dX10_found_5 : decode cX10_found 5 = .ok (.iconst 2, 1) := by decide +kernel
theorem dX10_found_6 : decode cX10_found 6 = .ok (.if_icmp .le 7, 3) := by decide +kernel
theorem dX10_found_9 : decode cX10_found 9 = .ok (.ldc2_w 82, 3) := by decide +kernel
theorem dX10_found_12 : decode cX10_found 12 = .ok (.lreturn, 1) := by decide +kernel
theorem dX10_found_13 : decode cX10_found 13 = .ok (.aload_n 0, 1) := by decide +kernel
theorem dX10_found_14 : decode cX10_found 14 = .ok (.getfield 181, 3) := by decide +kernel
theorem dX10_found_17 : decode cX10_found 17 = .ok (.ifCond .ne 7, 3) := by decide +kernel
theorem dX10_found_20 : decode cX10_found 20 = .ok (.ldc2_w 148, 3) := by decide +kernel
theorem dX10_found_23 : decode cX10_found 23 = .ok (.lreturn, 1) := by decide +kernel
theorem dX10_found_24 : decode cX10_found 24 = .ok (.iload_n 1, 1) := by decide +kernel
theorem dX10_found_25 : decode cX10_found 25 = .ok (.ifCond .ne 9, 3) := by decide +kernel
theorem dX10_found_28 : decode cX10_found 28 = .ok (.aload_n 0, 1) := by decide +kernel
theorem dX10_found_29 : decode cX10_found 29 = .ok (.getfield 184, 3) := by decide +kernel
theorem dX10_found_32 : decode cX10_found 32 = .ok (.i2l, 1) := by decide +kernel
theorem dX10_found_33 : decode cX10_found 33 = .ok (.lreturn, 1) := by decide +kernel
theorem dX10_found_34 : decode cX10_found 34 = .ok (.iload_n 1, 1) := by decide +kernel
theorem dX10_found_35 : decode cX10_found 35 = .ok (.iconst 2, 1) := by decide +kernel
theorem dX10_found_36 : decode cX10_found 36 = .ok (.if_icmp .ne 9, 3) := by decide +kernel
theorem dX10_found_39 : decode cX10_found 39 = .ok (.aload_n 0, 1) := by decide +kernel
theorem dX10_found_40 : decode cX10_found 40 = .ok (.getfield 188, 3) := by decide +kernel
theorem dX10_found_43 : decode cX10_found 43 = .ok (.i2l, 1) := by decide +kernel
theorem dX10_found_44 : decode cX10_found 44 = .ok (.lreturn, 1) := by decide +kernel
theorem dX10_found_45 : decode cX10_found 45 = .ok (.aload_n 0, 1) := by decide +kernel
theorem dX10_found_46 : decode cX10_found 46 = .ok (.getfield 184, 3) := by decide +kernel
theorem dX10_found_49 : decode cX10_found 49 = .ok (.ifCond .eq 11, 3) := by decide +kernel
theorem dX10_found_52 : decode cX10_found 52 = .ok (.aload_n 0, 1) := by decide +kernel
theorem dX10_found_53 : decode cX10_found 53 = .ok (.getfield 184, 3) := by decide +kernel
theorem dX10_found_56 : decode cX10_found 56 = .ok (.iconst 3, 1) := by decide +kernel
theorem dX10_found_57 : decode cX10_found 57 = .ok (.if_icmp .ne 11, 3) := by decide +kernel
theorem dX10_found_60 : decode cX10_found 60 = .ok (.aload_n 0, 1) := by decide +kernel
theorem dX10_found_61 : decode cX10_found 61 = .ok (.getfield 191, 3) := by decide +kernel
theorem dX10_found_64 : decode cX10_found 64 = .ok (.i2l, 1) := by decide +kernel
theorem dX10_found_65 : decode cX10_found 65 = .ok (.goto 6, 3) := by decide +kernel
theorem dX10_found_68 : decode cX10_found 68 = .ok (.ldc2_w 148, 3) := by decide +kernel
theorem dX10_found_71 : decode cX10_found 71 = .ok (.lreturn, 1) := by decide +kernel
theorem dX10_out_0 : decode cX10_out 0 = .ok (.iload_n 1, 1) := by decide +kernel
theorem dX10_out_1 : decode cX10_out 1 = .ok (.ifCond .lt 26, 3) := by decide +kernel
theorem dX10_out_4 : decode cX10_out 4 = .ok (.iload_n 1, 1) := by decide +kernel
theorem dX10_out_5 : decode cX10_out 5 = .ok (.aload_n 0, 1) := by decide +kernel
theorem dX10_out_6 : decode cX10_out 6 = .ok (.getfield 57, 3) := by decide +kernel
theorem dX10_out_9 : decode cX10_out 9 = .ok (.invokevirtual 164, 3) := by decide +kernel
theorem dX10_out_12 : decode cX10_out 12 = .ok (.if_icmp .ge 15, 3) := by decide +kernel
theorem dX10_out_15 : decode cX10_out 15 = .ok (.aload_n 0, 1) := by decide +kernel
theorem dX10_out_16 : decode cX10_out 16 = .ok (.getfield 57, 3) := by decide +kernel
theorem dX10_out_19 : decode cX10_out 19 = .ok (.iload_n 1, 1) := by decide +kernel
theorem dX10_out_20 : decode cX10_out 20 = .ok (.invokevirtual 194, 3) := by decide +kernel
theorem dX10_out_23 : decode cX10_out 23 = .ok (.i2l, 1) := by decide +kernel
theorem dX10_out_24 : decode cX10_out 24 = .ok (.goto 6, 3) := by decide +kernel
theorem dX10_out_27 : decode cX10_out 27 = .ok (.ldc2_w 148, 3) := by decide +kernel
theorem dX10_out_30 : decode cX10_out 30 = .ok (.lreturn, 1) := by decide +kernel
theorem dX10_state_0 : decode cX10_state 0 = .ok (.iload_n 1, 1) := by decide +kernel
theorem dX10_state_1 : decode cX10_state 1 = .ok (.tableswitch 84 0 4 #[35, 44, 53, 62, 71], 35) := by decide +kernel
theorem dX10_state_36 : decode cX10_state 36 = .ok (.aload_n 0, 1) := by decide +kernel
theorem dX10_state_37 : decode cX10_state 37 = .ok (.getfield 12, 3) := by decide +kernel
theorem dX10_state_40 : decode cX10_state 40 = .ok (.invokevirtual 84, 3) := by decide +kernel
theorem dX10_state_43 : decode cX10_state 43 = .ok (.i2l, 1) := by decide +kernel
theorem dX10_state_44 : decode cX10_state 44 = .ok (.lreturn, 1) := by decide +kernel
theorem dX10_state_45 : decode cX10_state 45 = .ok (.aload_n 0, 1) := by decide +kernel
theorem dX10_state_46 : decode cX10_state 46 = .ok (.getfield 53, 3) := by decide +kernel
theorem dX10_state_49 : decode cX10_state 49 = .ok (.invokevirtual 164, 3) := by decide +kernel
theorem dX10_state_52 : decode cX10_state 52 = .ok (.i2l, 1) := by decide +kernel
theorem dX10_state_53 : decode cX10_state 53 = .ok (.lreturn, 1) := by decide +kernel
theorem dX10_state_54 : decode cX10_state 54 = .ok (.aload_n 0, 1) := by decide +kernel
theorem dX10_state_55 : decode cX10_state 55 = .ok (.getfield 57, 3) := by decide +kernel
theorem dX10_state_58 : decode cX10_state 58 = .ok (.invokevirtual 164, 3) := by decide +kernel
theorem dX10_state_61 : decode cX10_state 61 = .ok (.i2l, 1) := by decide +kernel
theorem dX10_state_62 : decode cX10_state 62 = .ok (.lreturn, 1) := by decide +kernel
theorem dX10_state_63 : decode cX10_state 63 = .ok (.aload_n 0, 1) := by decide +kernel
theorem dX10_state_64 : decode cX10_state 64 = .ok (.getfield 21, 3) := by decide +kernel
theorem dX10_state_67 : decode cX10_state 67 = .ok (.invokevirtual 119, 3) := by decide +kernel
theorem dX10_state_70 : decode cX10_state 70 = .ok (.i2l, 1) := by decide +kernel
theorem dX10_state_71 : decode cX10_state 71 = .ok (.lreturn, 1) := by decide +kernel
theorem dX10_state_72 : decode cX10_state 72 = .ok (.aload_n 0, 1) := by decide +kernel
theorem dX10_state_73 : decode cX10_state 73 = .ok (.getfield 98, 3) := by decide +kernel
theorem dX10_state_76 : decode cX10_state 76 = .ok (.ifCond .eq 7, 3) := by decide +kernel
theorem dX10_state_79 : decode cX10_state 79 = .ok (.lconst 1, 1) := by decide +kernel
theorem dX10_state_80 : decode cX10_state 80 = .ok (.goto 4, 3) := by decide +kernel
theorem dX10_state_83 : decode cX10_state 83 = .ok (.lconst 0, 1) := by decide +kernel
theorem dX10_state_84 : decode cX10_state 84 = .ok (.lreturn, 1) := by decide +kernel
theorem dX10_state_85 : decode cX10_state 85 = .ok (.ldc2_w 82, 3) := by decide +kernel
theorem dX10_state_88 : decode cX10_state 88 = .ok (.lreturn, 1) := by decide +kernel
theorem dX10_judge_0 : decode cX10_judge 0 = .ok (.aload_n 0, 1) := by decide +kernel
theorem dX10_judge_1 : decode cX10_judge 1 = .ok (.iconst 1, 1) := by decide +kernel
theorem dX10_judge_2 : decode cX10_judge 2 = .ok (.putfield 181, 3) := by decide +kernel
theorem dX10_judge_5 : decode cX10_judge 5 = .ok (.aload_n 0, 1) := by decide +kernel
theorem dX10_judge_6 : decode cX10_judge 6 = .ok (.aload_n 0, 1) := by decide +kernel
theorem dX10_judge_7 : decode cX10_judge 7 = .ok (.getfield 53, 3) := by decide +kernel
theorem dX10_judge_10 : decode cX10_judge 10 = .ok (.invokevirtual 164, 3) := by decide +kernel
theorem dX10_judge_13 : decode cX10_judge 13 = .ok (.putfield 188, 3) := by decide +kernel
theorem dX10_judge_16 : decode cX10_judge 16 = .ok (.aload_n 0, 1) := by decide +kernel
theorem dX10_judge_17 : decode cX10_judge 17 = .ok (.aload_n 0, 1) := by decide +kernel
theorem dX10_judge_18 : decode cX10_judge 18 = .ok (.getfield 65, 3) := by decide +kernel
theorem dX10_judge_21 : decode cX10_judge 21 = .ok (.invokevirtual 197, 3) := by decide +kernel
theorem dX10_judge_24 : decode cX10_judge 24 = .ok (.putfield 184, 3) := by decide +kernel
theorem dX10_judge_27 : decode cX10_judge 27 = .ok (.aload_n 0, 1) := by decide +kernel
theorem dX10_judge_28 : decode cX10_judge 28 = .ok (.aload_n 0, 1) := by decide +kernel
theorem dX10_judge_29 : decode cX10_judge 29 = .ok (.getfield 65, 3) := by decide +kernel
theorem dX10_judge_32 : decode cX10_judge 32 = .ok (.invokevirtual 200, 3) := by decide +kernel
theorem dX10_judge_35 : decode cX10_judge 35 = .ok (.putfield 191, 3) := by decide +kernel
theorem dX10_judge_38 : decode cX10_judge 38 = .ok (.aload_n 0, 1) := by decide +kernel
theorem dX10_judge_39 : decode cX10_judge 39 = .ok (.getfield 184, 3) := by decide +kernel
theorem dX10_judge_42 : decode cX10_judge 42 = .ok (.ifCond .eq 15, 3) := by decide +kernel
theorem dX10_judge_45 : decode cX10_judge 45 = .ok (.bipush (-100), 2) := by decide +kernel
theorem dX10_judge_47 : decode cX10_judge 47 = .ok (.aload_n 0, 1) := by decide +kernel
theorem dX10_judge_48 : decode cX10_judge 48 = .ok (.getfield 65, 3) := by decide +kernel
theorem dX10_judge_51 : decode cX10_judge 51 = .ok (.invokevirtual 203, 3) := by decide +kernel
theorem dX10_judge_54 : decode cX10_judge 54 = .ok (.isub, 1) := by decide +kernel
theorem dX10_judge_55 : decode cX10_judge 55 = .ok (.i2l, 1) := by decide +kernel
theorem dX10_judge_56 : decode cX10_judge 56 = .ok (.lreturn, 1) := by decide +kernel
theorem dX10_judge_57 : decode cX10_judge 57 = .ok (.aload_n 0, 1) := by decide +kernel
theorem dX10_judge_58 : decode cX10_judge 58 = .ok (.getfield 74, 3) := by decide +kernel
theorem dX10_judge_61 : decode cX10_judge 61 = .ok (.invokevirtual 206, 3) := by decide +kernel
theorem dX10_judge_64 : decode cX10_judge 64 = .ok (.aload_n 0, 1) := by decide +kernel
theorem dX10_judge_65 : decode cX10_judge 65 = .ok (.getfield 74, 3) := by decide +kernel
theorem dX10_judge_68 : decode cX10_judge 68 = .ok (.invokevirtual 209, 3) := by decide +kernel
theorem dX10_judge_71 : decode cX10_judge 71 = .ok (.ifCond .eq 7, 3) := by decide +kernel
theorem dX10_judge_74 : decode cX10_judge 74 = .ok (.ldc2_w 213, 3) := by decide +kernel
theorem dX10_judge_77 : decode cX10_judge 77 = .ok (.lreturn, 1) := by decide +kernel
theorem dX10_judge_78 : decode cX10_judge 78 = .ok (.aload_n 0, 1) := by decide +kernel
theorem dX10_judge_79 : decode cX10_judge 79 = .ok (.getfield 74, 3) := by decide +kernel
theorem dX10_judge_82 : decode cX10_judge 82 = .ok (.invokevirtual 215, 3) := by decide +kernel
theorem dX10_judge_85 : decode cX10_judge 85 = .ok (.ifCond .eq 20, 3) := by decide +kernel
theorem dX10_judge_88 : decode cX10_judge 88 = .ok (.aload_n 0, 1) := by decide +kernel
theorem dX10_judge_89 : decode cX10_judge 89 = .ok (.iconst 3, 1) := by decide +kernel
theorem dX10_judge_90 : decode cX10_judge 90 = .ok (.putfield 184, 3) := by decide +kernel
theorem dX10_judge_93 : decode cX10_judge 93 = .ok (.bipush (-100), 2) := by decide +kernel
theorem dX10_judge_95 : decode cX10_judge 95 = .ok (.aload_n 0, 1) := by decide +kernel
theorem dX10_judge_96 : decode cX10_judge 96 = .ok (.getfield 74, 3) := by decide +kernel
theorem dX10_judge_99 : decode cX10_judge 99 = .ok (.invokevirtual 218, 3) := by decide +kernel
theorem dX10_judge_102 : decode cX10_judge 102 = .ok (.isub, 1) := by decide +kernel
theorem dX10_judge_103 : decode cX10_judge 103 = .ok (.i2l, 1) := by decide +kernel
theorem dX10_judge_104 : decode cX10_judge 104 = .ok (.lreturn, 1) := by decide +kernel
theorem dX10_judge_105 : decode cX10_judge 105 = .ok (.aload_n 0, 1) := by decide +kernel
theorem dX10_judge_106 : decode cX10_judge 106 = .ok (.getfield 74, 3) := by decide +kernel
theorem dX10_judge_109 : decode cX10_judge 109 = .ok (.invokevirtual 221, 3) := by decide +kernel
theorem dX10_judge_112 : decode cX10_judge 112 = .ok (.invokestatic 138, 3) := by decide +kernel
theorem dX10_judge_115 : decode cX10_judge 115 = .ok (.lreturn, 1) := by decide +kernel
theorem dX10_isSize_0 : decode cX10_isSize 0 = .ok (.iload_n 0, 1) := by decide +kernel
theorem dX10_isSize_1 : decode cX10_isSize 1 = .ok (.ifCond .lt 13, 3) := by decide +kernel
theorem dX10_isSize_4 : decode cX10_isSize 4 = .ok (.iload_n 0, 1) := by decide +kernel
theorem dX10_isSize_5 : decode cX10_isSize 5 = .ok (.bipush 24, 2) := by decide +kernel
theorem dX10_isSize_7 : decode cX10_isSize 7 = .ok (.if_icmp .gt 7, 3) := by decide +kernel
theorem dX10_isSize_10 : decode cX10_isSize 10 = .ok (.iconst 1, 1) := by decide +kernel
theorem dX10_isSize_11 : decode cX10_isSize 11 = .ok (.goto 4, 3) := by decide +kernel
theorem dX10_isSize_14 : decode cX10_isSize 14 = .ok (.iconst 0, 1) := by decide +kernel
theorem dX10_isSize_15 : decode cX10_isSize 15 = .ok (.ireturn, 1) := by decide +kernel
theorem dX10_isPart_0 : decode cX10_isPart 0 = .ok (.iload_n 0, 1) := by decide +kernel
theorem dX10_isPart_1 : decode cX10_isPart 1 = .ok (.ifCond .lt 13, 3) := by decide +kernel
theorem dX10_isPart_4 : decode cX10_isPart 4 = .ok (.iload_n 0, 1) := by decide +kernel
theorem dX10_isPart_5 : decode cX10_isPart 5 = .ok (.bipush 16, 2) := by decide +kernel
theorem dX10_isPart_7 : decode cX10_isPart 7 = .ok (.if_icmp .ge 7, 3) := by decide +kernel
theorem dX10_isPart_10 : decode cX10_isPart 10 = .ok (.iconst 1, 1) := by decide +kernel
theorem dX10_isPart_11 : decode cX10_isPart 11 = .ok (.goto 4, 3) := by decide +kernel
theorem dX10_isPart_14 : decode cX10_isPart 14 = .ok (.iconst 0, 1) := by decide +kernel
theorem dX10_isPart_15 : decode cX10_isPart 15 = .ok (.ireturn, 1) := by decide +kernel
theorem dX10_orMany_0 : decode cX10_orMany 0 = .ok (.lload_n 0, 1) := by decide +kernel
theorem dX10_orMany_1 : decode cX10_orMany 1 = .ok (.ldc2_w 150, 3) := by decide +kernel
theorem dX10_orMany_4 : decode cX10_orMany 4 = .ok (.lcmp, 1) := by decide +kernel
theorem dX10_orMany_5 : decode cX10_orMany 5 = .ok (.ifCond .lt 9, 3) := by decide +kernel
theorem dX10_orMany_8 : decode cX10_orMany 8 = .ok (.ldc2_w 213, 3) := by decide +kernel
theorem dX10_orMany_11 : decode cX10_orMany 11 = .ok (.goto 4, 3) := by decide +kernel
theorem dX10_orMany_14 : decode cX10_orMany 14 = .ok (.lload_n 0, 1) := by decide +kernel
theorem dX10_orMany_15 : decode cX10_orMany 15 = .ok (.lreturn, 1) := by decide +kernel
theorem dX10_fits_0 : decode cX10_fits 0 = .ok (.iload_n 0, 1) := by decide +kernel
theorem dX10_fits_1 : decode cX10_fits 1 = .ok (.tableswitch 186 0 8 #[51, 78, 92, 92, 112, 112, 112, 129, 165], 51) := by decide +kernel
theorem dX10_fits_52 : decode cX10_fits 52 = .ok (.iload_n 1, 1) := by decide +kernel
theorem dX10_fits_53 : decode cX10_fits 53 = .ok (.iconst 1, 1) := by decide +kernel
theorem dX10_fits_54 : decode cX10_fits 54 = .ok (.if_icmp .lt 23, 3) := by decide +kernel
theorem dX10_fits_57 : decode cX10_fits 57 = .ok (.iload_n 1, 1) := by decide +kernel
theorem dX10_fits_58 : decode cX10_fits 58 = .ok (.bipush 9, 2) := by decide +kernel
theorem dX10_fits_60 : decode cX10_fits 60 = .ok (.if_icmp .gt 17, 3) := by decide +kernel
theorem dX10_fits_63 : decode cX10_fits 63 = .ok (.iload_n 2, 1) := by decide +kernel
theorem dX10_fits_64 : decode cX10_fits 64 = .ok (.ifCond .lt 13, 3) := by decide +kernel
theorem dX10_fits_67 : decode cX10_fits 67 = .ok (.iload_n 2, 1) := by decide +kernel
theorem dX10_fits_68 : decode cX10_fits 68 = .ok (.bipush 25, 2) := by decide +kernel
theorem dX10_fits_70 : decode cX10_fits 70 = .ok (.if_icmp .gt 7, 3) := by decide +kernel
theorem dX10_fits_73 : decode cX10_fits 73 = .ok (.iconst 1, 1) := by decide +kernel
theorem dX10_fits_74 : decode cX10_fits 74 = .ok (.goto 4, 3) := by decide +kernel
theorem dX10_fits_77 : decode cX10_fits 77 = .ok (.iconst 0, 1) := by decide +kernel
theorem dX10_fits_78 : decode cX10_fits 78 = .ok (.ireturn, 1) := by decide +kernel
theorem dX10_fits_79 : decode cX10_fits 79 = .ok (.iload_n 1, 1) := by decide +kernel
theorem dX10_fits_80 : decode cX10_fits 80 = .ok (.ifCond .ne 11, 3) := by decide +kernel
theorem dX10_fits_83 : decode cX10_fits 83 = .ok (.iload_n 2, 1) := by decide +kernel
theorem dX10_fits_84 : decode cX10_fits 84 = .ok (.ifCond .ne 7, 3) := by decide +kernel
theorem dX10_fits_87 : decode cX10_fits 87 = .ok (.iconst 1, 1) := by decide +kernel
theorem dX10_fits_88 : decode cX10_fits 88 = .ok (.goto 4, 3) := by decide +kernel
theorem dX10_fits_91 : decode cX10_fits 91 = .ok (.iconst 0, 1) := by decide +kernel
theorem dX10_fits_92 : decode cX10_fits 92 = .ok (.ireturn, 1) := by decide +kernel
theorem dX10_fits_93 : decode cX10_fits 93 = .ok (.iload_n 1, 1) := by decide +kernel
theorem dX10_fits_94 : decode cX10_fits 94 = .ok (.invokestatic 224, 3) := by decide +kernel
theorem dX10_fits_97 : decode cX10_fits 97 = .ok (.ifCond .eq 14, 3) := by decide +kernel
theorem dX10_fits_100 : decode cX10_fits 100 = .ok (.iload_n 2, 1) := by decide +kernel
theorem dX10_fits_101 : decode cX10_fits 101 = .ok (.invokestatic 224, 3) := by decide +kernel
theorem dX10_fits_104 : decode cX10_fits 104 = .ok (.ifCond .eq 7, 3) := by decide +kernel
theorem dX10_fits_107 : decode cX10_fits 107 = .ok (.iconst 1, 1) := by decide +kernel
theorem dX10_fits_108 : decode cX10_fits 108 = .ok (.goto 4, 3) := by decide +kernel
theorem dX10_fits_111 : decode cX10_fits 111 = .ok (.iconst 0, 1) := by decide +kernel
theorem dX10_fits_112 : decode cX10_fits 112 = .ok (.ireturn, 1) := by decide +kernel
theorem dX10_fits_113 : decode cX10_fits 113 = .ok (.iload_n 1, 1) := by decide +kernel
theorem dX10_fits_114 : decode cX10_fits 114 = .ok (.invokestatic 224, 3) := by decide +kernel
theorem dX10_fits_117 : decode cX10_fits 117 = .ok (.ifCond .eq 11, 3) := by decide +kernel
theorem dX10_fits_120 : decode cX10_fits 120 = .ok (.iload_n 2, 1) := by decide +kernel
theorem dX10_fits_121 : decode cX10_fits 121 = .ok (.ifCond .ne 7, 3) := by decide +kernel
theorem dX10_fits_124 : decode cX10_fits 124 = .ok (.iconst 1, 1) := by decide +kernel
theorem dX10_fits_125 : decode cX10_fits 125 = .ok (.goto 4, 3) := by decide +kernel
theorem dX10_fits_128 : decode cX10_fits 128 = .ok (.iconst 0, 1) := by decide +kernel
theorem dX10_fits_129 : decode cX10_fits 129 = .ok (.ireturn, 1) := by decide +kernel
theorem dX10_fits_130 : decode cX10_fits 130 = .ok (.iload_n 1, 1) := by decide +kernel
theorem dX10_fits_131 : decode cX10_fits 131 = .ok (.invokestatic 224, 3) := by decide +kernel
theorem dX10_fits_134 : decode cX10_fits 134 = .ok (.ifCond .eq 30, 3) := by decide +kernel
theorem dX10_fits_137 : decode cX10_fits 137 = .ok (.iload_n 2, 1) := by decide +kernel
theorem dX10_fits_138 : decode cX10_fits 138 = .ok (.ifCond .lt 26, 3) := by decide +kernel
theorem dX10_fits_141 : decode cX10_fits 141 = .ok (.iload_n 2, 1) := by decide +kernel
theorem dX10_fits_142 : decode cX10_fits 142 = .ok (.bipush 31, 2) := by decide +kernel
theorem dX10_fits_144 : decode cX10_fits 144 = .ok (.iand, 1) := by decide +kernel
theorem dX10_fits_145 : decode cX10_fits 145 = .ok (.bipush 24, 2) := by decide +kernel
theorem dX10_fits_147 : decode cX10_fits 147 = .ok (.if_icmp .gt 17, 3) := by decide +kernel
theorem dX10_fits_150 : decode cX10_fits 150 = .ok (.iload_n 2, 1) := by decide +kernel
theorem dX10_fits_151 : decode cX10_fits 151 = .ok (.iconst 5, 1) := by decide +kernel
theorem dX10_fits_152 : decode cX10_fits 152 = .ok (.ishr, 1) := by decide +kernel
theorem dX10_fits_153 : decode cX10_fits 153 = .ok (.iload_n 2, 1) := by decide +kernel
theorem dX10_fits_154 : decode cX10_fits 154 = .ok (.bipush 31, 2) := by decide +kernel
theorem dX10_fits_156 : decode cX10_fits 156 = .ok (.iand, 1) := by decide +kernel
theorem dX10_fits_157 : decode cX10_fits 157 = .ok (.if_icmp .gt 7, 3) := by decide +kernel
theorem dX10_fits_160 : decode cX10_fits 160 = .ok (.iconst 1, 1) := by decide +kernel
theorem dX10_fits_161 : decode cX10_fits 161 = .ok (.goto 4, 3) := by decide +kernel
theorem dX10_fits_164 : decode cX10_fits 164 = .ok (.iconst 0, 1) := by decide +kernel
theorem dX10_fits_165 : decode cX10_fits 165 = .ok (.ireturn, 1) := by decide +kernel
theorem dX10_fits_166 : decode cX10_fits 166 = .ok (.iload_n 1, 1) := by decide +kernel
theorem dX10_fits_167 : decode cX10_fits 167 = .ok (.iconst 1, 1) := by decide +kernel
theorem dX10_fits_168 : decode cX10_fits 168 = .ok (.if_icmp .lt 17, 3) := by decide +kernel
theorem dX10_fits_171 : decode cX10_fits 171 = .ok (.iload_n 1, 1) := by decide +kernel
theorem dX10_fits_172 : decode cX10_fits 172 = .ok (.bipush 8, 2) := by decide +kernel
theorem dX10_fits_174 : decode cX10_fits 174 = .ok (.if_icmp .gt 11, 3) := by decide +kernel
theorem dX10_fits_177 : decode cX10_fits 177 = .ok (.iload_n 2, 1) := by decide +kernel
theorem dX10_fits_178 : decode cX10_fits 178 = .ok (.ifCond .ne 7, 3) := by decide +kernel
theorem dX10_fits_181 : decode cX10_fits 181 = .ok (.iconst 1, 1) := by decide +kernel
theorem dX10_fits_182 : decode cX10_fits 182 = .ok (.goto 4, 3) := by decide +kernel
theorem dX10_fits_185 : decode cX10_fits 185 = .ok (.iconst 0, 1) := by decide +kernel
theorem dX10_fits_186 : decode cX10_fits 186 = .ok (.ireturn, 1) := by decide +kernel
theorem dX10_fits_187 : decode cX10_fits 187 = .ok (.iconst 0, 1) := by decide +kernel
theorem dX10_fits_188 : decode cX10_fits 188 = .ok (.ireturn, 1) := by decide +kernel
theorem dX11_init_0 : decode cX11_init 0 = .ok (.aload_n 0, 1) := by decide +kernel
theorem dX11_init_1 : decode cX11_init 1 = .ok (.invokespecial 1, 3) := by decide +kernel
theorem dX11_init_4 : decode cX11_init 4 = .ok (.aload_n 0, 1) := by decide +kernel
theorem dX11_init_5 : decode cX11_init 5 = .ok (.bipush 16, 2) := by decide +kernel
theorem dX11_init_7 : decode cX11_init 7 = .ok (.newarray .int, 2) := by decide +kernel
theorem dX11_init_9 : decode cX11_init 9 = .ok (.putfield 7, 3) := by decide +kernel
theorem dX11_init_12 : decode cX11_init 12 = .ok (.aload_n 0, 1) := by decide +kernel
theorem dX11_init_13 : decode cX11_init 13 = .ok (.bipush 16, 2) := by decide +kernel
theorem dX11_init_15 : decode cX11_init 15 = .ok (.newarray .int, 2) := by decide +kernel
theorem dX11_init_17 : decode cX11_init 17 = .ok (.putfield 13, 3) := by decide +kernel
theorem dX11_init_20 : decode cX11_init 20 = .ok (.aload_n 0, 1) := by decide +kernel
theorem dX11_init_21 : decode cX11_init 21 = .ok (.bipush 16, 2) := by decide +kernel
theorem dX11_init_23 : decode cX11_init 23 = .ok (.newarray .int, 2) := by decide +kernel
theorem dX11_init_25 : decode cX11_init 25 = .ok (.putfield 16, 3) := by decide +kernel
theorem dX11_init_28 : decode cX11_init 28 = .ok (.aload_n 0, 1) := by decide +kernel
theorem dX11_init_29 : decode cX11_init 29 = .ok (.sipush 392, 3) := by decide +kernel
theorem dX11_init_32 : decode cX11_init 32 = .ok (.newarray .int, 2) := by decide +kernel
theorem dX11_init_34 : decode cX11_init 34 = .ok (.putfield 19, 3) := by decide +kernel
theorem dX11_init_37 : decode cX11_init 37 = .ok (.aload_n 0, 1) := by decide +kernel
theorem dX11_init_38 : decode cX11_init 38 = .ok (.sipush 300, 3) := by decide +kernel
theorem dX11_init_41 : decode cX11_init 41 = .ok (.newarray .int, 2) := by decide +kernel
theorem dX11_init_43 : decode cX11_init 43 = .ok (.putfield 22, 3) := by decide +kernel
theorem dX11_init_46 : decode cX11_init 46 = .ok (.aload_n 0, 1) := by decide +kernel
theorem dX11_init_47 : decode cX11_init 47 = .ok (.sipush 300, 3) := by decide +kernel
theorem dX11_init_50 : decode cX11_init 50 = .ok (.newarray .int, 2) := by decide +kernel
theorem dX11_init_52 : decode cX11_init 52 = .ok (.putfield 25, 3) := by decide +kernel
theorem dX11_init_55 : decode cX11_init 55 = .ok (.aload_n 0, 1) := by decide +kernel
theorem dX11_init_56 : decode cX11_init 56 = .ok (.bipush 16, 2) := by decide +kernel
theorem dX11_init_58 : decode cX11_init 58 = .ok (.newarray .boolean, 2) := by decide +kernel
theorem dX11_init_60 : decode cX11_init 60 = .ok (.putfield 28, 3) := by decide +kernel
theorem dX11_init_63 : decode cX11_init 63 = .ok (.aload_n 0, 1) := by decide +kernel
theorem dX11_init_64 : decode cX11_init 64 = .ok (.sipush 256, 3) := by decide +kernel
theorem dX11_init_67 : decode cX11_init 67 = .ok (.newarray .boolean, 2) := by decide +kernel
theorem dX11_init_69 : decode cX11_init 69 = .ok (.putfield 32, 3) := by decide +kernel
theorem dX11_init_72 : decode cX11_init 72 = .ok (.aload_n 0, 1) := by decide +kernel
theorem dX11_init_73 : decode cX11_init 73 = .ok (.sipush 400, 3) := by decide +kernel
theorem dX11_init_76 : decode cX11_init 76 = .ok (.newarray .long, 2) := by decide +kernel
theorem dX11_init_78 : decode cX11_init 78 = .ok (.putfield 35, 3) := by decide +kernel
theorem dX11_init_81 : decode cX11_init 81 = .ok (.aload_n 0, 1) := by decide +kernel
theorem dX11_init_82 : decode cX11_init 82 = .ok (.sipush 10000, 3) := by decide +kernel
theorem dX11_init_85 : decode cX11_init 85 = .ok (.newarray .long, 2) := by decide +kernel
theorem dX11_init_87 : decode cX11_init 87 = .ok (.putfield 39, 3) := by decide +kernel
theorem dX11_init_90 : decode cX11_init 90 = .ok (.aload_n 0, 1) := by decide +kernel
theorem dX11_init_91 : decode cX11_init 91 = .ok (.bipush 16, 2) := by decide +kernel
theorem dX11_init_93 : decode cX11_init 93 = .ok (.newarray .boolean, 2) := by decide +kernel
theorem dX11_init_95 : decode cX11_init 95 = .ok (.putfield 42, 3) := by decide +kernel
theorem dX11_init_98 : decode cX11_init 98 = .ok (.aload_n 0, 1) := by decide +kernel
theorem dX11_init_99 : decode cX11_init 99 = .ok (.sipush 300, 3) := by decide +kernel
theorem dX11_init_102 : decode cX11_init 102 = .ok (.newarray .int, 2) := by decide +kernel
theorem dX11_init_104 : decode cX11_init 104 = .ok (.putfield 45, 3) := by decide +kernel
theorem dX11_init_107 : decode cX11_init 107 = .ok (.aload_n 0, 1) := by decide +kernel
theorem dX11_init_108 : decode cX11_init 108 = .ok (.sipush 310, 3) := by decide +kernel
theorem dX11_init_111 : decode cX11_init 111 = .ok (.newarray .int, 2) := by decide +kernel
theorem dX11_init_113 : decode cX11_init 113 = .ok (.putfield 48, 3) := by decide +kernel
theorem dX11_init_116 : decode cX11_init 116 = .ok (.aload_n 0, 1) := by decide +kernel
theorem dX11_init_117 : decode cX11_init 117 = .ok (.sipush 310, 3) := by decide +kernel
theorem dX11_init_120 : decode cX11_init 120 = .ok (.newarray .int, 2) := by decide +kernel
theorem dX11_init_122 : decode cX11_init 122 = .ok (.putfield 51, 3) := by decide +kernel
theorem dX11_init_125 : decode cX11_init 125 = .ok (.aload_n 0, 1) := by decide +kernel
theorem dX11_init_126 : decode cX11_init 126 = .ok (.sipush 310, 3) := by decide +kernel
theorem dX11_init_129 : decode cX11_init 129 = .ok (.newarray .int, 2) := by decide +kernel
theorem dX11_init_131 : decode cX11_init 131 = .ok (.putfield 54, 3) := by decide +kernel
theorem dX11_init_134 : decode cX11_init 134 = .ok (.aload_n 0, 1) := by decide +kernel
theorem dX11_init_135 : decode cX11_init 135 = .ok (.sipush 310, 3) := by decide +kernel
theorem dX11_init_138 : decode cX11_init 138 = .ok (.newarray .int, 2) := by decide +kernel
theorem dX11_init_140 : decode cX11_init 140 = .ok (.putfield 57, 3) := by decide +kernel
theorem dX11_init_143 : decode cX11_init 143 = .ok (.aload_n 0, 1) := by decide +kernel
theorem dX11_init_144 : decode cX11_init 144 = .ok (.sipush 310, 3) := by decide +kernel
theorem dX11_init_147 : decode cX11_init 147 = .ok (.newarray .int, 2) := by decide +kernel
theorem dX11_init_149 : decode cX11_init 149 = .ok (.putfield 60, 3) := by decide +kernel
theorem dX11_init_152 : decode cX11_init 152 = .ok (.aload_n 0, 1) := by decide +kernel
theorem dX11_init_153 : decode cX11_init 153 = .ok (.sipush 310, 3) := by decide +kernel
theorem dX11_init_156 : decode cX11_init 156 = .ok (.newarray .long, 2) := by decide +kernel
theorem dX11_init_158 : decode cX11_init 158 = .ok (.putfield 63, 3) := by decide +kernel
theorem dX11_init_161 : decode cX11_init 161 = .ok (.aload_n 0, 1) := by decide +kernel
theorem dX11_init_162 : decode cX11_init 162 = .ok (.sipush 310, 3) := by decide +kernel
theorem dX11_init_165 : decode cX11_init 165 = .ok (.newarray .long, 2) := by decide +kernel
theorem dX11_init_167 : decode cX11_init 167 = .ok (.putfield 66, 3) := by decide +kernel
theorem dX11_init_170 : decode cX11_init 170 = .ok (.aload_n 0, 1) := by decide +kernel
theorem dX11_init_171 : decode cX11_init 171 = .ok (.sipush 310, 3) := by decide +kernel
theorem dX11_init_174 : decode cX11_init 174 = .ok (.newarray .boolean, 2) := by decide +kernel
theorem dX11_init_176 : decode cX11_init 176 = .ok (.putfield 69, 3) := by decide +kernel
theorem dX11_init_179 : decode cX11_init 179 = .ok (.aload_n 0, 1) := by decide +kernel
theorem dX11_init_180 : decode cX11_init 180 = .ok (.sipush 310, 3) := by decide +kernel
theorem dX11_init_183 : decode cX11_init 183 = .ok (.newarray .int, 2) := by decide +kernel
theorem dX11_init_185 : decode cX11_init 185 = .ok (.putfield 72, 3) := by decide +kernel
theorem dX11_init_188 : decode cX11_init 188 = .ok (.aload_n 0, 1) := by decide +kernel
theorem dX11_init_189 : decode cX11_init 189 = .ok (.iconst 0, 1) := by decide +kernel
theorem dX11_init_190 : decode cX11_init 190 = .ok (.putfield 75, 3) := by decide +kernel
theorem dX11_init_193 : decode cX11_init 193 = .ok (.return_, 1) := by decide +kernel
theorem dX11_isIn_0 : decode cX11_isIn 0 = .ok (.lload_n 0, 1) := by decide +kernel
theorem dX11_isIn_1 : decode cX11_isIn 1 = .ok (.lload_n 2, 1) := by decide +kernel
theorem dX11_isIn_2 : decode cX11_isIn 2 = .ok (.lcmp, 1) := by decide +kernel
theorem dX11_isIn_3 : decode cX11_isIn 3 = .ok (.ifCond .lt 14, 3) := by decide +kernel
theorem dX11_isIn_6 : decode cX11_isIn 6 = .ok (.lload_n 0, 1) := by decide +kernel
theorem dX11_isIn_7 : decode cX11_isIn 7 = .ok (.lload 4, 2) := by decide +kernel
theorem dX11_isIn_9 : decode cX11_isIn 9 = .ok (.lcmp, 1) := by decide +kernel
theorem dX11_isIn_10 : decode cX11_isIn 10 = .ok (.ifCond .gt 7, 3) := by decide +kernel
theorem dX11_isIn_13 : decode cX11_isIn 13 = .ok (.iconst 1, 1) := by decide +kernel
theorem dX11_isIn_14 : decode cX11_isIn 14 = .ok (.goto 4, 3) := by decide +kernel
theorem dX11_isIn_17 : decode cX11_isIn 17 = .ok (.iconst 0, 1) := by decide +kernel
theorem dX11_isIn_18 : decode cX11_isIn 18 = .ok (.ireturn, 1) := by decide +kernel
theorem dX11_isGood_0 : decode cX11_isGood 0 = .ok (.iload_n 0, 1) := by decide +kernel
theorem dX11_isGood_1 : decode cX11_isGood 1 = .ok (.tableswitch 211 0 8 #[51, 81, 95, 95, 125, 125, 125, 147, 189], 51) := by decide +kernel
theorem dX11_isGood_52 : decode cX11_isGood 52 = .ok (.iload_n 1, 1) := by decide +kernel
theorem dX11_isGood_53 : decode cX11_isGood 53 = .ok (.i2l, 1) := by decide +kernel
theorem dX11_isGood_54 : decode cX11_isGood 54 = .ok (.lconst 1, 1) := by decide +kernel
theorem dX11_isGood_55 : decode cX11_isGood 55 = .ok (.ldc2_w 79, 3) := by decide +kernel
theorem dX11_isGood_58 : decode cX11_isGood 58 = .ok (.invokestatic 81, 3) := by decide +kernel
theorem dX11_isGood_61 : decode cX11_isGood 61 = .ok (.ifCond .eq 19, 3) := by decide +kernel
theorem dX11_isGood_64 : decode cX11_isGood 64 = .ok (.iload_n 2, 1) := by decide +kernel
theorem dX11_isGood_65 : decode cX11_isGood 65 = .ok (.i2l, 1) := by decide +kernel
theorem dX11_isGood_66 : decode cX11_isGood 66 = .ok (.lconst 0, 1) := by decide +kernel
theorem dX11_isGood_67 : decode cX11_isGood 67 = .ok (.ldc2_w 85, 3) := by decide +kernel
theorem dX11_isGood_70 : decode cX11_isGood 70 = .ok (.invokestatic 81, 3) := by decide +kernel
theorem dX11_isGood_73 : decode cX11_isGood 73 = .ok (.ifCond .eq 7, 3) := by decide +kernel
theorem dX11_isGood_76 : decode cX11_isGood 76 = .ok (.iconst 1, 1) := by decide +kernel
theorem dX11_isGood_77 : decode cX11_isGood 77 = .ok (.goto 4, 3) := by decide +kernel
theorem dX11_isGood_80 : decode cX11_isGood 80 = .ok (.iconst 0, 1) := by decide +kernel
theorem dX11_isGood_81 : decode cX11_isGood 81 = .ok (.ireturn, 1) := by decide +kernel
theorem dX11_isGood_82 : decode cX11_isGood 82 = .ok (.iload_n 1, 1) := by decide +kernel
