theorem dX11_countAll_103 : decode cX11_countAll 103 = .ok (.iinc 2 1, 3) := by decide +kernel
theorem dX11_countAll_106 : decode cX11_countAll 106 = .ok (.goto (-51), 3) := by decide +kernel
theorem dX11_countAll_109 : decode cX11_countAll 109 = .ok (.iinc 1 1, 3) := by decide +kernel
theorem dX11_countAll_112 : decode cX11_countAll 112 = .ok (.goto (-88), 3) := by decide +kernel
theorem dX11_countAll_115 : decode cX11_countAll 115 = .ok (.return_, 1) := by decide +kernel
theorem dX11_isSize_0 : decode cX11_isSize 0 = .ok (.iload_n 0, 1) := by decide +kernel
theorem dX11_isSize_1 : decode cX11_isSize 1 = .ok (.i2l, 1) := by decide +kernel
theorem dX11_isSize_2 : decode cX11_isSize 2 = .ok (.lconst 0, 1) := by decide +kernel
theorem dX11_isSize_3 : decode cX11_isSize 3 = .ok (.ldc2_w 208, 3) := by decide +kernel
theorem dX11_isSize_6 : decode cX11_isSize 6 = .ok (.invokestatic 81, 3) := by decide +kernel
theorem dX11_isSize_9 : decode cX11_isSize 9 = .ok (.ireturn, 1) := by decide +kernel
theorem dX11_told_0 : decode cX11_told 0 = .ok (.lload_n 0, 1) := by decide +kernel
theorem dX11_told_1 : decode cX11_told 1 = .ok (.ldc2_w 158, 3) := by decide +kernel
theorem dX11_told_4 : decode cX11_told 4 = .ok (.lcmp, 1) := by decide +kernel
theorem dX11_told_5 : decode cX11_told 5 = .ok (.ifCond .lt 9, 3) := by decide +kernel
theorem dX11_told_8 : decode cX11_told 8 = .ok (.ldc2_w 210, 3) := by decide +kernel
theorem dX11_told_11 : decode cX11_told 11 = .ok (.goto 4, 3) := by decide +kernel
theorem dX11_told_14 : decode cX11_told 14 = .ok (.lload_n 0, 1) := by decide +kernel
theorem dX11_told_15 : decode cX11_told 15 = .ok (.lreturn, 1) := by decide +kernel
theorem dX11_count_0 : decode cX11_count 0 = .ok (.aload_n 0, 1) := by decide +kernel
theorem dX11_count_1 : decode cX11_count 1 = .ok (.iload_n 1, 1) := by decide +kernel
theorem dX11_count_2 : decode cX11_count 2 = .ok (.invokevirtual 116, 3) := by decide +kernel
theorem dX11_count_5 : decode cX11_count 5 = .ok (.ifCond .eq 10, 3) := by decide +kernel
theorem dX11_count_8 : decode cX11_count 8 = .ok (.iload_n 2, 1) := by decide +kernel
theorem dX11_count_9 : decode cX11_count 9 = .ok (.invokestatic 212, 3) := by decide +kernel
theorem dX11_count_12 : decode cX11_count 12 = .ok (.ifCond .ne 7, 3) := by decide +kernel
theorem dX11_count_15 : decode cX11_count 15 = .ok (.ldc2_w 105, 3) := by decide +kernel
theorem dX11_count_18 : decode cX11_count 18 = .ok (.lreturn, 1) := by decide +kernel
theorem dX11_count_19 : decode cX11_count 19 = .ok (.aload_n 0, 1) := by decide +kernel
theorem dX11_count_20 : decode cX11_count 20 = .ok (.getfield 98, 3) := by decide +kernel
theorem dX11_count_23 : decode cX11_count 23 = .ok (.ifCond .eq 15, 3) := by decide +kernel
theorem dX11_count_26 : decode cX11_count 26 = .ok (.aload_n 0, 1) := by decide +kernel
theorem dX11_count_27 : decode cX11_count 27 = .ok (.iload_n 1, 1) := by decide +kernel
theorem dX11_count_28 : decode cX11_count 28 = .ok (.iload_n 2, 1) := by decide +kernel
theorem dX11_count_29 : decode cX11_count 29 = .ok (.invokevirtual 180, 3) := by decide +kernel
theorem dX11_count_32 : decode cX11_count 32 = .ok (.invokestatic 215, 3) := by decide +kernel
theorem dX11_count_35 : decode cX11_count 35 = .ok (.goto 6, 3) := by decide +kernel
theorem dX11_count_38 : decode cX11_count 38 = .ok (.ldc2_w 120, 3) := by decide +kernel
theorem dX11_count_41 : decode cX11_count 41 = .ok (.lreturn, 1) := by decide +kernel
theorem dX11_upTo_0 : decode cX11_upTo 0 = .ok (.aload_n 0, 1) := by decide +kernel
theorem dX11_upTo_1 : decode cX11_upTo 1 = .ok (.iload_n 1, 1) := by decide +kernel
theorem dX11_upTo_2 : decode cX11_upTo 2 = .ok (.invokevirtual 116, 3) := by decide +kernel
theorem dX11_upTo_5 : decode cX11_upTo 5 = .ok (.ifCond .eq 10, 3) := by decide +kernel
theorem dX11_upTo_8 : decode cX11_upTo 8 = .ok (.iload_n 2, 1) := by decide +kernel
theorem dX11_upTo_9 : decode cX11_upTo 9 = .ok (.invokestatic 212, 3) := by decide +kernel
theorem dX11_upTo_12 : decode cX11_upTo 12 = .ok (.ifCond .ne 7, 3) := by decide +kernel
theorem dX11_upTo_15 : decode cX11_upTo 15 = .ok (.ldc2_w 105, 3) := by decide +kernel
theorem dX11_upTo_18 : decode cX11_upTo 18 = .ok (.lreturn, 1) := by decide +kernel
theorem dX11_upTo_19 : decode cX11_upTo 19 = .ok (.aload_n 0, 1) := by decide +kernel
theorem dX11_upTo_20 : decode cX11_upTo 20 = .ok (.getfield 98, 3) := by decide +kernel
theorem dX11_upTo_23 : decode cX11_upTo 23 = .ok (.ifCond .ne 7, 3) := by decide +kernel
theorem dX11_upTo_26 : decode cX11_upTo 26 = .ok (.ldc2_w 120, 3) := by decide +kernel
theorem dX11_upTo_29 : decode cX11_upTo 29 = .ok (.lreturn, 1) := by decide +kernel
theorem dX11_upTo_30 : decode cX11_upTo 30 = .ok (.lconst 0, 1) := by decide +kernel
theorem dX11_upTo_31 : decode cX11_upTo 31 = .ok (.lstore_n 3, 1) := by decide +kernel
theorem dX11_upTo_32 : decode cX11_upTo 32 = .ok (.iconst 0, 1) := by decide +kernel
theorem dX11_upTo_33 : decode cX11_upTo 33 = .ok (.istore 5, 2) := by decide +kernel
theorem dX11_upTo_35 : decode cX11_upTo 35 = .ok (.iload 5, 2) := by decide +kernel
theorem dX11_upTo_37 : decode cX11_upTo 37 = .ok (.iload_n 2, 1) := by decide +kernel
theorem dX11_upTo_38 : decode cX11_upTo 38 = .ok (.if_icmp .gt 21, 3) := by decide +kernel
theorem dX11_upTo_41 : decode cX11_upTo 41 = .ok (.lload_n 3, 1) := by decide +kernel
theorem dX11_upTo_42 : decode cX11_upTo 42 = .ok (.aload_n 0, 1) := by decide +kernel
theorem dX11_upTo_43 : decode cX11_upTo 43 = .ok (.iload_n 1, 1) := by decide +kernel
theorem dX11_upTo_44 : decode cX11_upTo 44 = .ok (.iload 5, 2) := by decide +kernel
theorem dX11_upTo_46 : decode cX11_upTo 46 = .ok (.invokevirtual 180, 3) := by decide +kernel
theorem dX11_upTo_49 : decode cX11_upTo 49 = .ok (.invokestatic 177, 3) := by decide +kernel
theorem dX11_upTo_52 : decode cX11_upTo 52 = .ok (.lstore_n 3, 1) := by decide +kernel
theorem dX11_upTo_53 : decode cX11_upTo 53 = .ok (.iinc 5 1, 3) := by decide +kernel
theorem dX11_upTo_56 : decode cX11_upTo 56 = .ok (.goto (-21), 3) := by decide +kernel
theorem dX11_upTo_59 : decode cX11_upTo 59 = .ok (.lload_n 3, 1) := by decide +kernel
theorem dX11_upTo_60 : decode cX11_upTo 60 = .ok (.invokestatic 215, 3) := by decide +kernel
theorem dX11_upTo_63 : decode cX11_upTo 63 = .ok (.lreturn, 1) := by decide +kernel
theorem dX11_parts_0 : decode cX11_parts 0 = .ok (.aload_n 0, 1) := by decide +kernel
theorem dX11_parts_1 : decode cX11_parts 1 = .ok (.iload_n 1, 1) := by decide +kernel
theorem dX11_parts_2 : decode cX11_parts 2 = .ok (.invokevirtual 116, 3) := by decide +kernel
theorem dX11_parts_5 : decode cX11_parts 5 = .ok (.ifCond .eq 18, 3) := by decide +kernel
theorem dX11_parts_8 : decode cX11_parts 8 = .ok (.aload_n 0, 1) := by decide +kernel
theorem dX11_parts_9 : decode cX11_parts 9 = .ok (.iload_n 2, 1) := by decide +kernel
theorem dX11_parts_10 : decode cX11_parts 10 = .ok (.invokevirtual 116, 3) := by decide +kernel
theorem dX11_parts_13 : decode cX11_parts 13 = .ok (.ifCond .eq 10, 3) := by decide +kernel
theorem dX11_parts_16 : decode cX11_parts 16 = .ok (.iload_n 3, 1) := by decide +kernel
theorem dX11_parts_17 : decode cX11_parts 17 = .ok (.invokestatic 212, 3) := by decide +kernel
theorem dX11_parts_20 : decode cX11_parts 20 = .ok (.ifCond .ne 7, 3) := by decide +kernel
theorem dX11_parts_23 : decode cX11_parts 23 = .ok (.ldc2_w 105, 3) := by decide +kernel
theorem dX11_parts_26 : decode cX11_parts 26 = .ok (.lreturn, 1) := by decide +kernel
theorem dX11_parts_27 : decode cX11_parts 27 = .ok (.aload_n 0, 1) := by decide +kernel
theorem dX11_parts_28 : decode cX11_parts 28 = .ok (.getfield 98, 3) := by decide +kernel
theorem dX11_parts_31 : decode cX11_parts 31 = .ok (.ifCond .ne 7, 3) := by decide +kernel
theorem dX11_parts_34 : decode cX11_parts 34 = .ok (.ldc2_w 120, 3) := by decide +kernel
theorem dX11_parts_37 : decode cX11_parts 37 = .ok (.lreturn, 1) := by decide +kernel
theorem dX11_parts_38 : decode cX11_parts 38 = .ok (.iconst 0, 1) := by decide +kernel
theorem dX11_parts_39 : decode cX11_parts 39 = .ok (.istore 4, 2) := by decide +kernel
theorem dX11_parts_41 : decode cX11_parts 41 = .ok (.iload 4, 2) := by decide +kernel
theorem dX11_parts_43 : decode cX11_parts 43 = .ok (.iload_n 3, 1) := by decide +kernel
theorem dX11_parts_44 : decode cX11_parts 44 = .ok (.if_icmp .gt 31, 3) := by decide +kernel
theorem dX11_parts_47 : decode cX11_parts 47 = .ok (.aload_n 0, 1) := by decide +kernel
theorem dX11_parts_48 : decode cX11_parts 48 = .ok (.iload_n 1, 1) := by decide +kernel
theorem dX11_parts_49 : decode cX11_parts 49 = .ok (.iload 4, 2) := by decide +kernel
theorem dX11_parts_51 : decode cX11_parts 51 = .ok (.invokevirtual 180, 3) := by decide +kernel
theorem dX11_parts_54 : decode cX11_parts 54 = .ok (.aload_n 0, 1) := by decide +kernel
theorem dX11_parts_55 : decode cX11_parts 55 = .ok (.iload_n 2, 1) := by decide +kernel
theorem dX11_parts_56 : decode cX11_parts 56 = .ok (.iload 4, 2) := by decide +kernel
theorem dX11_parts_58 : decode cX11_parts 58 = .ok (.invokevirtual 180, 3) := by decide +kernel
theorem dX11_parts_61 : decode cX11_parts 61 = .ok (.lcmp, 1) := by decide +kernel
theorem dX11_parts_62 : decode cX11_parts 62 = .ok (.ifCond .eq 7, 3) := by decide +kernel
theorem dX11_parts_65 : decode cX11_parts 65 = .ok (.iload 4, 2) := by decide +kernel
theorem dX11_parts_67 : decode cX11_parts 67 = .ok (.i2l, 1) := by decide +kernel
theorem dX11_parts_68 : decode cX11_parts 68 = .ok (.lreturn, 1) := by decide +kernel
theorem dX11_parts_69 : decode cX11_parts 69 = .ok (.iinc 4 1, 3) := by decide +kernel
theorem dX11_parts_72 : decode cX11_parts 72 = .ok (.goto (-31), 3) := by decide +kernel
theorem dX11_parts_75 : decode cX11_parts 75 = .ok (.ldc2_w 219, 3) := by decide +kernel
theorem dX11_parts_78 : decode cX11_parts 78 = .ok (.lreturn, 1) := by decide +kernel
theorem dX11_write_0 : decode cX11_write 0 = .ok (.aload_n 0, 1) := by decide +kernel
theorem dX11_write_1 : decode cX11_write 1 = .ok (.getfield 221, 3) := by decide +kernel
theorem dX11_write_4 : decode cX11_write 4 = .ok (.sipush 300, 3) := by decide +kernel
theorem dX11_write_7 : decode cX11_write 7 = .ok (.if_icmp .ge 13, 3) := by decide +kernel
theorem dX11_write_10 : decode cX11_write 10 = .ok (.aload_n 0, 1) := by decide +kernel
theorem dX11_write_11 : decode cX11_write 11 = .ok (.getfield 45, 3) := by decide +kernel
theorem dX11_write_14 : decode cX11_write 14 = .ok (.aload_n 0, 1) := by decide +kernel
theorem dX11_write_15 : decode cX11_write 15 = .ok (.getfield 221, 3) := by decide +kernel
theorem dX11_write_18 : decode cX11_write 18 = .ok (.iload_n 1, 1) := by decide +kernel
theorem dX11_write_19 : decode cX11_write 19 = .ok (.iastore, 1) := by decide +kernel
theorem dX11_write_20 : decode cX11_write 20 = .ok (.aload_n 0, 1) := by decide +kernel
theorem dX11_write_21 : decode cX11_write 21 = .ok (.dup, 1) := by decide +kernel
theorem dX11_write_22 : decode cX11_write 22 = .ok (.getfield 221, 3) := by decide +kernel
theorem dX11_write_25 : decode cX11_write 25 = .ok (.iconst 1, 1) := by decide +kernel
theorem dX11_write_26 : decode cX11_write 26 = .ok (.iadd, 1) := by decide +kernel
theorem dX11_write_27 : decode cX11_write 27 = .ok (.putfield 221, 3) := by decide +kernel
theorem dX11_write_30 : decode cX11_write 30 = .ok (.return_, 1) := by decide +kernel
theorem dX11_thingOf_0 : decode cX11_thingOf 0 = .ok (.aload_n 0, 1) := by decide +kernel
theorem dX11_thingOf_1 : decode cX11_thingOf 1 = .ok (.getfield 221, 3) := by decide +kernel
theorem dX11_thingOf_4 : decode cX11_thingOf 4 = .ok (.sipush 300, 3) := by decide +kernel
theorem dX11_thingOf_7 : decode cX11_thingOf 7 = .ok (.if_icmp .le 4, 3) := by decide +kernel
theorem dX11_thingOf_10 : decode cX11_thingOf 10 = .ok (.return_, 1) := by decide +kernel
theorem dX11_thingOf_11 : decode cX11_thingOf 11 = .ok (.aload_n 0, 1) := by decide +kernel
theorem dX11_thingOf_12 : decode cX11_thingOf 12 = .ok (.getfield 7, 3) := by decide +kernel
theorem dX11_thingOf_15 : decode cX11_thingOf 15 = .ok (.iload_n 1, 1) := by decide +kernel
theorem dX11_thingOf_16 : decode cX11_thingOf 16 = .ok (.iaload, 1) := by decide +kernel
theorem dX11_thingOf_17 : decode cX11_thingOf 17 = .ok (.tableswitch 141 0 8 #[51, 67, 76, 86, 96, 141, 141, 106, 127], 51) := by decide +kernel
theorem dX11_thingOf_68 : decode cX11_thingOf 68 = .ok (.aload_n 0, 1) := by decide +kernel
theorem dX11_thingOf_69 : decode cX11_thingOf 69 = .ok (.bipush 97, 2) := by decide +kernel
theorem dX11_thingOf_71 : decode cX11_thingOf 71 = .ok (.aload_n 0, 1) := by decide +kernel
theorem dX11_thingOf_72 : decode cX11_thingOf 72 = .ok (.getfield 16, 3) := by decide +kernel
theorem dX11_thingOf_75 : decode cX11_thingOf 75 = .ok (.iload_n 1, 1) := by decide +kernel
theorem dX11_thingOf_76 : decode cX11_thingOf 76 = .ok (.iaload, 1) := by decide +kernel
theorem dX11_thingOf_77 : decode cX11_thingOf 77 = .ok (.iadd, 1) := by decide +kernel
theorem dX11_thingOf_78 : decode cX11_thingOf 78 = .ok (.invokevirtual 224, 3) := by decide +kernel
theorem dX11_thingOf_81 : decode cX11_thingOf 81 = .ok (.goto 84, 3) := by decide +kernel
theorem dX11_thingOf_84 : decode cX11_thingOf 84 = .ok (.aload_n 0, 1) := by decide +kernel
theorem dX11_thingOf_85 : decode cX11_thingOf 85 = .ok (.bipush 46, 2) := by decide +kernel
theorem dX11_thingOf_87 : decode cX11_thingOf 87 = .ok (.invokevirtual 224, 3) := by decide +kernel
theorem dX11_thingOf_90 : decode cX11_thingOf 90 = .ok (.goto 75, 3) := by decide +kernel
theorem dX11_thingOf_93 : decode cX11_thingOf 93 = .ok (.aload_n 0, 1) := by decide +kernel
theorem dX11_thingOf_94 : decode cX11_thingOf 94 = .ok (.iload_n 1, 1) := by decide +kernel
theorem dX11_thingOf_95 : decode cX11_thingOf 95 = .ok (.iload_n 2, 1) := by decide +kernel
theorem dX11_thingOf_96 : decode cX11_thingOf 96 = .ok (.lload_n 3, 1) := by decide +kernel
theorem dX11_thingOf_97 : decode cX11_thingOf 97 = .ok (.invokevirtual 228, 3) := by decide +kernel
theorem dX11_thingOf_100 : decode cX11_thingOf 100 = .ok (.goto 65, 3) := by decide +kernel
theorem dX11_thingOf_103 : decode cX11_thingOf 103 = .ok (.aload_n 0, 1) := by decide +kernel
theorem dX11_thingOf_104 : decode cX11_thingOf 104 = .ok (.iload_n 1, 1) := by decide +kernel
theorem dX11_thingOf_105 : decode cX11_thingOf 105 = .ok (.iload_n 2, 1) := by decide +kernel
theorem dX11_thingOf_106 : decode cX11_thingOf 106 = .ok (.lload_n 3, 1) := by decide +kernel
theorem dX11_thingOf_107 : decode cX11_thingOf 107 = .ok (.invokevirtual 232, 3) := by decide +kernel
theorem dX11_thingOf_110 : decode cX11_thingOf 110 = .ok (.goto 55, 3) := by decide +kernel
theorem dX11_thingOf_113 : decode cX11_thingOf 113 = .ok (.aload_n 0, 1) := by decide +kernel
theorem dX11_thingOf_114 : decode cX11_thingOf 114 = .ok (.iload_n 1, 1) := by decide +kernel
theorem dX11_thingOf_115 : decode cX11_thingOf 115 = .ok (.iload_n 2, 1) := by decide +kernel
theorem dX11_thingOf_116 : decode cX11_thingOf 116 = .ok (.lload_n 3, 1) := by decide +kernel
theorem dX11_thingOf_117 : decode cX11_thingOf 117 = .ok (.invokevirtual 235, 3) := by decide +kernel
theorem dX11_thingOf_120 : decode cX11_thingOf 120 = .ok (.goto 45, 3) := by decide +kernel
theorem dX11_thingOf_123 : decode cX11_thingOf 123 = .ok (.aload_n 0, 1) := by decide +kernel
theorem dX11_thingOf_124 : decode cX11_thingOf 124 = .ok (.bipush 33, 2) := by decide +kernel
theorem dX11_thingOf_126 : decode cX11_thingOf 126 = .ok (.invokevirtual 224, 3) := by decide +kernel
theorem dX11_thingOf_129 : decode cX11_thingOf 129 = .ok (.aload_n 0, 1) := by decide +kernel
theorem dX11_thingOf_130 : decode cX11_thingOf 130 = .ok (.aload_n 0, 1) := by decide +kernel
theorem dX11_thingOf_131 : decode cX11_thingOf 131 = .ok (.getfield 13, 3) := by decide +kernel
theorem dX11_thingOf_134 : decode cX11_thingOf 134 = .ok (.iload_n 1, 1) := by decide +kernel
theorem dX11_thingOf_135 : decode cX11_thingOf 135 = .ok (.iaload, 1) := by decide +kernel
theorem dX11_thingOf_136 : decode cX11_thingOf 136 = .ok (.iload_n 2, 1) := by decide +kernel
theorem dX11_thingOf_137 : decode cX11_thingOf 137 = .ok (.lload_n 3, 1) := by decide +kernel
theorem dX11_thingOf_138 : decode cX11_thingOf 138 = .ok (.invokevirtual 238, 3) := by decide +kernel
theorem dX11_thingOf_141 : decode cX11_thingOf 141 = .ok (.goto 24, 3) := by decide +kernel
theorem dX11_thingOf_144 : decode cX11_thingOf 144 = .ok (.aload_n 0, 1) := by decide +kernel
theorem dX11_thingOf_145 : decode cX11_thingOf 145 = .ok (.aload_n 0, 1) := by decide +kernel
theorem dX11_thingOf_146 : decode cX11_thingOf 146 = .ok (.getfield 13, 3) := by decide +kernel
theorem dX11_thingOf_149 : decode cX11_thingOf 149 = .ok (.iload_n 1, 1) := by decide +kernel
theorem dX11_thingOf_150 : decode cX11_thingOf 150 = .ok (.iaload, 1) := by decide +kernel
theorem dX11_thingOf_151 : decode cX11_thingOf 151 = .ok (.lload_n 3, 1) := by decide +kernel
theorem dX11_thingOf_152 : decode cX11_thingOf 152 = .ok (.invokevirtual 241, 3) := by decide +kernel
theorem dX11_thingOf_155 : decode cX11_thingOf 155 = .ok (.goto 10, 3) := by decide +kernel
theorem dX11_thingOf_158 : decode cX11_thingOf 158 = .ok (.aload_n 0, 1) := by decide +kernel
theorem dX11_thingOf_159 : decode cX11_thingOf 159 = .ok (.iload_n 1, 1) := by decide +kernel
theorem dX11_thingOf_160 : decode cX11_thingOf 160 = .ok (.iload_n 2, 1) := by decide +kernel
theorem dX11_thingOf_161 : decode cX11_thingOf 161 = .ok (.lload_n 3, 1) := by decide +kernel
theorem dX11_thingOf_162 : decode cX11_thingOf 162 = .ok (.invokevirtual 245, 3) := by decide +kernel
theorem dX11_thingOf_165 : decode cX11_thingOf 165 = .ok (.return_, 1) := by decide +kernel
theorem dX11_bothOf_0 : decode cX11_bothOf 0 = .ok (.aload_n 0, 1) := by decide +kernel
theorem dX11_bothOf_1 : decode cX11_bothOf 1 = .ok (.getfield 13, 3) := by decide +kernel
theorem dX11_bothOf_4 : decode cX11_bothOf 4 = .ok (.iload_n 1, 1) := by decide +kernel
theorem dX11_bothOf_5 : decode cX11_bothOf 5 = .ok (.iaload, 1) := by decide +kernel
theorem dX11_bothOf_6 : decode cX11_bothOf 6 = .ok (.istore 5, 2) := by decide +kernel
theorem dX11_bothOf_8 : decode cX11_bothOf 8 = .ok (.aload_n 0, 1) := by decide +kernel
theorem dX11_bothOf_9 : decode cX11_bothOf 9 = .ok (.getfield 16, 3) := by decide +kernel
theorem dX11_bothOf_12 : decode cX11_bothOf 12 = .ok (.iload_n 1, 1) := by decide +kernel
theorem dX11_bothOf_13 : decode cX11_bothOf 13 = .ok (.iaload, 1) := by decide +kernel
theorem dX11_bothOf_14 : decode cX11_bothOf 14 = .ok (.istore 6, 2) := by decide +kernel
theorem dX11_bothOf_16 : decode cX11_bothOf 16 = .ok (.lload_n 3, 1) := by decide +kernel
theorem dX11_bothOf_17 : decode cX11_bothOf 17 = .ok (.lstore 7, 2) := by decide +kernel
theorem dX11_bothOf_19 : decode cX11_bothOf 19 = .ok (.iconst 0, 1) := by decide +kernel
theorem dX11_bothOf_20 : decode cX11_bothOf 20 = .ok (.istore 9, 2) := by decide +kernel
theorem dX11_bothOf_22 : decode cX11_bothOf 22 = .ok (.aload_n 0, 1) := by decide +kernel
theorem dX11_bothOf_23 : decode cX11_bothOf 23 = .ok (.iload 5, 2) := by decide +kernel
theorem dX11_bothOf_25 : decode cX11_bothOf 25 = .ok (.iconst 0, 1) := by decide +kernel
theorem dX11_bothOf_26 : decode cX11_bothOf 26 = .ok (.invokevirtual 180, 3) := by decide +kernel
theorem dX11_bothOf_29 : decode cX11_bothOf 29 = .ok (.aload_n 0, 1) := by decide +kernel
theorem dX11_bothOf_30 : decode cX11_bothOf 30 = .ok (.iload 6, 2) := by decide +kernel
theorem dX11_bothOf_32 : decode cX11_bothOf 32 = .ok (.iload_n 2, 1) := by decide +kernel
theorem dX11_bothOf_33 : decode cX11_bothOf 33 = .ok (.invokevirtual 180, 3) := by decide +kernel
theorem dX11_bothOf_36 : decode cX11_bothOf 36 = .ok (.invokestatic 166, 3) := by decide +kernel
theorem dX11_bothOf_39 : decode cX11_bothOf 39 = .ok (.lstore 10, 2) := by decide +kernel
theorem dX11_bothOf_41 : decode cX11_bothOf 41 = .ok (.lload 7, 2) := by decide +kernel
theorem dX11_bothOf_43 : decode cX11_bothOf 43 = .ok (.lload 10, 2) := by decide +kernel
theorem dX11_bothOf_45 : decode cX11_bothOf 45 = .ok (.lcmp, 1) := by decide +kernel
theorem dX11_bothOf_46 : decode cX11_bothOf 46 = .ok (.ifCond .lt 39, 3) := by decide +kernel
theorem dX11_bothOf_49 : decode cX11_bothOf 49 = .ok (.lload 7, 2) := by decide +kernel
theorem dX11_bothOf_51 : decode cX11_bothOf 51 = .ok (.lload 10, 2) := by decide +kernel
theorem dX11_bothOf_53 : decode cX11_bothOf 53 = .ok (.lsub, 1) := by decide +kernel
theorem dX11_bothOf_54 : decode cX11_bothOf 54 = .ok (.lstore 7, 2) := by decide +kernel
theorem dX11_bothOf_56 : decode cX11_bothOf 56 = .ok (.iinc 9 1, 3) := by decide +kernel
theorem dX11_bothOf_59 : decode cX11_bothOf 59 = .ok (.aload_n 0, 1) := by decide +kernel
theorem dX11_bothOf_60 : decode cX11_bothOf 60 = .ok (.iload 5, 2) := by decide +kernel
theorem dX11_bothOf_62 : decode cX11_bothOf 62 = .ok (.iload 9, 2) := by decide +kernel
theorem dX11_bothOf_64 : decode cX11_bothOf 64 = .ok (.invokevirtual 180, 3) := by decide +kernel
theorem dX11_bothOf_67 : decode cX11_bothOf 67 = .ok (.aload_n 0, 1) := by decide +kernel
theorem dX11_bothOf_68 : decode cX11_bothOf 68 = .ok (.iload 6, 2) := by decide +kernel
theorem dX11_bothOf_70 : decode cX11_bothOf 70 = .ok (.iload_n 2, 1) := by decide +kernel
theorem dX11_bothOf_71 : decode cX11_bothOf 71 = .ok (.iload 9, 2) := by decide +kernel
theorem dX11_bothOf_73 : decode cX11_bothOf 73 = .ok (.isub, 1) := by decide +kernel
theorem dX11_bothOf_74 : decode cX11_bothOf 74 = .ok (.invokevirtual 180, 3) := by decide +kernel
theorem dX11_bothOf_77 : decode cX11_bothOf 77 = .ok (.invokestatic 166, 3) := by decide +kernel
theorem dX11_bothOf_80 : decode cX11_bothOf 80 = .ok (.lstore 10, 2) := by decide +kernel
theorem dX11_bothOf_82 : decode cX11_bothOf 82 = .ok (.goto (-41), 3) := by decide +kernel
theorem dX11_bothOf_85 : decode cX11_bothOf 85 = .ok (.aload_n 0, 1) := by decide +kernel
theorem dX11_bothOf_86 : decode cX11_bothOf 86 = .ok (.bipush 40, 2) := by decide +kernel
theorem dX11_bothOf_88 : decode cX11_bothOf 88 = .ok (.invokevirtual 224, 3) := by decide +kernel
theorem dX11_bothOf_91 : decode cX11_bothOf 91 = .ok (.aload_n 0, 1) := by decide +kernel
theorem dX11_bothOf_92 : decode cX11_bothOf 92 = .ok (.iload 5, 2) := by decide +kernel
theorem dX11_bothOf_94 : decode cX11_bothOf 94 = .ok (.iload 9, 2) := by decide +kernel
theorem dX11_bothOf_96 : decode cX11_bothOf 96 = .ok (.lload 7, 2) := by decide +kernel
theorem dX11_bothOf_98 : decode cX11_bothOf 98 = .ok (.aload_n 0, 1) := by decide +kernel
theorem dX11_bothOf_99 : decode cX11_bothOf 99 = .ok (.iload 6, 2) := by decide +kernel
theorem dX11_bothOf_101 : decode cX11_bothOf 101 = .ok (.iload_n 2, 1) := by decide +kernel
theorem dX11_bothOf_102 : decode cX11_bothOf 102 = .ok (.iload 9, 2) := by decide +kernel
theorem dX11_bothOf_104 : decode cX11_bothOf 104 = .ok (.isub, 1) := by decide +kernel
theorem dX11_bothOf_105 : decode cX11_bothOf 105 = .ok (.invokevirtual 180, 3) := by decide +kernel
theorem dX11_bothOf_108 : decode cX11_bothOf 108 = .ok (.ldiv, 1) := by decide +kernel
theorem dX11_bothOf_109 : decode cX11_bothOf 109 = .ok (.invokevirtual 238, 3) := by decide +kernel
theorem dX11_bothOf_112 : decode cX11_bothOf 112 = .ok (.aload_n 0, 1) := by decide +kernel
theorem dX11_bothOf_113 : decode cX11_bothOf 113 = .ok (.iload 6, 2) := by decide +kernel
theorem dX11_bothOf_115 : decode cX11_bothOf 115 = .ok (.iload_n 2, 1) := by decide +kernel
theorem dX11_bothOf_116 : decode cX11_bothOf 116 = .ok (.iload 9, 2) := by decide +kernel
theorem dX11_bothOf_118 : decode cX11_bothOf 118 = .ok (.isub, 1) := by decide +kernel
theorem dX11_bothOf_119 : decode cX11_bothOf 119 = .ok (.lload 7, 2) := by decide +kernel
theorem dX11_bothOf_121 : decode cX11_bothOf 121 = .ok (.aload_n 0, 1) := by decide +kernel
theorem dX11_bothOf_122 : decode cX11_bothOf 122 = .ok (.iload 6, 2) := by decide +kernel
theorem dX11_bothOf_124 : decode cX11_bothOf 124 = .ok (.iload_n 2, 1) := by decide +kernel
theorem dX11_bothOf_125 : decode cX11_bothOf 125 = .ok (.iload 9, 2) := by decide +kernel
theorem dX11_bothOf_127 : decode cX11_bothOf 127 = .ok (.isub, 1) := by decide +kernel
theorem dX11_bothOf_128 : decode cX11_bothOf 128 = .ok (.invokevirtual 180, 3) := by decide +kernel
theorem dX11_bothOf_131 : decode cX11_bothOf 131 = .ok (.lrem, 1) := by decide +kernel
theorem dX11_bothOf_132 : decode cX11_bothOf 132 = .ok (.invokevirtual 238, 3) := by decide +kernel
theorem dX11_bothOf_135 : decode cX11_bothOf 135 = .ok (.aload_n 0, 1) := by decide +kernel
theorem dX11_bothOf_136 : decode cX11_bothOf 136 = .ok (.bipush 41, 2) := by decide +kernel
theorem dX11_bothOf_138 : decode cX11_bothOf 138 = .ok (.invokevirtual 224, 3) := by decide +kernel
theorem dX11_bothOf_141 : decode cX11_bothOf 141 = .ok (.return_, 1) := by decide +kernel
theorem dX11_eitherOf_0 : decode cX11_eitherOf 0 = .ok (.aload_n 0, 1) := by decide +kernel
theorem dX11_eitherOf_1 : decode cX11_eitherOf 1 = .ok (.aload_n 0, 1) := by decide +kernel
theorem dX11_eitherOf_2 : decode cX11_eitherOf 2 = .ok (.getfield 13, 3) := by decide +kernel
theorem dX11_eitherOf_5 : decode cX11_eitherOf 5 = .ok (.iload_n 1, 1) := by decide +kernel
theorem dX11_eitherOf_6 : decode cX11_eitherOf 6 = .ok (.iaload, 1) := by decide +kernel
theorem dX11_eitherOf_7 : decode cX11_eitherOf 7 = .ok (.iload_n 2, 1) := by decide +kernel
theorem dX11_eitherOf_8 : decode cX11_eitherOf 8 = .ok (.invokevirtual 180, 3) := by decide +kernel
theorem dX11_eitherOf_11 : decode cX11_eitherOf 11 = .ok (.lstore 5, 2) := by decide +kernel
theorem dX11_eitherOf_13 : decode cX11_eitherOf 13 = .ok (.aload_n 0, 1) := by decide +kernel
theorem dX11_eitherOf_14 : decode cX11_eitherOf 14 = .ok (.lload_n 3, 1) := by decide +kernel
theorem dX11_eitherOf_15 : decode cX11_eitherOf 15 = .ok (.lload 5, 2) := by decide +kernel
theorem dX11_eitherOf_17 : decode cX11_eitherOf 17 = .ok (.lcmp, 1) := by decide +kernel
theorem dX11_eitherOf_18 : decode cX11_eitherOf 18 = .ok (.ifCond .ge 8, 3) := by decide +kernel
theorem dX11_eitherOf_21 : decode cX11_eitherOf 21 = .ok (.bipush 49, 2) := by decide +kernel
theorem dX11_eitherOf_23 : decode cX11_eitherOf 23 = .ok (.goto 5, 3) := by decide +kernel
theorem dX11_eitherOf_26 : decode cX11_eitherOf 26 = .ok (.bipush 50, 2) := by decide +kernel
theorem dX11_eitherOf_28 : decode cX11_eitherOf 28 = .ok (.invokevirtual 224, 3) := by decide +kernel
theorem dX11_eitherOf_31 : decode cX11_eitherOf 31 = .ok (.lload_n 3, 1) := by decide +kernel
theorem dX11_eitherOf_32 : decode cX11_eitherOf 32 = .ok (.lload 5, 2) := by decide +kernel
theorem dX11_eitherOf_34 : decode cX11_eitherOf 34 = .ok (.lcmp, 1) := by decide +kernel
theorem dX11_eitherOf_35 : decode cX11_eitherOf 35 = .ok (.ifCond .ge 18, 3) := by decide +kernel
theorem dX11_eitherOf_38 : decode cX11_eitherOf 38 = .ok (.aload_n 0, 1) := by decide +kernel
theorem dX11_eitherOf_39 : decode cX11_eitherOf 39 = .ok (.aload_n 0, 1) := by decide +kernel
theorem dX11_eitherOf_40 : decode cX11_eitherOf 40 = .ok (.getfield 13, 3) := by decide +kernel
theorem dX11_eitherOf_43 : decode cX11_eitherOf 43 = .ok (.iload_n 1, 1) := by decide +kernel
theorem dX11_eitherOf_44 : decode cX11_eitherOf 44 = .ok (.iaload, 1) := by decide +kernel
theorem dX11_eitherOf_45 : decode cX11_eitherOf 45 = .ok (.iload_n 2, 1) := by decide +kernel
theorem dX11_eitherOf_46 : decode cX11_eitherOf 46 = .ok (.lload_n 3, 1) := by decide +kernel
theorem dX11_eitherOf_47 : decode cX11_eitherOf 47 = .ok (.invokevirtual 238, 3) := by decide +kernel
theorem dX11_eitherOf_50 : decode cX11_eitherOf 50 = .ok (.goto 18, 3) := by decide +kernel
theorem dX11_eitherOf_53 : decode cX11_eitherOf 53 = .ok (.aload_n 0, 1) := by decide +kernel
theorem dX11_eitherOf_54 : decode cX11_eitherOf 54 = .ok (.aload_n 0, 1) := by decide +kernel
theorem dX11_eitherOf_55 : decode cX11_eitherOf 55 = .ok (.getfield 16, 3) := by decide +kernel
theorem dX11_eitherOf_58 : decode cX11_eitherOf 58 = .ok (.iload_n 1, 1) := by decide +kernel
theorem dX11_eitherOf_59 : decode cX11_eitherOf 59 = .ok (.iaload, 1) := by decide +kernel
theorem dX11_eitherOf_60 : decode cX11_eitherOf 60 = .ok (.iload_n 2, 1) := by decide +kernel
theorem dX11_eitherOf_61 : decode cX11_eitherOf 61 = .ok (.lload_n 3, 1) := by decide +kernel
theorem dX11_eitherOf_62 : decode cX11_eitherOf 62 = .ok (.lload 5, 2) := by decide +kernel
theorem dX11_eitherOf_64 : decode cX11_eitherOf 64 = .ok (.lsub, 1) := by decide +kernel
theorem dX11_eitherOf_65 : decode cX11_eitherOf 65 = .ok (.invokevirtual 238, 3) := by decide +kernel
theorem dX11_eitherOf_68 : decode cX11_eitherOf 68 = .ok (.return_, 1) := by decide +kernel
theorem dX11_rowOf_0 : decode cX11_rowOf 0 = .ok (.aload_n 0, 1) := by decide +kernel
theorem dX11_rowOf_1 : decode cX11_rowOf 1 = .ok (.getfield 13, 3) := by decide +kernel
theorem dX11_rowOf_4 : decode cX11_rowOf 4 = .ok (.iload_n 1, 1) := by decide +kernel
theorem dX11_rowOf_5 : decode cX11_rowOf 5 = .ok (.iaload, 1) := by decide +kernel
theorem dX11_rowOf_6 : decode cX11_rowOf 6 = .ok (.istore 5, 2) := by decide +kernel
theorem dX11_rowOf_8 : decode cX11_rowOf 8 = .ok (.lload_n 3, 1) := by decide +kernel
theorem dX11_rowOf_9 : decode cX11_rowOf 9 = .ok (.lstore 6, 2) := by decide +kernel
theorem dX11_rowOf_11 : decode cX11_rowOf 11 = .ok (.iload_n 2, 1) := by decide +kernel
theorem dX11_rowOf_12 : decode cX11_rowOf 12 = .ok (.istore 8, 2) := by decide +kernel
theorem dX11_rowOf_14 : decode cX11_rowOf 14 = .ok (.aload_n 0, 1) := by decide +kernel
theorem dX11_rowOf_15 : decode cX11_rowOf 15 = .ok (.bipush 91, 2) := by decide +kernel
theorem dX11_rowOf_17 : decode cX11_rowOf 17 = .ok (.invokevirtual 224, 3) := by decide +kernel
theorem dX11_rowOf_20 : decode cX11_rowOf 20 = .ok (.iload 8, 2) := by decide +kernel
theorem dX11_rowOf_22 : decode cX11_rowOf 22 = .ok (.ifCond .le 113, 3) := by decide +kernel
theorem dX11_rowOf_25 : decode cX11_rowOf 25 = .ok (.iconst 1, 1) := by decide +kernel
theorem dX11_rowOf_26 : decode cX11_rowOf 26 = .ok (.istore 9, 2) := by decide +kernel
theorem dX11_rowOf_28 : decode cX11_rowOf 28 = .ok (.aload_n 0, 1) := by decide +kernel
theorem dX11_rowOf_29 : decode cX11_rowOf 29 = .ok (.iload 5, 2) := by decide +kernel
theorem dX11_rowOf_31 : decode cX11_rowOf 31 = .ok (.iconst 1, 1) := by decide +kernel
theorem dX11_rowOf_32 : decode cX11_rowOf 32 = .ok (.invokevirtual 180, 3) := by decide +kernel
theorem dX11_rowOf_35 : decode cX11_rowOf 35 = .ok (.aload_n 0, 1) := by decide +kernel
theorem dX11_rowOf_36 : decode cX11_rowOf 36 = .ok (.iload_n 1, 1) := by decide +kernel
theorem dX11_rowOf_37 : decode cX11_rowOf 37 = .ok (.iload 8, 2) := by decide +kernel
theorem dX11_rowOf_39 : decode cX11_rowOf 39 = .ok (.iconst 1, 1) := by decide +kernel
theorem dX11_rowOf_40 : decode cX11_rowOf 40 = .ok (.isub, 1) := by decide +kernel
theorem dX11_rowOf_41 : decode cX11_rowOf 41 = .ok (.invokevirtual 180, 3) := by decide +kernel
theorem dX11_rowOf_44 : decode cX11_rowOf 44 = .ok (.invokestatic 166, 3) := by decide +kernel
theorem dX11_rowOf_47 : decode cX11_rowOf 47 = .ok (.lstore 10, 2) := by decide +kernel
theorem dX11_rowOf_49 : decode cX11_rowOf 49 = .ok (.lload 6, 2) := by decide +kernel
theorem dX11_rowOf_51 : decode cX11_rowOf 51 = .ok (.lload 10, 2) := by decide +kernel
theorem dX11_rowOf_53 : decode cX11_rowOf 53 = .ok (.lcmp, 1) := by decide +kernel
theorem dX11_rowOf_54 : decode cX11_rowOf 54 = .ok (.ifCond .lt 39, 3) := by decide +kernel
theorem dX11_rowOf_57 : decode cX11_rowOf 57 = .ok (.lload 6, 2) := by decide +kernel
theorem dX11_rowOf_59 : decode cX11_rowOf 59 = .ok (.lload 10, 2) := by decide +kernel
theorem dX11_rowOf_61 : decode cX11_rowOf 61 = .ok (.lsub, 1) := by decide +kernel
theorem dX11_rowOf_62 : decode cX11_rowOf 62 = .ok (.lstore 6, 2) := by decide +kernel
theorem dX11_rowOf_64 : decode cX11_rowOf 64 = .ok (.iinc 9 1, 3) := by decide +kernel
theorem dX11_rowOf_67 : decode cX11_rowOf 67 = .ok (.aload_n 0, 1) := by decide +kernel
theorem dX11_rowOf_68 : decode cX11_rowOf 68 = .ok (.iload 5, 2) := by decide +kernel
theorem dX11_rowOf_70 : decode cX11_rowOf 70 = .ok (.iload 9, 2) := by decide +kernel
theorem dX11_rowOf_72 : decode cX11_rowOf 72 = .ok (.invokevirtual 180, 3) := by decide +kernel
theorem dX11_rowOf_75 : decode cX11_rowOf 75 = .ok (.aload_n 0, 1) := by decide +kernel
theorem dX11_rowOf_76 : decode cX11_rowOf 76 = .ok (.iload_n 1, 1) := by decide +kernel
theorem dX11_rowOf_77 : decode cX11_rowOf 77 = .ok (.iload 8, 2) := by decide +kernel
theorem dX11_rowOf_79 : decode cX11_rowOf 79 = .ok (.iload 9, 2) := by decide +kernel
theorem dX11_rowOf_81 : decode cX11_rowOf 81 = .ok (.isub, 1) := by decide +kernel
theorem dX11_rowOf_82 : decode cX11_rowOf 82 = .ok (.invokevirtual 180, 3) := by decide +kernel
theorem dX11_rowOf_85 : decode cX11_rowOf 85 = .ok (.invokestatic 166, 3) := by decide +kernel
theorem dX11_rowOf_88 : decode cX11_rowOf 88 = .ok (.lstore 10, 2) := by decide +kernel
theorem dX11_rowOf_90 : decode cX11_rowOf 90 = .ok (.goto (-41), 3) := by decide +kernel
theorem dX11_rowOf_93 : decode cX11_rowOf 93 = .ok (.aload_n 0, 1) := by decide +kernel
theorem dX11_rowOf_94 : decode cX11_rowOf 94 = .ok (.iload_n 1, 1) := by decide +kernel
theorem dX11_rowOf_95 : decode cX11_rowOf 95 = .ok (.iload 8, 2) := by decide +kernel
theorem dX11_rowOf_97 : decode cX11_rowOf 97 = .ok (.iload 9, 2) := by decide +kernel
theorem dX11_rowOf_99 : decode cX11_rowOf 99 = .ok (.isub, 1) := by decide +kernel
theorem dX11_rowOf_100 : decode cX11_rowOf 100 = .ok (.invokevirtual 180, 3) := by decide +kernel
theorem dX11_rowOf_103 : decode cX11_rowOf 103 = .ok (.lstore 12, 2) := by decide +kernel
theorem dX11_rowOf_105 : decode cX11_rowOf 105 = .ok (.aload_n 0, 1) := by decide +kernel
theorem dX11_rowOf_106 : decode cX11_rowOf 106 = .ok (.iload 5, 2) := by decide +kernel
theorem dX11_rowOf_108 : decode cX11_rowOf 108 = .ok (.iload 9, 2) := by decide +kernel
theorem dX11_rowOf_110 : decode cX11_rowOf 110 = .ok (.lload 6, 2) := by decide +kernel
theorem dX11_rowOf_112 : decode cX11_rowOf 112 = .ok (.lload 12, 2) := by decide +kernel
theorem dX11_rowOf_114 : decode cX11_rowOf 114 = .ok (.ldiv, 1) := by decide +kernel
theorem dX11_rowOf_115 : decode cX11_rowOf 115 = .ok (.invokevirtual 238, 3) := by decide +kernel
theorem dX11_rowOf_118 : decode cX11_rowOf 118 = .ok (.lload 6, 2) := by decide +kernel
theorem dX11_rowOf_120 : decode cX11_rowOf 120 = .ok (.lload 12, 2) := by decide +kernel
theorem dX11_rowOf_122 : decode cX11_rowOf 122 = .ok (.lrem, 1) := by decide +kernel
theorem dX11_rowOf_123 : decode cX11_rowOf 123 = .ok (.lstore 6, 2) := by decide +kernel
theorem dX11_rowOf_125 : decode cX11_rowOf 125 = .ok (.iload 8, 2) := by decide +kernel
theorem dX11_rowOf_127 : decode cX11_rowOf 127 = .ok (.iload 9, 2) := by decide +kernel
theorem dX11_rowOf_129 : decode cX11_rowOf 129 = .ok (.isub, 1) := by decide +kernel
theorem dX11_rowOf_130 : decode cX11_rowOf 130 = .ok (.istore 8, 2) := by decide +kernel
theorem dX11_rowOf_132 : decode cX11_rowOf 132 = .ok (.goto (-112), 3) := by decide +kernel
theorem dX11_rowOf_135 : decode cX11_rowOf 135 = .ok (.aload_n 0, 1) := by decide +kernel
theorem dX11_rowOf_136 : decode cX11_rowOf 136 = .ok (.bipush 93, 2) := by decide +kernel
theorem dX11_rowOf_138 : decode cX11_rowOf 138 = .ok (.invokevirtual 224, 3) := by decide +kernel
theorem dX11_rowOf_141 : decode cX11_rowOf 141 = .ok (.return_, 1) := by decide +kernel
theorem dX11_firstOf_0 : decode cX11_firstOf 0 = .ok (.lconst 0, 1) := by decide +kernel
theorem dX11_firstOf_1 : decode cX11_firstOf 1 = .ok (.lstore 6, 2) := by decide +kernel
theorem dX11_firstOf_3 : decode cX11_firstOf 3 = .ok (.aload_n 0, 1) := by decide +kernel
theorem dX11_firstOf_4 : decode cX11_firstOf 4 = .ok (.aload_n 0, 1) := by decide +kernel
theorem dX11_firstOf_5 : decode cX11_firstOf 5 = .ok (.getfield 13, 3) := by decide +kernel
theorem dX11_firstOf_8 : decode cX11_firstOf 8 = .ok (.iload_n 1, 1) := by decide +kernel
theorem dX11_firstOf_9 : decode cX11_firstOf 9 = .ok (.iaload, 1) := by decide +kernel
theorem dX11_firstOf_10 : decode cX11_firstOf 10 = .ok (.iload_n 3, 1) := by decide +kernel
theorem dX11_firstOf_11 : decode cX11_firstOf 11 = .ok (.invokevirtual 180, 3) := by decide +kernel
theorem dX11_firstOf_14 : decode cX11_firstOf 14 = .ok (.lconst 1, 1) := by decide +kernel
theorem dX11_firstOf_15 : decode cX11_firstOf 15 = .ok (.lsub, 1) := by decide +kernel
theorem dX11_firstOf_16 : decode cX11_firstOf 16 = .ok (.lstore 8, 2) := by decide +kernel
theorem dX11_firstOf_18 : decode cX11_firstOf 18 = .ok (.lload 6, 2) := by decide +kernel
theorem dX11_firstOf_20 : decode cX11_firstOf 20 = .ok (.lload 8, 2) := by decide +kernel
theorem dX11_firstOf_22 : decode cX11_firstOf 22 = .ok (.lcmp, 1) := by decide +kernel
theorem dX11_firstOf_23 : decode cX11_firstOf 23 = .ok (.ifCond .ge 47, 3) := by decide +kernel
theorem dX11_firstOf_26 : decode cX11_firstOf 26 = .ok (.lload 6, 2) := by decide +kernel
theorem dX11_firstOf_28 : decode cX11_firstOf 28 = .ok (.lload 8, 2) := by decide +kernel
theorem dX11_firstOf_30 : decode cX11_firstOf 30 = .ok (.ladd, 1) := by decide +kernel
theorem dX11_firstOf_31 : decode cX11_firstOf 31 = .ok (.ldc2_w 122, 3) := by decide +kernel
theorem dX11_firstOf_34 : decode cX11_firstOf 34 = .ok (.ldiv, 1) := by decide +kernel
theorem dX11_firstOf_35 : decode cX11_firstOf 35 = .ok (.lstore 10, 2) := by decide +kernel
theorem dX11_firstOf_37 : decode cX11_firstOf 37 = .ok (.lload 4, 2) := by decide +kernel
theorem dX11_firstOf_39 : decode cX11_firstOf 39 = .ok (.aload_n 0, 1) := by decide +kernel
theorem dX11_firstOf_40 : decode cX11_firstOf 40 = .ok (.iload_n 1, 1) := by decide +kernel
theorem dX11_firstOf_41 : decode cX11_firstOf 41 = .ok (.iload_n 2, 1) := by decide +kernel
theorem dX11_firstOf_42 : decode cX11_firstOf 42 = .ok (.iload_n 3, 1) := by decide +kernel
theorem dX11_firstOf_43 : decode cX11_firstOf 43 = .ok (.lload 10, 2) := by decide +kernel
theorem dX11_firstOf_45 : decode cX11_firstOf 45 = .ok (.lconst 1, 1) := by decide +kernel
theorem dX11_firstOf_46 : decode cX11_firstOf 46 = .ok (.ladd, 1) := by decide +kernel
theorem dX11_firstOf_47 : decode cX11_firstOf 47 = .ok (.invokevirtual 184, 3) := by decide +kernel
theorem dX11_firstOf_50 : decode cX11_firstOf 50 = .ok (.lcmp, 1) := by decide +kernel
theorem dX11_firstOf_51 : decode cX11_firstOf 51 = .ok (.ifCond .ge 10, 3) := by decide +kernel
theorem dX11_firstOf_54 : decode cX11_firstOf 54 = .ok (.lload 10, 2) := by decide +kernel
theorem dX11_firstOf_56 : decode cX11_firstOf 56 = .ok (.lstore 8, 2) := by decide +kernel
theorem dX11_firstOf_58 : decode cX11_firstOf 58 = .ok (.goto 9, 3) := by decide +kernel
theorem dX11_firstOf_61 : decode cX11_firstOf 61 = .ok (.lload 10, 2) := by decide +kernel
theorem dX11_firstOf_63 : decode cX11_firstOf 63 = .ok (.lconst 1, 1) := by decide +kernel
theorem dX11_firstOf_64 : decode cX11_firstOf 64 = .ok (.ladd, 1) := by decide +kernel
theorem dX11_firstOf_65 : decode cX11_firstOf 65 = .ok (.lstore 6, 2) := by decide +kernel
theorem dX11_firstOf_67 : decode cX11_firstOf 67 = .ok (.goto (-49), 3) := by decide +kernel
theorem dX11_firstOf_70 : decode cX11_firstOf 70 = .ok (.lload 6, 2) := by decide +kernel
theorem dX11_firstOf_72 : decode cX11_firstOf 72 = .ok (.lreturn, 1) := by decide +kernel
theorem dX11_setOf_0 : decode cX11_setOf 0 = .ok (.lload_n 3, 1) := by decide +kernel
theorem dX11_setOf_1 : decode cX11_setOf 1 = .ok (.lstore 5, 2) := by decide +kernel
theorem dX11_setOf_3 : decode cX11_setOf 3 = .ok (.iload_n 2, 1) := by decide +kernel
theorem dX11_setOf_4 : decode cX11_setOf 4 = .ok (.istore 7, 2) := by decide +kernel
theorem dX11_setOf_6 : decode cX11_setOf 6 = .ok (.aload_n 0, 1) := by decide +kernel
theorem dX11_setOf_7 : decode cX11_setOf 7 = .ok (.aload_n 0, 1) := by decide +kernel
theorem dX11_setOf_8 : decode cX11_setOf 8 = .ok (.getfield 7, 3) := by decide +kernel
theorem dX11_setOf_11 : decode cX11_setOf 11 = .ok (.iload_n 1, 1) := by decide +kernel
theorem dX11_setOf_12 : decode cX11_setOf 12 = .ok (.iaload, 1) := by decide +kernel
theorem dX11_setOf_13 : decode cX11_setOf 13 = .ok (.iconst 5, 1) := by decide +kernel
theorem dX11_setOf_14 : decode cX11_setOf 14 = .ok (.if_icmp .ne 8, 3) := by decide +kernel
theorem dX11_setOf_17 : decode cX11_setOf 17 = .ok (.bipush 123, 2) := by decide +kernel
theorem dX11_setOf_19 : decode cX11_setOf 19 = .ok (.goto 5, 3) := by decide +kernel
theorem dX11_setOf_22 : decode cX11_setOf 22 = .ok (.bipush 60, 2) := by decide +kernel
theorem dX11_setOf_24 : decode cX11_setOf 24 = .ok (.invokevirtual 224, 3) := by decide +kernel
theorem dX11_setOf_27 : decode cX11_setOf 27 = .ok (.iload 7, 2) := by decide +kernel
theorem dX11_setOf_29 : decode cX11_setOf 29 = .ok (.ifCond .le 80, 3) := by decide +kernel
theorem dX11_setOf_32 : decode cX11_setOf 32 = .ok (.iconst 1, 1) := by decide +kernel
theorem dX11_setOf_33 : decode cX11_setOf 33 = .ok (.istore 8, 2) := by decide +kernel
theorem dX11_setOf_35 : decode cX11_setOf 35 = .ok (.lload 5, 2) := by decide +kernel
theorem dX11_setOf_37 : decode cX11_setOf 37 = .ok (.aload_n 0, 1) := by decide +kernel
theorem dX11_setOf_38 : decode cX11_setOf 38 = .ok (.iload_n 1, 1) := by decide +kernel
theorem dX11_setOf_39 : decode cX11_setOf 39 = .ok (.iload 7, 2) := by decide +kernel
theorem dX11_setOf_41 : decode cX11_setOf 41 = .ok (.iload 8, 2) := by decide +kernel
theorem dX11_setOf_43 : decode cX11_setOf 43 = .ok (.invokevirtual 173, 3) := by decide +kernel
theorem dX11_setOf_46 : decode cX11_setOf 46 = .ok (.lcmp, 1) := by decide +kernel
theorem dX11_setOf_47 : decode cX11_setOf 47 = .ok (.ifCond .lt 9, 3) := by decide +kernel
theorem dX11_setOf_50 : decode cX11_setOf 50 = .ok (.iinc 8 1, 3) := by decide +kernel
theorem dX11_setOf_53 : decode cX11_setOf 53 = .ok (.goto (-18), 3) := by decide +kernel
theorem dX11_setOf_56 : decode cX11_setOf 56 = .ok (.aload_n 0, 1) := by decide +kernel
theorem dX11_setOf_57 : decode cX11_setOf 57 = .ok (.iload_n 1, 1) := by decide +kernel
theorem dX11_setOf_58 : decode cX11_setOf 58 = .ok (.iload 7, 2) := by decide +kernel
theorem dX11_setOf_60 : decode cX11_setOf 60 = .ok (.iload 8, 2) := by decide +kernel
theorem dX11_setOf_62 : decode cX11_setOf 62 = .ok (.lload 5, 2) := by decide +kernel
theorem dX11_setOf_64 : decode cX11_setOf 64 = .ok (.invokevirtual 248, 3) := by decide +kernel
theorem dX11_setOf_67 : decode cX11_setOf 67 = .ok (.lstore 9, 2) := by decide +kernel
theorem dX11_setOf_69 : decode cX11_setOf 69 = .ok (.lload 5, 2) := by decide +kernel
theorem dX11_setOf_71 : decode cX11_setOf 71 = .ok (.aload_n 0, 1) := by decide +kernel
theorem dX11_setOf_72 : decode cX11_setOf 72 = .ok (.iload_n 1, 1) := by decide +kernel
theorem dX11_setOf_73 : decode cX11_setOf 73 = .ok (.iload 7, 2) := by decide +kernel
theorem dX11_setOf_75 : decode cX11_setOf 75 = .ok (.iload 8, 2) := by decide +kernel
theorem dX11_setOf_77 : decode cX11_setOf 77 = .ok (.lload 9, 2) := by decide +kernel
theorem dX11_setOf_79 : decode cX11_setOf 79 = .ok (.invokevirtual 184, 3) := by decide +kernel
theorem dX11_setOf_82 : decode cX11_setOf 82 = .ok (.lsub, 1) := by decide +kernel
theorem dX11_setOf_83 : decode cX11_setOf 83 = .ok (.lstore 5, 2) := by decide +kernel
theorem dX11_setOf_85 : decode cX11_setOf 85 = .ok (.aload_n 0, 1) := by decide +kernel
theorem dX11_setOf_86 : decode cX11_setOf 86 = .ok (.aload_n 0, 1) := by decide +kernel
theorem dX11_setOf_87 : decode cX11_setOf 87 = .ok (.getfield 13, 3) := by decide +kernel
theorem dX11_setOf_90 : decode cX11_setOf 90 = .ok (.iload_n 1, 1) := by decide +kernel
theorem dX11_setOf_91 : decode cX11_setOf 91 = .ok (.iaload, 1) := by decide +kernel
theorem dX11_setOf_92 : decode cX11_setOf 92 = .ok (.iload 8, 2) := by decide +kernel
theorem dX11_setOf_94 : decode cX11_setOf 94 = .ok (.lload 9, 2) := by decide +kernel
theorem dX11_setOf_96 : decode cX11_setOf 96 = .ok (.invokevirtual 238, 3) := by decide +kernel
theorem dX11_setOf_99 : decode cX11_setOf 99 = .ok (.iload 7, 2) := by decide +kernel
theorem dX11_setOf_101 : decode cX11_setOf 101 = .ok (.iload 8, 2) := by decide +kernel
theorem dX11_setOf_103 : decode cX11_setOf 103 = .ok (.isub, 1) := by decide +kernel
theorem dX11_setOf_104 : decode cX11_setOf 104 = .ok (.istore 7, 2) := by decide +kernel
theorem dX11_setOf_106 : decode cX11_setOf 106 = .ok (.goto (-79), 3) := by decide +kernel
theorem dX11_setOf_109 : decode cX11_setOf 109 = .ok (.aload_n 0, 1) := by decide +kernel
theorem dX11_setOf_110 : decode cX11_setOf 110 = .ok (.aload_n 0, 1) := by decide +kernel
theorem dX11_setOf_111 : decode cX11_setOf 111 = .ok (.getfield 7, 3) := by decide +kernel
theorem dX11_setOf_114 : decode cX11_setOf 114 = .ok (.iload_n 1, 1) := by decide +kernel
theorem dX11_setOf_115 : decode cX11_setOf 115 = .ok (.iaload, 1) := by decide +kernel
theorem dX11_setOf_116 : decode cX11_setOf 116 = .ok (.iconst 5, 1) := by decide +kernel
theorem dX11_setOf_117 : decode cX11_setOf 117 = .ok (.if_icmp .ne 8, 3) := by decide +kernel
theorem dX11_setOf_120 : decode cX11_setOf 120 = .ok (.bipush 125, 2) := by decide +kernel
theorem dX11_setOf_122 : decode cX11_setOf 122 = .ok (.goto 5, 3) := by decide +kernel
theorem dX11_setOf_125 : decode cX11_setOf 125 = .ok (.bipush 62, 2) := by decide +kernel
theorem dX11_setOf_127 : decode cX11_setOf 127 = .ok (.invokevirtual 224, 3) := by decide +kernel
theorem dX11_setOf_130 : decode cX11_setOf 130 = .ok (.return_, 1) := by decide +kernel
theorem dX11_lettersOf_0 : decode cX11_lettersOf 0 = .ok (.lload_n 2, 1) := by decide +kernel
theorem dX11_lettersOf_1 : decode cX11_lettersOf 1 = .ok (.lstore 4, 2) := by decide +kernel
theorem dX11_lettersOf_3 : decode cX11_lettersOf 3 = .ok (.iconst 0, 1) := by decide +kernel
theorem dX11_lettersOf_4 : decode cX11_lettersOf 4 = .ok (.istore 6, 2) := by decide +kernel
theorem dX11_lettersOf_6 : decode cX11_lettersOf 6 = .ok (.aload_n 0, 1) := by decide +kernel
theorem dX11_lettersOf_7 : decode cX11_lettersOf 7 = .ok (.bipush 61, 2) := by decide +kernel
theorem dX11_lettersOf_9 : decode cX11_lettersOf 9 = .ok (.invokevirtual 224, 3) := by decide +kernel
theorem dX11_lettersOf_12 : decode cX11_lettersOf 12 = .ok (.iload_n 1, 1) := by decide +kernel
theorem dX11_lettersOf_13 : decode cX11_lettersOf 13 = .ok (.iconst 1, 1) := by decide +kernel
theorem dX11_lettersOf_14 : decode cX11_lettersOf 14 = .ok (.isub, 1) := by decide +kernel
theorem dX11_lettersOf_15 : decode cX11_lettersOf 15 = .ok (.istore 7, 2) := by decide +kernel
theorem dX11_lettersOf_17 : decode cX11_lettersOf 17 = .ok (.iload 7, 2) := by decide +kernel
theorem dX11_lettersOf_19 : decode cX11_lettersOf 19 = .ok (.ifCond .lt 95, 3) := by decide +kernel
theorem dX11_lettersOf_22 : decode cX11_lettersOf 22 = .ok (.iload 7, 2) := by decide +kernel
theorem dX11_lettersOf_24 : decode cX11_lettersOf 24 = .ok (.invokestatic 194, 3) := by decide +kernel
theorem dX11_lettersOf_27 : decode cX11_lettersOf 27 = .ok (.lstore 8, 2) := by decide +kernel
theorem dX11_lettersOf_29 : decode cX11_lettersOf 29 = .ok (.lload 4, 2) := by decide +kernel
theorem dX11_lettersOf_31 : decode cX11_lettersOf 31 = .ok (.lload 8, 2) := by decide +kernel
theorem dX11_lettersOf_33 : decode cX11_lettersOf 33 = .ok (.ldiv, 1) := by decide +kernel
theorem dX11_lettersOf_34 : decode cX11_lettersOf 34 = .ok (.l2i, 1) := by decide +kernel
theorem dX11_lettersOf_35 : decode cX11_lettersOf 35 = .ok (.istore 10, 2) := by decide +kernel
theorem dX11_lettersOf_37 : decode cX11_lettersOf 37 = .ok (.lload 4, 2) := by decide +kernel
theorem dX11_lettersOf_39 : decode cX11_lettersOf 39 = .ok (.lload 8, 2) := by decide +kernel
theorem dX11_lettersOf_41 : decode cX11_lettersOf 41 = .ok (.lrem, 1) := by decide +kernel
theorem dX11_lettersOf_42 : decode cX11_lettersOf 42 = .ok (.lstore 4, 2) := by decide +kernel
theorem dX11_lettersOf_44 : decode cX11_lettersOf 44 = .ok (.iconst 0, 1) := by decide +kernel
theorem dX11_lettersOf_45 : decode cX11_lettersOf 45 = .ok (.istore 11, 2) := by decide +kernel
theorem dX11_lettersOf_47 : decode cX11_lettersOf 47 = .ok (.iload 10, 2) := by decide +kernel
theorem dX11_lettersOf_49 : decode cX11_lettersOf 49 = .ok (.ifCond .gt 14, 3) := by decide +kernel
theorem dX11_lettersOf_52 : decode cX11_lettersOf 52 = .ok (.iload 6, 2) := by decide +kernel
theorem dX11_lettersOf_54 : decode cX11_lettersOf 54 = .ok (.iload 11, 2) := by decide +kernel
theorem dX11_lettersOf_56 : decode cX11_lettersOf 56 = .ok (.ishr, 1) := by decide +kernel
theorem dX11_lettersOf_57 : decode cX11_lettersOf 57 = .ok (.iconst 1, 1) := by decide +kernel
theorem dX11_lettersOf_58 : decode cX11_lettersOf 58 = .ok (.iand, 1) := by decide +kernel
theorem dX11_lettersOf_59 : decode cX11_lettersOf 59 = .ok (.iconst 1, 1) := by decide +kernel
theorem dX11_lettersOf_60 : decode cX11_lettersOf 60 = .ok (.if_icmp .ne 30, 3) := by decide +kernel
theorem dX11_lettersOf_63 : decode cX11_lettersOf 63 = .ok (.iload 10, 2) := by decide +kernel
theorem dX11_lettersOf_65 : decode cX11_lettersOf 65 = .ok (.iload 6, 2) := by decide +kernel
theorem dX11_lettersOf_67 : decode cX11_lettersOf 67 = .ok (.iload 11, 2) := by decide +kernel
theorem dX11_lettersOf_69 : decode cX11_lettersOf 69 = .ok (.ishr, 1) := by decide +kernel
theorem dX11_lettersOf_70 : decode cX11_lettersOf 70 = .ok (.iconst 1, 1) := by decide +kernel
theorem dX11_lettersOf_71 : decode cX11_lettersOf 71 = .ok (.iand, 1) := by decide +kernel
theorem dX11_lettersOf_72 : decode cX11_lettersOf 72 = .ok (.iconst 1, 1) := by decide +kernel
theorem dX11_lettersOf_73 : decode cX11_lettersOf 73 = .ok (.if_icmp .ne 7, 3) := by decide +kernel
theorem dX11_lettersOf_76 : decode cX11_lettersOf 76 = .ok (.iconst 0, 1) := by decide +kernel
theorem dX11_lettersOf_77 : decode cX11_lettersOf 77 = .ok (.goto 4, 3) := by decide +kernel
theorem dX11_lettersOf_80 : decode cX11_lettersOf 80 = .ok (.iconst 1, 1) := by decide +kernel
theorem dX11_lettersOf_81 : decode cX11_lettersOf 81 = .ok (.isub, 1) := by decide +kernel
theorem dX11_lettersOf_82 : decode cX11_lettersOf 82 = .ok (.istore 10, 2) := by decide +kernel
theorem dX11_lettersOf_84 : decode cX11_lettersOf 84 = .ok (.iinc 11 1, 3) := by decide +kernel
theorem dX11_lettersOf_87 : decode cX11_lettersOf 87 = .ok (.goto (-40), 3) := by decide +kernel
theorem dX11_lettersOf_90 : decode cX11_lettersOf 90 = .ok (.iload 6, 2) := by decide +kernel
theorem dX11_lettersOf_92 : decode cX11_lettersOf 92 = .ok (.iconst 1, 1) := by decide +kernel
theorem dX11_lettersOf_93 : decode cX11_lettersOf 93 = .ok (.iload 11, 2) := by decide +kernel
theorem dX11_lettersOf_95 : decode cX11_lettersOf 95 = .ok (.ishl, 1) := by decide +kernel
theorem dX11_lettersOf_96 : decode cX11_lettersOf 96 = .ok (.ior, 1) := by decide +kernel
theorem dX11_lettersOf_97 : decode cX11_lettersOf 97 = .ok (.istore 6, 2) := by decide +kernel
theorem dX11_lettersOf_99 : decode cX11_lettersOf 99 = .ok (.aload_n 0, 1) := by decide +kernel
theorem dX11_lettersOf_100 : decode cX11_lettersOf 100 = .ok (.bipush 97, 2) := by decide +kernel
theorem dX11_lettersOf_102 : decode cX11_lettersOf 102 = .ok (.iload 11, 2) := by decide +kernel
theorem dX11_lettersOf_104 : decode cX11_lettersOf 104 = .ok (.iadd, 1) := by decide +kernel
theorem dX11_lettersOf_105 : decode cX11_lettersOf 105 = .ok (.invokevirtual 224, 3) := by decide +kernel
theorem dX11_lettersOf_108 : decode cX11_lettersOf 108 = .ok (.iinc 7 (-1), 3) := by decide +kernel
theorem dX11_lettersOf_111 : decode cX11_lettersOf 111 = .ok (.goto (-94), 3) := by decide +kernel
theorem dX11_lettersOf_114 : decode cX11_lettersOf 114 = .ok (.return_, 1) := by decide +kernel
theorem dX11_thing_0 : decode cX11_thing 0 = .ok (.aload_n 0, 1) := by decide +kernel
theorem dX11_thing_1 : decode cX11_thing 1 = .ok (.iload_n 1, 1) := by decide +kernel
theorem dX11_thing_2 : decode cX11_thing 2 = .ok (.invokevirtual 116, 3) := by decide +kernel
theorem dX11_thing_5 : decode cX11_thing 5 = .ok (.ifCond .eq 21, 3) := by decide +kernel
theorem dX11_thing_8 : decode cX11_thing 8 = .ok (.iload_n 2, 1) := by decide +kernel
theorem dX11_thing_9 : decode cX11_thing 9 = .ok (.invokestatic 212, 3) := by decide +kernel
theorem dX11_thing_12 : decode cX11_thing 12 = .ok (.ifCond .eq 14, 3) := by decide +kernel
theorem dX11_thing_15 : decode cX11_thing 15 = .ok (.lload_n 3, 1) := by decide +kernel
theorem dX11_thing_16 : decode cX11_thing 16 = .ok (.lconst 0, 1) := by decide +kernel
theorem dX11_thing_17 : decode cX11_thing 17 = .ok (.ldc2_w 160, 3) := by decide +kernel
theorem dX11_thing_20 : decode cX11_thing 20 = .ok (.invokestatic 81, 3) := by decide +kernel
theorem dX11_thing_23 : decode cX11_thing 23 = .ok (.ifCond .ne 7, 3) := by decide +kernel
theorem dX11_thing_26 : decode cX11_thing 26 = .ok (.ldc2_w 105, 3) := by decide +kernel
theorem dX11_thing_29 : decode cX11_thing 29 = .ok (.lreturn, 1) := by decide +kernel
theorem dX11_thing_30 : decode cX11_thing 30 = .ok (.aload_n 0, 1) := by decide +kernel
theorem dX11_thing_31 : decode cX11_thing 31 = .ok (.getfield 98, 3) := by decide +kernel
theorem dX11_thing_34 : decode cX11_thing 34 = .ok (.ifCond .ne 7, 3) := by decide +kernel
theorem dX11_thing_37 : decode cX11_thing 37 = .ok (.ldc2_w 120, 3) := by decide +kernel
theorem dX11_thing_40 : decode cX11_thing 40 = .ok (.lreturn, 1) := by decide +kernel
theorem dX11_thing_41 : decode cX11_thing 41 = .ok (.lload_n 3, 1) := by decide +kernel
theorem dX11_thing_42 : decode cX11_thing 42 = .ok (.aload_n 0, 1) := by decide +kernel
theorem dX11_thing_43 : decode cX11_thing 43 = .ok (.iload_n 1, 1) := by decide +kernel
theorem dX11_thing_44 : decode cX11_thing 44 = .ok (.iload_n 2, 1) := by decide +kernel
theorem dX11_thing_45 : decode cX11_thing 45 = .ok (.invokevirtual 180, 3) := by decide +kernel
theorem dX11_thing_48 : decode cX11_thing 48 = .ok (.lcmp, 1) := by decide +kernel
theorem dX11_thing_49 : decode cX11_thing 49 = .ok (.ifCond .lt 7, 3) := by decide +kernel
theorem dX11_thing_52 : decode cX11_thing 52 = .ok (.ldc2_w 219, 3) := by decide +kernel
theorem dX11_thing_55 : decode cX11_thing 55 = .ok (.lreturn, 1) := by decide +kernel
theorem dX11_thing_56 : decode cX11_thing 56 = .ok (.aload_n 0, 1) := by decide +kernel
theorem dX11_thing_57 : decode cX11_thing 57 = .ok (.iconst 0, 1) := by decide +kernel
theorem dX11_thing_58 : decode cX11_thing 58 = .ok (.putfield 221, 3) := by decide +kernel
theorem dX11_thing_61 : decode cX11_thing 61 = .ok (.aload_n 0, 1) := by decide +kernel
theorem dX11_thing_62 : decode cX11_thing 62 = .ok (.iload_n 1, 1) := by decide +kernel
theorem dX11_thing_63 : decode cX11_thing 63 = .ok (.iload_n 2, 1) := by decide +kernel
theorem dX11_thing_64 : decode cX11_thing 64 = .ok (.lload_n 3, 1) := by decide +kernel
theorem dX11_thing_65 : decode cX11_thing 65 = .ok (.invokevirtual 238, 3) := by decide +kernel
theorem dX11_thing_68 : decode cX11_thing 68 = .ok (.aload_n 0, 1) := by decide +kernel
theorem dX11_thing_69 : decode cX11_thing 69 = .ok (.getfield 221, 3) := by decide +kernel
theorem dX11_thing_72 : decode cX11_thing 72 = .ok (.sipush 300, 3) := by decide +kernel
theorem dX11_thing_75 : decode cX11_thing 75 = .ok (.if_icmp .le 7, 3) := by decide +kernel
theorem dX11_thing_78 : decode cX11_thing 78 = .ok (.ldc2_w 107, 3) := by decide +kernel
theorem dX11_thing_81 : decode cX11_thing 81 = .ok (.lreturn, 1) := by decide +kernel
theorem dX11_thing_82 : decode cX11_thing 82 = .ok (.aload_n 0, 1) := by decide +kernel
theorem dX11_thing_83 : decode cX11_thing 83 = .ok (.aload_n 0, 1) := by decide +kernel
theorem dX11_thing_84 : decode cX11_thing 84 = .ok (.getfield 221, 3) := by decide +kernel
theorem dX11_thing_87 : decode cX11_thing 87 = .ok (.putfield 251, 3) := by decide +kernel
theorem dX11_thing_90 : decode cX11_thing 90 = .ok (.iconst 0, 1) := by decide +kernel
theorem dX11_thing_91 : decode cX11_thing 91 = .ok (.istore 5, 2) := by decide +kernel
theorem dX11_thing_93 : decode cX11_thing 93 = .ok (.iload 5, 2) := by decide +kernel
theorem dX11_thing_95 : decode cX11_thing 95 = .ok (.aload_n 0, 1) := by decide +kernel
theorem dX11_thing_96 : decode cX11_thing 96 = .ok (.getfield 251, 3) := by decide +kernel
theorem dX11_thing_99 : decode cX11_thing 99 = .ok (.if_icmp .ge 23, 3) := by decide +kernel
theorem dX11_thing_102 : decode cX11_thing 102 = .ok (.aload_n 0, 1) := by decide +kernel
theorem dX11_thing_103 : decode cX11_thing 103 = .ok (.getfield 25, 3) := by decide +kernel
theorem dX11_thing_106 : decode cX11_thing 106 = .ok (.iload 5, 2) := by decide +kernel
theorem dX11_thing_108 : decode cX11_thing 108 = .ok (.aload_n 0, 1) := by decide +kernel
theorem dX11_thing_109 : decode cX11_thing 109 = .ok (.getfield 45, 3) := by decide +kernel
theorem dX11_thing_112 : decode cX11_thing 112 = .ok (.iload 5, 2) := by decide +kernel
theorem dX11_thing_114 : decode cX11_thing 114 = .ok (.iaload, 1) := by decide +kernel
theorem dX11_thing_115 : decode cX11_thing 115 = .ok (.iastore, 1) := by decide +kernel
theorem dX11_thing_116 : decode cX11_thing 116 = .ok (.iinc 5 1, 3) := by decide +kernel
theorem dX11_thing_119 : decode cX11_thing 119 = .ok (.goto (-26), 3) := by decide +kernel
theorem dX11_thing_122 : decode cX11_thing 122 = .ok (.aload_n 0, 1) := by decide +kernel
theorem dX11_thing_123 : decode cX11_thing 123 = .ok (.getfield 251, 3) := by decide +kernel
theorem dX11_thing_126 : decode cX11_thing 126 = .ok (.i2l, 1) := by decide +kernel
theorem dX11_thing_127 : decode cX11_thing 127 = .ok (.lreturn, 1) := by decide +kernel
theorem dX11_lay4_0 : decode cX11_lay4 0 = .ok (.bipush 24, 2) := by decide +kernel
theorem dX11_lay4_2 : decode cX11_lay4 2 = .ok (.istore_n 2, 1) := by decide +kernel
theorem dX11_lay4_3 : decode cX11_lay4 3 = .ok (.iload_n 2, 1) := by decide +kernel
theorem dX11_lay4_4 : decode cX11_lay4 4 = .ok (.ifCond .lt 35, 3) := by decide +kernel
theorem dX11_lay4_7 : decode cX11_lay4 7 = .ok (.aload_n 0, 1) := by decide +kernel
theorem dX11_lay4_8 : decode cX11_lay4 8 = .ok (.getfield 22, 3) := by decide +kernel
theorem dX11_lay4_11 : decode cX11_lay4 11 = .ok (.aload_n 0, 1) := by decide +kernel
theorem dX11_lay4_12 : decode cX11_lay4 12 = .ok (.getfield 254, 3) := by decide +kernel
theorem dX11_lay4_15 : decode cX11_lay4 15 = .ok (.iload_n 1, 1) := by decide +kernel
theorem dX11_lay4_16 : decode cX11_lay4 16 = .ok (.iload_n 2, 1) := by decide +kernel
theorem dX11_lay4_17 : decode cX11_lay4 17 = .ok (.ishr, 1) := by decide +kernel
theorem dX11_lay4_18 : decode cX11_lay4 18 = .ok (.sipush 255, 3) := by decide +kernel
theorem dX11_lay4_21 : decode cX11_lay4 21 = .ok (.iand, 1) := by decide +kernel
theorem dX11_lay4_22 : decode cX11_lay4 22 = .ok (.iastore, 1) := by decide +kernel
theorem dX11_lay4_23 : decode cX11_lay4 23 = .ok (.aload_n 0, 1) := by decide +kernel
theorem dX11_lay4_24 : decode cX11_lay4 24 = .ok (.dup, 1) := by decide +kernel
theorem dX11_lay4_25 : decode cX11_lay4 25 = .ok (.getfield 254, 3) := by decide +kernel
theorem dX11_lay4_28 : decode cX11_lay4 28 = .ok (.iconst 1, 1) := by decide +kernel
theorem dX11_lay4_29 : decode cX11_lay4 29 = .ok (.iadd, 1) := by decide +kernel
theorem dX11_lay4_30 : decode cX11_lay4 30 = .ok (.putfield 254, 3) := by decide +kernel
theorem dX11_lay4_33 : decode cX11_lay4 33 = .ok (.iinc 2 (-8), 3) := by decide +kernel
theorem dX11_lay4_36 : decode cX11_lay4 36 = .ok (.goto (-33), 3) := by decide +kernel
theorem dX11_lay4_39 : decode cX11_lay4 39 = .ok (.return_, 1) := by decide +kernel
theorem dX11_feed_0 : decode cX11_feed 0 = .ok (.aload_n 0, 1) := by decide +kernel
theorem dX11_feed_1 : decode cX11_feed 1 = .ok (.getfield 254, 3) := by decide +kernel
theorem dX11_feed_4 : decode cX11_feed 4 = .ok (.bipush 20, 2) := by decide +kernel
theorem dX11_feed_6 : decode cX11_feed 6 = .ok (.iadd, 1) := by decide +kernel
theorem dX11_feed_7 : decode cX11_feed 7 = .ok (.sipush 300, 3) := by decide +kernel
theorem dX11_feed_10 : decode cX11_feed 10 = .ok (.if_icmp .le 7, 3) := by decide +kernel
theorem dX11_feed_13 : decode cX11_feed 13 = .ok (.ldc2_w 107, 3) := by decide +kernel
theorem dX11_feed_16 : decode cX11_feed 16 = .ok (.lreturn, 1) := by decide +kernel
theorem dX11_feed_17 : decode cX11_feed 17 = .ok (.aload_n 0, 1) := by decide +kernel
theorem dX11_feed_18 : decode cX11_feed 18 = .ok (.iload_n 1, 1) := by decide +kernel
theorem dX11_feed_19 : decode cX11_feed 19 = .ok (.invokevirtual 257, 3) := by decide +kernel
theorem dX11_feed_22 : decode cX11_feed 22 = .ok (.aload_n 0, 1) := by decide +kernel
theorem dX11_feed_23 : decode cX11_feed 23 = .ok (.iload_n 2, 1) := by decide +kernel
theorem dX11_feed_24 : decode cX11_feed 24 = .ok (.invokevirtual 257, 3) := by decide +kernel
theorem dX11_feed_27 : decode cX11_feed 27 = .ok (.aload_n 0, 1) := by decide +kernel
theorem dX11_feed_28 : decode cX11_feed 28 = .ok (.iload_n 3, 1) := by decide +kernel
theorem dX11_feed_29 : decode cX11_feed 29 = .ok (.invokevirtual 257, 3) := by decide +kernel
theorem dX11_feed_32 : decode cX11_feed 32 = .ok (.aload_n 0, 1) := by decide +kernel
theorem dX11_feed_33 : decode cX11_feed 33 = .ok (.iload 4, 2) := by decide +kernel
theorem dX11_feed_35 : decode cX11_feed 35 = .ok (.invokevirtual 257, 3) := by decide +kernel
theorem dX11_feed_38 : decode cX11_feed 38 = .ok (.aload_n 0, 1) := by decide +kernel
theorem dX11_feed_39 : decode cX11_feed 39 = .ok (.iload 5, 2) := by decide +kernel
theorem dX11_feed_41 : decode cX11_feed 41 = .ok (.invokevirtual 257, 3) := by decide +kernel
theorem dX11_feed_44 : decode cX11_feed 44 = .ok (.aload_n 0, 1) := by decide +kernel
theorem dX11_feed_45 : decode cX11_feed 45 = .ok (.getfield 254, 3) := by decide +kernel
theorem dX11_feed_48 : decode cX11_feed 48 = .ok (.i2l, 1) := by decide +kernel
theorem dX11_feed_49 : decode cX11_feed 49 = .ok (.lreturn, 1) := by decide +kernel
theorem dX11_trim_0 : decode cX11_trim 0 = .ok (.iload_n 1, 1) := by decide +kernel
theorem dX11_trim_1 : decode cX11_trim 1 = .ok (.i2l, 1) := by decide +kernel
theorem dX11_trim_2 : decode cX11_trim 2 = .ok (.lconst 0, 1) := by decide +kernel
theorem dX11_trim_3 : decode cX11_trim 3 = .ok (.aload_n 0, 1) := by decide +kernel
theorem dX11_trim_4 : decode cX11_trim 4 = .ok (.getfield 254, 3) := by decide +kernel
theorem dX11_trim_7 : decode cX11_trim 7 = .ok (.i2l, 1) := by decide +kernel
theorem dX11_trim_8 : decode cX11_trim 8 = .ok (.invokestatic 81, 3) := by decide +kernel
theorem dX11_trim_11 : decode cX11_trim 11 = .ok (.ifCond .ne 7, 3) := by decide +kernel
theorem dX11_trim_14 : decode cX11_trim 14 = .ok (.ldc2_w 105, 3) := by decide +kernel
theorem dX11_trim_17 : decode cX11_trim 17 = .ok (.lreturn, 1) := by decide +kernel
theorem dX11_trim_18 : decode cX11_trim 18 = .ok (.aload_n 0, 1) := by decide +kernel
theorem dX11_trim_19 : decode cX11_trim 19 = .ok (.iload_n 1, 1) := by decide +kernel
theorem dX11_trim_20 : decode cX11_trim 20 = .ok (.putfield 254, 3) := by decide +kernel
theorem dX11_trim_23 : decode cX11_trim 23 = .ok (.iload_n 1, 1) := by decide +kernel
theorem dX11_trim_24 : decode cX11_trim 24 = .ok (.i2l, 1) := by decide +kernel
theorem dX11_trim_25 : decode cX11_trim 25 = .ok (.lreturn, 1) := by decide +kernel
theorem dX11_again_0 : decode cX11_again 0 = .ok (.aload_n 0, 1) := by decide +kernel
theorem dX11_again_1 : decode cX11_again 1 = .ok (.aload_n 0, 1) := by decide +kernel
theorem dX11_again_2 : decode cX11_again 2 = .ok (.getfield 251, 3) := by decide +kernel
theorem dX11_again_5 : decode cX11_again 5 = .ok (.putfield 254, 3) := by decide +kernel
theorem dX11_again_8 : decode cX11_again 8 = .ok (.iconst 0, 1) := by decide +kernel
theorem dX11_again_9 : decode cX11_again 9 = .ok (.istore_n 1, 1) := by decide +kernel
theorem dX11_again_10 : decode cX11_again 10 = .ok (.iload_n 1, 1) := by decide +kernel
theorem dX11_again_11 : decode cX11_again 11 = .ok (.aload_n 0, 1) := by decide +kernel
theorem dX11_again_12 : decode cX11_again 12 = .ok (.getfield 251, 3) := by decide +kernel
theorem dX11_again_15 : decode cX11_again 15 = .ok (.if_icmp .ge 21, 3) := by decide +kernel
theorem dX11_again_18 : decode cX11_again 18 = .ok (.aload_n 0, 1) := by decide +kernel
theorem dX11_again_19 : decode cX11_again 19 = .ok (.getfield 22, 3) := by decide +kernel
theorem dX11_again_22 : decode cX11_again 22 = .ok (.iload_n 1, 1) := by decide +kernel
theorem dX11_again_23 : decode cX11_again 23 = .ok (.aload_n 0, 1) := by decide +kernel
theorem dX11_again_24 : decode cX11_again 24 = .ok (.getfield 25, 3) := by decide +kernel
theorem dX11_again_27 : decode cX11_again 27 = .ok (.iload_n 1, 1) := by decide +kernel
theorem dX11_again_28 : decode cX11_again 28 = .ok (.iaload, 1) := by decide +kernel
theorem dX11_again_29 : decode cX11_again 29 = .ok (.iastore, 1) := by decide +kernel
theorem dX11_again_30 : decode cX11_again 30 = .ok (.iinc 1 1, 3) := by decide +kernel
theorem dX11_again_33 : decode cX11_again 33 = .ok (.goto (-23), 3) := by decide +kernel
theorem dX11_again_36 : decode cX11_again 36 = .ok (.aload_n 0, 1) := by decide +kernel
theorem dX11_again_37 : decode cX11_again 37 = .ok (.getfield 254, 3) := by decide +kernel
theorem dX11_again_40 : decode cX11_again 40 = .ok (.i2l, 1) := by decide +kernel
theorem dX11_again_41 : decode cX11_again 41 = .ok (.lreturn, 1) := by decide +kernel
theorem dX11_here_0 : decode cX11_here 0 = .ok (.aload_n 0, 1) := by decide +kernel
theorem dX11_here_1 : decode cX11_here 1 = .ok (.getfield 260, 3) := by decide +kernel
theorem dX11_here_4 : decode cX11_here 4 = .ok (.aload_n 0, 1) := by decide +kernel
theorem dX11_here_5 : decode cX11_here 5 = .ok (.getfield 254, 3) := by decide +kernel
theorem dX11_here_8 : decode cX11_here 8 = .ok (.if_icmp .ge 15, 3) := by decide +kernel
theorem dX11_here_11 : decode cX11_here 11 = .ok (.aload_n 0, 1) := by decide +kernel
theorem dX11_here_12 : decode cX11_here 12 = .ok (.getfield 22, 3) := by decide +kernel
theorem dX11_here_15 : decode cX11_here 15 = .ok (.aload_n 0, 1) := by decide +kernel
theorem dX11_here_16 : decode cX11_here 16 = .ok (.getfield 260, 3) := by decide +kernel
theorem dX11_here_19 : decode cX11_here 19 = .ok (.iaload, 1) := by decide +kernel
theorem dX11_here_20 : decode cX11_here 20 = .ok (.goto 4, 3) := by decide +kernel
theorem dX11_here_23 : decode cX11_here 23 = .ok (.iconst (-1), 1) := by decide +kernel
theorem dX11_here_24 : decode cX11_here 24 = .ok (.ireturn, 1) := by decide +kernel
theorem dX11_need_0 : decode cX11_need 0 = .ok (.aload_n 0, 1) := by decide +kernel
theorem dX11_need_1 : decode cX11_need 1 = .ok (.getfield 263, 3) := by decide +kernel
theorem dX11_need_4 : decode cX11_need 4 = .ok (.ifCond .ge 19, 3) := by decide +kernel
theorem dX11_need_7 : decode cX11_need 7 = .ok (.aload_n 0, 1) := by decide +kernel
theorem dX11_need_8 : decode cX11_need 8 = .ok (.invokevirtual 266, 3) := by decide +kernel
theorem dX11_need_11 : decode cX11_need 11 = .ok (.iload_n 1, 1) := by decide +kernel
theorem dX11_need_12 : decode cX11_need 12 = .ok (.if_icmp .eq 11, 3) := by decide +kernel
theorem dX11_need_15 : decode cX11_need 15 = .ok (.aload_n 0, 1) := by decide +kernel
theorem dX11_need_16 : decode cX11_need 16 = .ok (.aload_n 0, 1) := by decide +kernel
theorem dX11_need_17 : decode cX11_need 17 = .ok (.getfield 260, 3) := by decide +kernel
theorem dX11_need_20 : decode cX11_need 20 = .ok (.putfield 263, 3) := by decide +kernel
theorem dX11_need_23 : decode cX11_need 23 = .ok (.aload_n 0, 1) := by decide +kernel
theorem dX11_need_24 : decode cX11_need 24 = .ok (.dup, 1) := by decide +kernel
theorem dX11_need_25 : decode cX11_need 25 = .ok (.getfield 260, 3) := by decide +kernel
theorem dX11_need_28 : decode cX11_need 28 = .ok (.iconst 1, 1) := by decide +kernel
theorem dX11_need_29 : decode cX11_need 29 = .ok (.iadd, 1) := by decide +kernel
theorem dX11_need_30 : decode cX11_need 30 = .ok (.putfield 260, 3) := by decide +kernel
theorem dX11_need_33 : decode cX11_need 33 = .ok (.return_, 1) := by decide +kernel
theorem dX11_part_0 : decode cX11_part 0 = .ok (.aload_n 0, 1) := by decide +kernel
theorem dX11_part_1 : decode cX11_part 1 = .ok (.getfield 263, 3) := by decide +kernel
theorem dX11_part_4 : decode cX11_part 4 = .ok (.ifCond .lt 5, 3) := by decide +kernel
theorem dX11_part_7 : decode cX11_part 7 = .ok (.iconst 0, 1) := by decide +kernel
theorem dX11_part_8 : decode cX11_part 8 = .ok (.ireturn, 1) := by decide +kernel
theorem dX11_part_9 : decode cX11_part 9 = .ok (.aload_n 0, 1) := by decide +kernel
theorem dX11_part_10 : decode cX11_part 10 = .ok (.dup, 1) := by decide +kernel
theorem dX11_part_11 : decode cX11_part 11 = .ok (.getfield 270, 3) := by decide +kernel
theorem dX11_part_14 : decode cX11_part 14 = .ok (.iconst 1, 1) := by decide +kernel
theorem dX11_part_15 : decode cX11_part 15 = .ok (.iadd, 1) := by decide +kernel
theorem dX11_part_16 : decode cX11_part 16 = .ok (.putfield 270, 3) := by decide +kernel
theorem dX11_part_19 : decode cX11_part 19 = .ok (.aload_n 0, 1) := by decide +kernel
theorem dX11_part_20 : decode cX11_part 20 = .ok (.getfield 270, 3) := by decide +kernel
theorem dX11_part_23 : decode cX11_part 23 = .ok (.istore_n 2, 1) := by decide +kernel
theorem dX11_part_24 : decode cX11_part 24 = .ok (.aload_n 0, 1) := by decide +kernel
theorem dX11_part_25 : decode cX11_part 25 = .ok (.getfield 48, 3) := by decide +kernel
theorem dX11_part_28 : decode cX11_part 28 = .ok (.iload_n 2, 1) := by decide +kernel
theorem dX11_part_29 : decode cX11_part 29 = .ok (.iload_n 1, 1) := by decide +kernel
theorem dX11_part_30 : decode cX11_part 30 = .ok (.iastore, 1) := by decide +kernel
theorem dX11_part_31 : decode cX11_part 31 = .ok (.aload_n 0, 1) := by decide +kernel
theorem dX11_part_32 : decode cX11_part 32 = .ok (.getfield 51, 3) := by decide +kernel
theorem dX11_part_35 : decode cX11_part 35 = .ok (.iload_n 2, 1) := by decide +kernel
theorem dX11_part_36 : decode cX11_part 36 = .ok (.aload_n 0, 1) := by decide +kernel
theorem dX11_part_37 : decode cX11_part 37 = .ok (.getfield 260, 3) := by decide +kernel
theorem dX11_part_40 : decode cX11_part 40 = .ok (.iastore, 1) := by decide +kernel
theorem dX11_part_41 : decode cX11_part 41 = .ok (.aload_n 0, 1) := by decide +kernel
theorem dX11_part_42 : decode cX11_part 42 = .ok (.getfield 54, 3) := by decide +kernel
theorem dX11_part_45 : decode cX11_part 45 = .ok (.iload_n 2, 1) := by decide +kernel
theorem dX11_part_46 : decode cX11_part 46 = .ok (.iconst 0, 1) := by decide +kernel
theorem dX11_part_47 : decode cX11_part 47 = .ok (.iastore, 1) := by decide +kernel
theorem dX11_part_48 : decode cX11_part 48 = .ok (.aload_n 0, 1) := by decide +kernel
theorem dX11_part_49 : decode cX11_part 49 = .ok (.getfield 57, 3) := by decide +kernel
theorem dX11_part_52 : decode cX11_part 52 = .ok (.iload_n 2, 1) := by decide +kernel
theorem dX11_part_53 : decode cX11_part 53 = .ok (.iconst 0, 1) := by decide +kernel
theorem dX11_part_54 : decode cX11_part 54 = .ok (.iastore, 1) := by decide +kernel
theorem dX11_part_55 : decode cX11_part 55 = .ok (.aload_n 0, 1) := by decide +kernel
theorem dX11_part_56 : decode cX11_part 56 = .ok (.getfield 60, 3) := by decide +kernel
theorem dX11_part_59 : decode cX11_part 59 = .ok (.iload_n 2, 1) := by decide +kernel
theorem dX11_part_60 : decode cX11_part 60 = .ok (.iconst 0, 1) := by decide +kernel
theorem dX11_part_61 : decode cX11_part 61 = .ok (.iastore, 1) := by decide +kernel
theorem dX11_part_62 : decode cX11_part 62 = .ok (.aload_n 0, 1) := by decide +kernel
theorem dX11_part_63 : decode cX11_part 63 = .ok (.getfield 63, 3) := by decide +kernel
theorem dX11_part_66 : decode cX11_part 66 = .ok (.iload_n 2, 1) := by decide +kernel
theorem dX11_part_67 : decode cX11_part 67 = .ok (.lconst 0, 1) := by decide +kernel
theorem dX11_part_68 : decode cX11_part 68 = .ok (.lastore, 1) := by decide +kernel
theorem dX11_part_69 : decode cX11_part 69 = .ok (.aload_n 0, 1) := by decide +kernel
theorem dX11_part_70 : decode cX11_part 70 = .ok (.getfield 7, 3) := by decide +kernel
theorem dX11_part_73 : decode cX11_part 73 = .ok (.iload_n 1, 1) := by decide +kernel
theorem dX11_part_74 : decode cX11_part 74 = .ok (.iaload, 1) := by decide +kernel
theorem dX11_part_75 : decode cX11_part 75 = .ok (.tableswitch 186 0 8 #[49, 77, 86, 138, 186, 186, 186, 147, 172], 49) := by decide +kernel
theorem dX11_part_124 : decode cX11_part 124 = .ok (.aload_n 0, 1) := by decide +kernel
theorem dX11_part_125 : decode cX11_part 125 = .ok (.bipush 97, 2) := by decide +kernel
theorem dX11_part_127 : decode cX11_part 127 = .ok (.aload_n 0, 1) := by decide +kernel
theorem dX11_part_128 : decode cX11_part 128 = .ok (.getfield 16, 3) := by decide +kernel
theorem dX11_part_131 : decode cX11_part 131 = .ok (.iload_n 1, 1) := by decide +kernel
theorem dX11_part_132 : decode cX11_part 132 = .ok (.iaload, 1) := by decide +kernel
theorem dX11_part_133 : decode cX11_part 133 = .ok (.iadd, 1) := by decide +kernel
theorem dX11_part_134 : decode cX11_part 134 = .ok (.invokevirtual 273, 3) := by decide +kernel
theorem dX11_part_137 : decode cX11_part 137 = .ok (.aload_n 0, 1) := by decide +kernel
theorem dX11_part_138 : decode cX11_part 138 = .ok (.getfield 54, 3) := by decide +kernel
theorem dX11_part_141 : decode cX11_part 141 = .ok (.iload_n 2, 1) := by decide +kernel
theorem dX11_part_142 : decode cX11_part 142 = .ok (.aload_n 0, 1) := by decide +kernel
theorem dX11_part_143 : decode cX11_part 143 = .ok (.getfield 13, 3) := by decide +kernel
theorem dX11_part_146 : decode cX11_part 146 = .ok (.iload_n 1, 1) := by decide +kernel
theorem dX11_part_147 : decode cX11_part 147 = .ok (.iaload, 1) := by decide +kernel
theorem dX11_part_148 : decode cX11_part 148 = .ok (.iastore, 1) := by decide +kernel
theorem dX11_part_149 : decode cX11_part 149 = .ok (.goto 118, 3) := by decide +kernel
theorem dX11_part_152 : decode cX11_part 152 = .ok (.aload_n 0, 1) := by decide +kernel
theorem dX11_part_153 : decode cX11_part 153 = .ok (.bipush 46, 2) := by decide +kernel
theorem dX11_part_155 : decode cX11_part 155 = .ok (.invokevirtual 273, 3) := by decide +kernel
theorem dX11_part_158 : decode cX11_part 158 = .ok (.goto 109, 3) := by decide +kernel
theorem dX11_part_161 : decode cX11_part 161 = .ok (.aload_n 0, 1) := by decide +kernel
theorem dX11_part_162 : decode cX11_part 162 = .ok (.bipush 40, 2) := by decide +kernel
theorem dX11_part_164 : decode cX11_part 164 = .ok (.invokevirtual 273, 3) := by decide +kernel
theorem dX11_part_167 : decode cX11_part 167 = .ok (.aload_n 0, 1) := by decide +kernel
theorem dX11_part_168 : decode cX11_part 168 = .ok (.iload_n 2, 1) := by decide +kernel
theorem dX11_part_169 : decode cX11_part 169 = .ok (.aload_n 0, 1) := by decide +kernel
theorem dX11_part_170 : decode cX11_part 170 = .ok (.aload_n 0, 1) := by decide +kernel
theorem dX11_part_171 : decode cX11_part 171 = .ok (.getfield 13, 3) := by decide +kernel
theorem dX11_part_174 : decode cX11_part 174 = .ok (.iload_n 1, 1) := by decide +kernel
theorem dX11_part_175 : decode cX11_part 175 = .ok (.iaload, 1) := by decide +kernel
theorem dX11_part_176 : decode cX11_part 176 = .ok (.invokevirtual 276, 3) := by decide +kernel
theorem dX11_part_179 : decode cX11_part 179 = .ok (.iconst 0, 1) := by decide +kernel
theorem dX11_part_180 : decode cX11_part 180 = .ok (.invokevirtual 279, 3) := by decide +kernel
theorem dX11_part_183 : decode cX11_part 183 = .ok (.aload_n 0, 1) := by decide +kernel
theorem dX11_part_184 : decode cX11_part 184 = .ok (.iload_n 2, 1) := by decide +kernel
theorem dX11_part_185 : decode cX11_part 185 = .ok (.aload_n 0, 1) := by decide +kernel
theorem dX11_part_186 : decode cX11_part 186 = .ok (.aload_n 0, 1) := by decide +kernel
theorem dX11_part_187 : decode cX11_part 187 = .ok (.getfield 16, 3) := by decide +kernel
theorem dX11_part_190 : decode cX11_part 190 = .ok (.iload_n 1, 1) := by decide +kernel
theorem dX11_part_191 : decode cX11_part 191 = .ok (.iaload, 1) := by decide +kernel
theorem dX11_part_192 : decode cX11_part 192 = .ok (.invokevirtual 276, 3) := by decide +kernel
theorem dX11_part_195 : decode cX11_part 195 = .ok (.aload_n 0, 1) := by decide +kernel
theorem dX11_part_196 : decode cX11_part 196 = .ok (.getfield 57, 3) := by decide +kernel
theorem dX11_part_199 : decode cX11_part 199 = .ok (.iload_n 2, 1) := by decide +kernel
theorem dX11_part_200 : decode cX11_part 200 = .ok (.iaload, 1) := by decide +kernel
theorem dX11_part_201 : decode cX11_part 201 = .ok (.invokevirtual 279, 3) := by decide +kernel
theorem dX11_part_204 : decode cX11_part 204 = .ok (.aload_n 0, 1) := by decide +kernel
theorem dX11_part_205 : decode cX11_part 205 = .ok (.bipush 41, 2) := by decide +kernel
theorem dX11_part_207 : decode cX11_part 207 = .ok (.invokevirtual 273, 3) := by decide +kernel
theorem dX11_part_210 : decode cX11_part 210 = .ok (.goto 57, 3) := by decide +kernel
theorem dX11_part_213 : decode cX11_part 213 = .ok (.aload_n 0, 1) := by decide +kernel
theorem dX11_part_214 : decode cX11_part 214 = .ok (.iload_n 2, 1) := by decide +kernel
theorem dX11_part_215 : decode cX11_part 215 = .ok (.iload_n 1, 1) := by decide +kernel
theorem dX11_part_216 : decode cX11_part 216 = .ok (.invokevirtual 283, 3) := by decide +kernel
theorem dX11_part_219 : decode cX11_part 219 = .ok (.goto 48, 3) := by decide +kernel
theorem dX11_part_222 : decode cX11_part 222 = .ok (.aload_n 0, 1) := by decide +kernel
theorem dX11_part_223 : decode cX11_part 223 = .ok (.bipush 33, 2) := by decide +kernel
theorem dX11_part_225 : decode cX11_part 225 = .ok (.invokevirtual 273, 3) := by decide +kernel
theorem dX11_part_228 : decode cX11_part 228 = .ok (.aload_n 0, 1) := by decide +kernel
theorem dX11_part_229 : decode cX11_part 229 = .ok (.iload_n 2, 1) := by decide +kernel
theorem dX11_part_230 : decode cX11_part 230 = .ok (.aload_n 0, 1) := by decide +kernel
theorem dX11_part_231 : decode cX11_part 231 = .ok (.aload_n 0, 1) := by decide +kernel
theorem dX11_part_232 : decode cX11_part 232 = .ok (.getfield 13, 3) := by decide +kernel
theorem dX11_part_235 : decode cX11_part 235 = .ok (.iload_n 1, 1) := by decide +kernel
theorem dX11_part_236 : decode cX11_part 236 = .ok (.iaload, 1) := by decide +kernel
theorem dX11_part_237 : decode cX11_part 237 = .ok (.invokevirtual 276, 3) := by decide +kernel
theorem dX11_part_240 : decode cX11_part 240 = .ok (.iconst 0, 1) := by decide +kernel
theorem dX11_part_241 : decode cX11_part 241 = .ok (.invokevirtual 279, 3) := by decide +kernel
theorem dX11_part_244 : decode cX11_part 244 = .ok (.goto 23, 3) := by decide +kernel
theorem dX11_part_247 : decode cX11_part 247 = .ok (.aload_n 0, 1) := by decide +kernel
theorem dX11_part_248 : decode cX11_part 248 = .ok (.iload_n 2, 1) := by decide +kernel
theorem dX11_part_249 : decode cX11_part 249 = .ok (.aload_n 0, 1) := by decide +kernel
theorem dX11_part_250 : decode cX11_part 250 = .ok (.getfield 13, 3) := by decide +kernel
theorem dX11_part_253 : decode cX11_part 253 = .ok (.iload_n 1, 1) := by decide +kernel
theorem dX11_part_254 : decode cX11_part 254 = .ok (.iaload, 1) := by decide +kernel
theorem dX11_part_255 : decode cX11_part 255 = .ok (.invokevirtual 286, 3) := by decide +kernel
theorem dX11_part_258 : decode cX11_part 258 = .ok (.goto 9, 3) := by decide +kernel
theorem dX11_part_261 : decode cX11_part 261 = .ok (.aload_n 0, 1) := by decide +kernel
theorem dX11_part_262 : decode cX11_part 262 = .ok (.iload_n 2, 1) := by decide +kernel
theorem dX11_part_263 : decode cX11_part 263 = .ok (.iload_n 1, 1) := by decide +kernel
theorem dX11_part_264 : decode cX11_part 264 = .ok (.invokevirtual 289, 3) := by decide +kernel
theorem dX11_part_267 : decode cX11_part 267 = .ok (.iload_n 2, 1) := by decide +kernel
theorem dX11_part_268 : decode cX11_part 268 = .ok (.ireturn, 1) := by decide +kernel
theorem dX11_within_0 : decode cX11_within 0 = .ok (.aload_n 0, 1) := by decide +kernel
theorem dX11_within_1 : decode cX11_within 1 = .ok (.getfield 263, 3) := by decide +kernel
theorem dX11_within_4 : decode cX11_within 4 = .ok (.ifCond .lt 4, 3) := by decide +kernel
theorem dX11_within_7 : decode cX11_within 7 = .ok (.return_, 1) := by decide +kernel
theorem dX11_within_8 : decode cX11_within 8 = .ok (.aload_n 0, 1) := by decide +kernel
theorem dX11_within_9 : decode cX11_within 9 = .ok (.getfield 54, 3) := by decide +kernel
theorem dX11_within_12 : decode cX11_within 12 = .ok (.iload_n 1, 1) := by decide +kernel
theorem dX11_within_13 : decode cX11_within 13 = .ok (.dup2, 1) := by decide +kernel
theorem dX11_within_14 : decode cX11_within 14 = .ok (.iaload, 1) := by decide +kernel
theorem dX11_within_15 : decode cX11_within 15 = .ok (.aload_n 0, 1) := by decide +kernel
theorem dX11_within_16 : decode cX11_within 16 = .ok (.getfield 54, 3) := by decide +kernel
theorem dX11_within_19 : decode cX11_within 19 = .ok (.iload_n 2, 1) := by decide +kernel
theorem dX11_within_20 : decode cX11_within 20 = .ok (.iaload, 1) := by decide +kernel
theorem dX11_within_21 : decode cX11_within 21 = .ok (.iadd, 1) := by decide +kernel
theorem dX11_within_22 : decode cX11_within 22 = .ok (.iastore, 1) := by decide +kernel
theorem dX11_within_23 : decode cX11_within 23 = .ok (.iload_n 3, 1) := by decide +kernel
theorem dX11_within_24 : decode cX11_within 24 = .ok (.ifCond .ne 13, 3) := by decide +kernel
theorem dX11_within_27 : decode cX11_within 27 = .ok (.aload_n 0, 1) := by decide +kernel
theorem dX11_within_28 : decode cX11_within 28 = .ok (.getfield 57, 3) := by decide +kernel
theorem dX11_within_31 : decode cX11_within 31 = .ok (.iload_n 1, 1) := by decide +kernel
theorem dX11_within_32 : decode cX11_within 32 = .ok (.iload_n 2, 1) := by decide +kernel
theorem dX11_within_33 : decode cX11_within 33 = .ok (.iastore, 1) := by decide +kernel
theorem dX11_within_34 : decode cX11_within 34 = .ok (.goto 10, 3) := by decide +kernel
theorem dX11_within_37 : decode cX11_within 37 = .ok (.aload_n 0, 1) := by decide +kernel
theorem dX11_within_38 : decode cX11_within 38 = .ok (.getfield 60, 3) := by decide +kernel
theorem dX11_within_41 : decode cX11_within 41 = .ok (.iload_n 3, 1) := by decide +kernel
theorem dX11_within_42 : decode cX11_within 42 = .ok (.iload_n 2, 1) := by decide +kernel
theorem dX11_within_43 : decode cX11_within 43 = .ok (.iastore, 1) := by decide +kernel
theorem dX11_within_44 : decode cX11_within 44 = .ok (.return_, 1) := by decide +kernel
theorem dX11_eitherPart_0 : decode cX11_eitherPart 0 = .ok (.aload_n 0, 1) := by decide +kernel
theorem dX11_eitherPart_1 : decode cX11_eitherPart 1 = .ok (.invokevirtual 266, 3) := by decide +kernel
theorem dX11_eitherPart_4 : decode cX11_eitherPart 4 = .ok (.bipush 49, 2) := by decide +kernel
theorem dX11_eitherPart_6 : decode cX11_eitherPart 6 = .ok (.if_icmp .eq 21, 3) := by decide +kernel
theorem dX11_eitherPart_9 : decode cX11_eitherPart 9 = .ok (.aload_n 0, 1) := by decide +kernel
theorem dX11_eitherPart_10 : decode cX11_eitherPart 10 = .ok (.invokevirtual 266, 3) := by decide +kernel
theorem dX11_eitherPart_13 : decode cX11_eitherPart 13 = .ok (.bipush 50, 2) := by decide +kernel
theorem dX11_eitherPart_15 : decode cX11_eitherPart 15 = .ok (.if_icmp .eq 12, 3) := by decide +kernel
theorem dX11_eitherPart_18 : decode cX11_eitherPart 18 = .ok (.aload_n 0, 1) := by decide +kernel
theorem dX11_eitherPart_19 : decode cX11_eitherPart 19 = .ok (.aload_n 0, 1) := by decide +kernel
theorem dX11_eitherPart_20 : decode cX11_eitherPart 20 = .ok (.getfield 260, 3) := by decide +kernel
theorem dX11_eitherPart_23 : decode cX11_eitherPart 23 = .ok (.putfield 263, 3) := by decide +kernel
theorem dX11_eitherPart_26 : decode cX11_eitherPart 26 = .ok (.return_, 1) := by decide +kernel
theorem dX11_eitherPart_27 : decode cX11_eitherPart 27 = .ok (.aload_n 0, 1) := by decide +kernel
theorem dX11_eitherPart_28 : decode cX11_eitherPart 28 = .ok (.getfield 63, 3) := by decide +kernel
theorem dX11_eitherPart_31 : decode cX11_eitherPart 31 = .ok (.iload_n 1, 1) := by decide +kernel
theorem dX11_eitherPart_32 : decode cX11_eitherPart 32 = .ok (.aload_n 0, 1) := by decide +kernel
theorem dX11_eitherPart_33 : decode cX11_eitherPart 33 = .ok (.invokevirtual 266, 3) := by decide +kernel
theorem dX11_eitherPart_36 : decode cX11_eitherPart 36 = .ok (.bipush 48, 2) := by decide +kernel
theorem dX11_eitherPart_38 : decode cX11_eitherPart 38 = .ok (.isub, 1) := by decide +kernel
theorem dX11_eitherPart_39 : decode cX11_eitherPart 39 = .ok (.i2l, 1) := by decide +kernel
theorem dX11_eitherPart_40 : decode cX11_eitherPart 40 = .ok (.lastore, 1) := by decide +kernel
theorem dX11_eitherPart_41 : decode cX11_eitherPart 41 = .ok (.aload_n 0, 1) := by decide +kernel
theorem dX11_eitherPart_42 : decode cX11_eitherPart 42 = .ok (.dup, 1) := by decide +kernel
theorem dX11_eitherPart_43 : decode cX11_eitherPart 43 = .ok (.getfield 260, 3) := by decide +kernel
theorem dX11_eitherPart_46 : decode cX11_eitherPart 46 = .ok (.iconst 1, 1) := by decide +kernel
theorem dX11_eitherPart_47 : decode cX11_eitherPart 47 = .ok (.iadd, 1) := by decide +kernel
theorem dX11_eitherPart_48 : decode cX11_eitherPart 48 = .ok (.putfield 260, 3) := by decide +kernel
theorem dX11_eitherPart_51 : decode cX11_eitherPart 51 = .ok (.aload_n 0, 1) := by decide +kernel
theorem dX11_eitherPart_52 : decode cX11_eitherPart 52 = .ok (.iload_n 1, 1) := by decide +kernel
theorem dX11_eitherPart_53 : decode cX11_eitherPart 53 = .ok (.aload_n 0, 1) := by decide +kernel
theorem dX11_eitherPart_54 : decode cX11_eitherPart 54 = .ok (.aload_n 0, 1) := by decide +kernel
theorem dX11_eitherPart_55 : decode cX11_eitherPart 55 = .ok (.getfield 63, 3) := by decide +kernel
theorem dX11_eitherPart_58 : decode cX11_eitherPart 58 = .ok (.iload_n 1, 1) := by decide +kernel
theorem dX11_eitherPart_59 : decode cX11_eitherPart 59 = .ok (.laload, 1) := by decide +kernel
theorem dX11_eitherPart_60 : decode cX11_eitherPart 60 = .ok (.lconst 1, 1) := by decide +kernel
theorem dX11_eitherPart_61 : decode cX11_eitherPart 61 = .ok (.lcmp, 1) := by decide +kernel
theorem dX11_eitherPart_62 : decode cX11_eitherPart 62 = .ok (.ifCond .ne 12, 3) := by decide +kernel
theorem dX11_eitherPart_65 : decode cX11_eitherPart 65 = .ok (.aload_n 0, 1) := by decide +kernel
theorem dX11_eitherPart_66 : decode cX11_eitherPart 66 = .ok (.getfield 13, 3) := by decide +kernel
theorem dX11_eitherPart_69 : decode cX11_eitherPart 69 = .ok (.iload_n 2, 1) := by decide +kernel
theorem dX11_eitherPart_70 : decode cX11_eitherPart 70 = .ok (.iaload, 1) := by decide +kernel
theorem dX11_eitherPart_71 : decode cX11_eitherPart 71 = .ok (.goto 9, 3) := by decide +kernel
theorem dX11_eitherPart_74 : decode cX11_eitherPart 74 = .ok (.aload_n 0, 1) := by decide +kernel
theorem dX11_eitherPart_75 : decode cX11_eitherPart 75 = .ok (.getfield 16, 3) := by decide +kernel
theorem dX11_eitherPart_78 : decode cX11_eitherPart 78 = .ok (.iload_n 2, 1) := by decide +kernel
theorem dX11_eitherPart_79 : decode cX11_eitherPart 79 = .ok (.iaload, 1) := by decide +kernel
theorem dX11_eitherPart_80 : decode cX11_eitherPart 80 = .ok (.invokevirtual 276, 3) := by decide +kernel
theorem dX11_eitherPart_83 : decode cX11_eitherPart 83 = .ok (.iconst 0, 1) := by decide +kernel
theorem dX11_eitherPart_84 : decode cX11_eitherPart 84 = .ok (.invokevirtual 279, 3) := by decide +kernel
theorem dX11_eitherPart_87 : decode cX11_eitherPart 87 = .ok (.return_, 1) := by decide +kernel
theorem dX11_several_0 : decode cX11_several 0 = .ok (.aload_n 0, 1) := by decide +kernel
theorem dX11_several_1 : decode cX11_several 1 = .ok (.getfield 7, 3) := by decide +kernel
theorem dX11_several_4 : decode cX11_several 4 = .ok (.iload_n 2, 1) := by decide +kernel
theorem dX11_several_5 : decode cX11_several 5 = .ok (.iaload, 1) := by decide +kernel
theorem dX11_several_6 : decode cX11_several 6 = .ok (.istore_n 3, 1) := by decide +kernel
theorem dX11_several_7 : decode cX11_several 7 = .ok (.iload_n 3, 1) := by decide +kernel
theorem dX11_several_8 : decode cX11_several 8 = .ok (.iconst 4, 1) := by decide +kernel
theorem dX11_several_9 : decode cX11_several 9 = .ok (.if_icmp .ne 8, 3) := by decide +kernel
theorem dX11_several_12 : decode cX11_several 12 = .ok (.bipush 93, 2) := by decide +kernel
theorem dX11_several_14 : decode cX11_several 14 = .ok (.goto 15, 3) := by decide +kernel
theorem dX11_several_17 : decode cX11_several 17 = .ok (.iload_n 3, 1) := by decide +kernel
theorem dX11_several_18 : decode cX11_several 18 = .ok (.iconst 5, 1) := by decide +kernel
theorem dX11_several_19 : decode cX11_several 19 = .ok (.if_icmp .ne 8, 3) := by decide +kernel
theorem dX11_several_22 : decode cX11_several 22 = .ok (.bipush 125, 2) := by decide +kernel
theorem dX11_several_24 : decode cX11_several 24 = .ok (.goto 5, 3) := by decide +kernel
theorem dX11_several_27 : decode cX11_several 27 = .ok (.bipush 62, 2) := by decide +kernel
theorem dX11_several_29 : decode cX11_several 29 = .ok (.istore 4, 2) := by decide +kernel
theorem dX11_several_31 : decode cX11_several 31 = .ok (.aload_n 0, 1) := by decide +kernel
theorem dX11_several_32 : decode cX11_several 32 = .ok (.iload_n 3, 1) := by decide +kernel
theorem dX11_several_33 : decode cX11_several 33 = .ok (.iconst 4, 1) := by decide +kernel
theorem dX11_several_34 : decode cX11_several 34 = .ok (.if_icmp .ne 8, 3) := by decide +kernel
theorem dX11_several_37 : decode cX11_several 37 = .ok (.bipush 91, 2) := by decide +kernel
theorem dX11_several_39 : decode cX11_several 39 = .ok (.goto 15, 3) := by decide +kernel
theorem dX11_several_42 : decode cX11_several 42 = .ok (.iload_n 3, 1) := by decide +kernel
theorem dX11_several_43 : decode cX11_several 43 = .ok (.iconst 5, 1) := by decide +kernel
theorem dX11_several_44 : decode cX11_several 44 = .ok (.if_icmp .ne 8, 3) := by decide +kernel
theorem dX11_several_47 : decode cX11_several 47 = .ok (.bipush 123, 2) := by decide +kernel
theorem dX11_several_49 : decode cX11_several 49 = .ok (.goto 5, 3) := by decide +kernel
theorem dX11_several_52 : decode cX11_several 52 = .ok (.bipush 60, 2) := by decide +kernel
theorem dX11_several_54 : decode cX11_several 54 = .ok (.invokevirtual 273, 3) := by decide +kernel
theorem dX11_several_57 : decode cX11_several 57 = .ok (.iconst 0, 1) := by decide +kernel
theorem dX11_several_58 : decode cX11_several 58 = .ok (.istore 5, 2) := by decide +kernel
theorem dX11_several_60 : decode cX11_several 60 = .ok (.aload_n 0, 1) := by decide +kernel
theorem dX11_several_61 : decode cX11_several 61 = .ok (.getfield 263, 3) := by decide +kernel
theorem dX11_several_64 : decode cX11_several 64 = .ok (.ifCond .ge 40, 3) := by decide +kernel
theorem dX11_several_67 : decode cX11_several 67 = .ok (.aload_n 0, 1) := by decide +kernel
theorem dX11_several_68 : decode cX11_several 68 = .ok (.invokevirtual 266, 3) := by decide +kernel
theorem dX11_several_71 : decode cX11_several 71 = .ok (.iload 4, 2) := by decide +kernel
theorem dX11_several_73 : decode cX11_several 73 = .ok (.if_icmp .eq 31, 3) := by decide +kernel
theorem dX11_several_76 : decode cX11_several 76 = .ok (.aload_n 0, 1) := by decide +kernel
theorem dX11_several_77 : decode cX11_several 77 = .ok (.aload_n 0, 1) := by decide +kernel
theorem dX11_several_78 : decode cX11_several 78 = .ok (.getfield 13, 3) := by decide +kernel
theorem dX11_several_81 : decode cX11_several 81 = .ok (.iload_n 2, 1) := by decide +kernel
theorem dX11_several_82 : decode cX11_several 82 = .ok (.iaload, 1) := by decide +kernel
theorem dX11_several_83 : decode cX11_several 83 = .ok (.invokevirtual 276, 3) := by decide +kernel
theorem dX11_several_86 : decode cX11_several 86 = .ok (.istore 6, 2) := by decide +kernel
theorem dX11_several_88 : decode cX11_several 88 = .ok (.aload_n 0, 1) := by decide +kernel
theorem dX11_several_89 : decode cX11_several 89 = .ok (.iload_n 1, 1) := by decide +kernel
theorem dX11_several_90 : decode cX11_several 90 = .ok (.iload 6, 2) := by decide +kernel
theorem dX11_several_92 : decode cX11_several 92 = .ok (.iload 5, 2) := by decide +kernel
theorem dX11_several_94 : decode cX11_several 94 = .ok (.invokevirtual 279, 3) := by decide +kernel
theorem dX11_several_97 : decode cX11_several 97 = .ok (.iload 6, 2) := by decide +kernel
theorem dX11_several_99 : decode cX11_several 99 = .ok (.istore 5, 2) := by decide +kernel
theorem dX11_several_101 : decode cX11_several 101 = .ok (.goto (-41), 3) := by decide +kernel
theorem dX11_several_104 : decode cX11_several 104 = .ok (.aload_n 0, 1) := by decide +kernel
theorem dX11_several_105 : decode cX11_several 105 = .ok (.getfield 263, 3) := by decide +kernel
theorem dX11_several_108 : decode cX11_several 108 = .ok (.ifCond .ge 13, 3) := by decide +kernel
theorem dX11_several_111 : decode cX11_several 111 = .ok (.aload_n 0, 1) := by decide +kernel
theorem dX11_several_112 : decode cX11_several 112 = .ok (.dup, 1) := by decide +kernel
theorem dX11_several_113 : decode cX11_several 113 = .ok (.getfield 260, 3) := by decide +kernel
theorem dX11_several_116 : decode cX11_several 116 = .ok (.iconst 1, 1) := by decide +kernel
theorem dX11_several_117 : decode cX11_several 117 = .ok (.iadd, 1) := by decide +kernel
theorem dX11_several_118 : decode cX11_several 118 = .ok (.putfield 260, 3) := by decide +kernel
theorem dX11_several_121 : decode cX11_several 121 = .ok (.return_, 1) := by decide +kernel
theorem dX11_letters_0 : decode cX11_letters 0 = .ok (.aload_n 0, 1) := by decide +kernel
theorem dX11_letters_1 : decode cX11_letters 1 = .ok (.bipush 61, 2) := by decide +kernel
theorem dX11_letters_3 : decode cX11_letters 3 = .ok (.invokevirtual 273, 3) := by decide +kernel
theorem dX11_letters_6 : decode cX11_letters 6 = .ok (.iconst 0, 1) := by decide +kernel
theorem dX11_letters_7 : decode cX11_letters 7 = .ok (.istore_n 3, 1) := by decide +kernel
theorem dX11_letters_8 : decode cX11_letters 8 = .ok (.lconst 0, 1) := by decide +kernel
theorem dX11_letters_9 : decode cX11_letters 9 = .ok (.lstore 4, 2) := by decide +kernel
theorem dX11_letters_11 : decode cX11_letters 11 = .ok (.iconst 0, 1) := by decide +kernel
theorem dX11_letters_12 : decode cX11_letters 12 = .ok (.istore 6, 2) := by decide +kernel
theorem dX11_letters_14 : decode cX11_letters 14 = .ok (.iload 6, 2) := by decide +kernel
theorem dX11_letters_16 : decode cX11_letters 16 = .ok (.iload_n 2, 1) := by decide +kernel
theorem dX11_letters_17 : decode cX11_letters 17 = .ok (.if_icmp .ge 133, 3) := by decide +kernel
theorem dX11_letters_20 : decode cX11_letters 20 = .ok (.aload_n 0, 1) := by decide +kernel
theorem dX11_letters_21 : decode cX11_letters 21 = .ok (.getfield 263, 3) := by decide +kernel
theorem dX11_letters_24 : decode cX11_letters 24 = .ok (.ifCond .ge 126, 3) := by decide +kernel
theorem dX11_letters_27 : decode cX11_letters 27 = .ok (.aload_n 0, 1) := by decide +kernel
theorem dX11_letters_28 : decode cX11_letters 28 = .ok (.invokevirtual 266, 3) := by decide +kernel
theorem dX11_letters_31 : decode cX11_letters 31 = .ok (.bipush 97, 2) := by decide +kernel
theorem dX11_letters_33 : decode cX11_letters 33 = .ok (.isub, 1) := by decide +kernel
theorem dX11_letters_34 : decode cX11_letters 34 = .ok (.istore 7, 2) := by decide +kernel
theorem dX11_letters_36 : decode cX11_letters 36 = .ok (.iload 7, 2) := by decide +kernel
theorem dX11_letters_38 : decode cX11_letters 38 = .ok (.i2l, 1) := by decide +kernel
theorem dX11_letters_39 : decode cX11_letters 39 = .ok (.lconst 0, 1) := by decide +kernel
theorem dX11_letters_40 : decode cX11_letters 40 = .ok (.iload_n 2, 1) := by decide +kernel
theorem dX11_letters_41 : decode cX11_letters 41 = .ok (.iconst 1, 1) := by decide +kernel
theorem dX11_letters_42 : decode cX11_letters 42 = .ok (.isub, 1) := by decide +kernel
theorem dX11_letters_43 : decode cX11_letters 43 = .ok (.i2l, 1) := by decide +kernel
theorem dX11_letters_44 : decode cX11_letters 44 = .ok (.invokestatic 81, 3) := by decide +kernel
theorem dX11_letters_47 : decode cX11_letters 47 = .ok (.ifCond .eq 13, 3) := by decide +kernel
theorem dX11_letters_50 : decode cX11_letters 50 = .ok (.iload_n 3, 1) := by decide +kernel
theorem dX11_letters_51 : decode cX11_letters 51 = .ok (.iload 7, 2) := by decide +kernel
theorem dX11_letters_53 : decode cX11_letters 53 = .ok (.ishr, 1) := by decide +kernel
theorem dX11_letters_54 : decode cX11_letters 54 = .ok (.iconst 1, 1) := by decide +kernel
theorem dX11_letters_55 : decode cX11_letters 55 = .ok (.iand, 1) := by decide +kernel
theorem dX11_letters_56 : decode cX11_letters 56 = .ok (.iconst 1, 1) := by decide +kernel
theorem dX11_letters_57 : decode cX11_letters 57 = .ok (.if_icmp .ne 14, 3) := by decide +kernel
theorem dX11_letters_60 : decode cX11_letters 60 = .ok (.aload_n 0, 1) := by decide +kernel
theorem dX11_letters_61 : decode cX11_letters 61 = .ok (.aload_n 0, 1) := by decide +kernel
theorem dX11_letters_62 : decode cX11_letters 62 = .ok (.getfield 260, 3) := by decide +kernel
theorem dX11_letters_65 : decode cX11_letters 65 = .ok (.putfield 263, 3) := by decide +kernel
theorem dX11_letters_68 : decode cX11_letters 68 = .ok (.goto 76, 3) := by decide +kernel
theorem dX11_letters_71 : decode cX11_letters 71 = .ok (.iconst 0, 1) := by decide +kernel
theorem dX11_letters_72 : decode cX11_letters 72 = .ok (.istore 8, 2) := by decide +kernel
theorem dX11_letters_74 : decode cX11_letters 74 = .ok (.iconst 0, 1) := by decide +kernel
theorem dX11_letters_75 : decode cX11_letters 75 = .ok (.istore 9, 2) := by decide +kernel
theorem dX11_letters_77 : decode cX11_letters 77 = .ok (.iload 9, 2) := by decide +kernel
theorem dX11_letters_79 : decode cX11_letters 79 = .ok (.iload 7, 2) := by decide +kernel
theorem dX11_letters_81 : decode cX11_letters 81 = .ok (.if_icmp .ge 28, 3) := by decide +kernel
theorem dX11_letters_84 : decode cX11_letters 84 = .ok (.iload 8, 2) := by decide +kernel
theorem dX11_letters_86 : decode cX11_letters 86 = .ok (.iload_n 3, 1) := by decide +kernel
theorem dX11_letters_87 : decode cX11_letters 87 = .ok (.iload 9, 2) := by decide +kernel
theorem dX11_letters_89 : decode cX11_letters 89 = .ok (.ishr, 1) := by decide +kernel
theorem dX11_letters_90 : decode cX11_letters 90 = .ok (.iconst 1, 1) := by decide +kernel
theorem dX11_letters_91 : decode cX11_letters 91 = .ok (.iand, 1) := by decide +kernel
theorem dX11_letters_92 : decode cX11_letters 92 = .ok (.ifCond .ne 7, 3) := by decide +kernel
theorem dX11_letters_95 : decode cX11_letters 95 = .ok (.iconst 1, 1) := by decide +kernel
theorem dX11_letters_96 : decode cX11_letters 96 = .ok (.goto 4, 3) := by decide +kernel
theorem dX11_letters_99 : decode cX11_letters 99 = .ok (.iconst 0, 1) := by decide +kernel
theorem dX11_letters_100 : decode cX11_letters 100 = .ok (.iadd, 1) := by decide +kernel
theorem dX11_letters_101 : decode cX11_letters 101 = .ok (.istore 8, 2) := by decide +kernel
theorem dX11_letters_103 : decode cX11_letters 103 = .ok (.iinc 9 1, 3) := by decide +kernel
theorem dX11_letters_106 : decode cX11_letters 106 = .ok (.goto (-29), 3) := by decide +kernel
theorem dX11_letters_109 : decode cX11_letters 109 = .ok (.lload 4, 2) := by decide +kernel
theorem dX11_letters_111 : decode cX11_letters 111 = .ok (.iload 8, 2) := by decide +kernel
theorem dX11_letters_113 : decode cX11_letters 113 = .ok (.i2l, 1) := by decide +kernel
theorem dX11_letters_114 : decode cX11_letters 114 = .ok (.iload_n 2, 1) := by decide +kernel
theorem dX11_letters_115 : decode cX11_letters 115 = .ok (.iconst 1, 1) := by decide +kernel
theorem dX11_letters_116 : decode cX11_letters 116 = .ok (.isub, 1) := by decide +kernel
theorem dX11_letters_117 : decode cX11_letters 117 = .ok (.iload 6, 2) := by decide +kernel
theorem dX11_letters_119 : decode cX11_letters 119 = .ok (.isub, 1) := by decide +kernel
theorem dX11_letters_120 : decode cX11_letters 120 = .ok (.invokestatic 194, 3) := by decide +kernel
theorem dX11_letters_123 : decode cX11_letters 123 = .ok (.lmul, 1) := by decide +kernel
theorem dX11_letters_124 : decode cX11_letters 124 = .ok (.ladd, 1) := by decide +kernel
theorem dX11_letters_125 : decode cX11_letters 125 = .ok (.lstore 4, 2) := by decide +kernel
theorem dX11_letters_127 : decode cX11_letters 127 = .ok (.iload_n 3, 1) := by decide +kernel
theorem dX11_letters_128 : decode cX11_letters 128 = .ok (.iconst 1, 1) := by decide +kernel
theorem dX11_letters_129 : decode cX11_letters 129 = .ok (.iload 7, 2) := by decide +kernel
theorem dX11_letters_131 : decode cX11_letters 131 = .ok (.ishl, 1) := by decide +kernel
theorem dX11_letters_132 : decode cX11_letters 132 = .ok (.ior, 1) := by decide +kernel
theorem dX11_letters_133 : decode cX11_letters 133 = .ok (.istore_n 3, 1) := by decide +kernel
theorem dX11_letters_134 : decode cX11_letters 134 = .ok (.aload_n 0, 1) := by decide +kernel
theorem dX11_letters_135 : decode cX11_letters 135 = .ok (.dup, 1) := by decide +kernel
theorem dX11_letters_136 : decode cX11_letters 136 = .ok (.getfield 260, 3) := by decide +kernel
theorem dX11_letters_139 : decode cX11_letters 139 = .ok (.iconst 1, 1) := by decide +kernel
theorem dX11_letters_140 : decode cX11_letters 140 = .ok (.iadd, 1) := by decide +kernel
theorem dX11_letters_141 : decode cX11_letters 141 = .ok (.putfield 260, 3) := by decide +kernel
theorem dX11_letters_144 : decode cX11_letters 144 = .ok (.iinc 6 1, 3) := by decide +kernel
theorem dX11_letters_147 : decode cX11_letters 147 = .ok (.goto (-133), 3) := by decide +kernel
theorem dX11_letters_150 : decode cX11_letters 150 = .ok (.aload_n 0, 1) := by decide +kernel
theorem dX11_letters_151 : decode cX11_letters 151 = .ok (.getfield 63, 3) := by decide +kernel
theorem dX11_letters_154 : decode cX11_letters 154 = .ok (.iload_n 1, 1) := by decide +kernel
theorem dX11_letters_155 : decode cX11_letters 155 = .ok (.lload 4, 2) := by decide +kernel
theorem dX11_letters_157 : decode cX11_letters 157 = .ok (.lastore, 1) := by decide +kernel
theorem dX11_letters_158 : decode cX11_letters 158 = .ok (.aload_n 0, 1) := by decide +kernel
theorem dX11_letters_159 : decode cX11_letters 159 = .ok (.getfield 54, 3) := by decide +kernel
theorem dX11_letters_162 : decode cX11_letters 162 = .ok (.iload_n 1, 1) := by decide +kernel
theorem dX11_letters_163 : decode cX11_letters 163 = .ok (.iload_n 2, 1) := by decide +kernel
theorem dX11_letters_164 : decode cX11_letters 164 = .ok (.iastore, 1) := by decide +kernel
theorem dX11_letters_165 : decode cX11_letters 165 = .ok (.return_, 1) := by decide +kernel
theorem dX11_wrongCut_0 : decode cX11_wrongCut 0 = .ok (.iconst (-1), 1) := by decide +kernel
theorem dX11_wrongCut_1 : decode cX11_wrongCut 1 = .ok (.istore_n 1, 1) := by decide +kernel
theorem dX11_wrongCut_2 : decode cX11_wrongCut 2 = .ok (.iconst 1, 1) := by decide +kernel
theorem dX11_wrongCut_3 : decode cX11_wrongCut 3 = .ok (.istore_n 2, 1) := by decide +kernel
theorem dX11_wrongCut_4 : decode cX11_wrongCut 4 = .ok (.iload_n 2, 1) := by decide +kernel
theorem dX11_wrongCut_5 : decode cX11_wrongCut 5 = .ok (.aload_n 0, 1) := by decide +kernel
theorem dX11_wrongCut_6 : decode cX11_wrongCut 6 = .ok (.getfield 270, 3) := by decide +kernel
theorem dX11_wrongCut_9 : decode cX11_wrongCut 9 = .ok (.if_icmp .gt 81, 3) := by decide +kernel
theorem dX11_wrongCut_12 : decode cX11_wrongCut 12 = .ok (.aload_n 0, 1) := by decide +kernel
theorem dX11_wrongCut_13 : decode cX11_wrongCut 13 = .ok (.getfield 48, 3) := by decide +kernel
theorem dX11_wrongCut_16 : decode cX11_wrongCut 16 = .ok (.iload_n 2, 1) := by decide +kernel
theorem dX11_wrongCut_17 : decode cX11_wrongCut 17 = .ok (.iaload, 1) := by decide +kernel
theorem dX11_wrongCut_18 : decode cX11_wrongCut 18 = .ok (.istore_n 3, 1) := by decide +kernel
theorem dX11_wrongCut_19 : decode cX11_wrongCut 19 = .ok (.aload_n 0, 1) := by decide +kernel
theorem dX11_wrongCut_20 : decode cX11_wrongCut 20 = .ok (.getfield 7, 3) := by decide +kernel
theorem dX11_wrongCut_23 : decode cX11_wrongCut 23 = .ok (.iload_n 3, 1) := by decide +kernel
theorem dX11_wrongCut_24 : decode cX11_wrongCut 24 = .ok (.iaload, 1) := by decide +kernel
theorem dX11_wrongCut_25 : decode cX11_wrongCut 25 = .ok (.bipush 7, 2) := by decide +kernel
theorem dX11_wrongCut_27 : decode cX11_wrongCut 27 = .ok (.if_icmp .ne 57, 3) := by decide +kernel
theorem dX11_wrongCut_30 : decode cX11_wrongCut 30 = .ok (.aload_n 0, 1) := by decide +kernel
theorem dX11_wrongCut_31 : decode cX11_wrongCut 31 = .ok (.getfield 54, 3) := by decide +kernel
theorem dX11_wrongCut_34 : decode cX11_wrongCut 34 = .ok (.iload_n 2, 1) := by decide +kernel
theorem dX11_wrongCut_35 : decode cX11_wrongCut 35 = .ok (.iaload, 1) := by decide +kernel
theorem dX11_wrongCut_36 : decode cX11_wrongCut 36 = .ok (.i2l, 1) := by decide +kernel
theorem dX11_wrongCut_37 : decode cX11_wrongCut 37 = .ok (.aload_n 0, 1) := by decide +kernel
theorem dX11_wrongCut_38 : decode cX11_wrongCut 38 = .ok (.getfield 16, 3) := by decide +kernel
theorem dX11_wrongCut_41 : decode cX11_wrongCut 41 = .ok (.iload_n 3, 1) := by decide +kernel
theorem dX11_wrongCut_42 : decode cX11_wrongCut 42 = .ok (.iaload, 1) := by decide +kernel
theorem dX11_wrongCut_43 : decode cX11_wrongCut 43 = .ok (.bipush 32, 2) := by decide +kernel
theorem dX11_wrongCut_45 : decode cX11_wrongCut 45 = .ok (.idiv, 1) := by decide +kernel
theorem dX11_wrongCut_46 : decode cX11_wrongCut 46 = .ok (.i2l, 1) := by decide +kernel
theorem dX11_wrongCut_47 : decode cX11_wrongCut 47 = .ok (.aload_n 0, 1) := by decide +kernel
theorem dX11_wrongCut_48 : decode cX11_wrongCut 48 = .ok (.getfield 16, 3) := by decide +kernel
theorem dX11_wrongCut_51 : decode cX11_wrongCut 51 = .ok (.iload_n 3, 1) := by decide +kernel
theorem dX11_wrongCut_52 : decode cX11_wrongCut 52 = .ok (.iaload, 1) := by decide +kernel
theorem dX11_wrongCut_53 : decode cX11_wrongCut 53 = .ok (.bipush 32, 2) := by decide +kernel
theorem dX11_wrongCut_55 : decode cX11_wrongCut 55 = .ok (.irem, 1) := by decide +kernel
theorem dX11_wrongCut_56 : decode cX11_wrongCut 56 = .ok (.i2l, 1) := by decide +kernel
theorem dX11_wrongCut_57 : decode cX11_wrongCut 57 = .ok (.invokestatic 81, 3) := by decide +kernel
theorem dX11_wrongCut_60 : decode cX11_wrongCut 60 = .ok (.ifCond .ne 24, 3) := by decide +kernel
theorem dX11_wrongCut_63 : decode cX11_wrongCut 63 = .ok (.iload_n 1, 1) := by decide +kernel
theorem dX11_wrongCut_64 : decode cX11_wrongCut 64 = .ok (.ifCond .lt 13, 3) := by decide +kernel
theorem dX11_wrongCut_67 : decode cX11_wrongCut 67 = .ok (.aload_n 0, 1) := by decide +kernel
theorem dX11_wrongCut_68 : decode cX11_wrongCut 68 = .ok (.getfield 51, 3) := by decide +kernel
theorem dX11_wrongCut_71 : decode cX11_wrongCut 71 = .ok (.iload_n 2, 1) := by decide +kernel
theorem dX11_wrongCut_72 : decode cX11_wrongCut 72 = .ok (.iaload, 1) := by decide +kernel
theorem dX11_wrongCut_73 : decode cX11_wrongCut 73 = .ok (.iload_n 1, 1) := by decide +kernel
theorem dX11_wrongCut_74 : decode cX11_wrongCut 74 = .ok (.if_icmp .ge 10, 3) := by decide +kernel
theorem dX11_wrongCut_77 : decode cX11_wrongCut 77 = .ok (.aload_n 0, 1) := by decide +kernel
theorem dX11_wrongCut_78 : decode cX11_wrongCut 78 = .ok (.getfield 51, 3) := by decide +kernel
theorem dX11_wrongCut_81 : decode cX11_wrongCut 81 = .ok (.iload_n 2, 1) := by decide +kernel
theorem dX11_wrongCut_82 : decode cX11_wrongCut 82 = .ok (.iaload, 1) := by decide +kernel
theorem dX11_wrongCut_83 : decode cX11_wrongCut 83 = .ok (.istore_n 1, 1) := by decide +kernel
theorem dX11_wrongCut_84 : decode cX11_wrongCut 84 = .ok (.iinc 2 1, 3) := by decide +kernel
theorem dX11_wrongCut_87 : decode cX11_wrongCut 87 = .ok (.goto (-83), 3) := by decide +kernel
theorem dX11_wrongCut_90 : decode cX11_wrongCut 90 = .ok (.iload_n 1, 1) := by decide +kernel
theorem dX11_wrongCut_91 : decode cX11_wrongCut 91 = .ok (.ireturn, 1) := by decide +kernel
theorem dX11_isAhead_0 : decode cX11_isAhead 0 = .ok (.aload_n 0, 1) := by decide +kernel
theorem dX11_isAhead_1 : decode cX11_isAhead 1 = .ok (.getfield 54, 3) := by decide +kernel
theorem dX11_isAhead_4 : decode cX11_isAhead 4 = .ok (.iload_n 1, 1) := by decide +kernel
theorem dX11_isAhead_5 : decode cX11_isAhead 5 = .ok (.iaload, 1) := by decide +kernel
theorem dX11_isAhead_6 : decode cX11_isAhead 6 = .ok (.aload_n 0, 1) := by decide +kernel
theorem dX11_isAhead_7 : decode cX11_isAhead 7 = .ok (.getfield 54, 3) := by decide +kernel
theorem dX11_isAhead_10 : decode cX11_isAhead 10 = .ok (.iload_n 2, 1) := by decide +kernel
theorem dX11_isAhead_11 : decode cX11_isAhead 11 = .ok (.iaload, 1) := by decide +kernel
theorem dX11_isAhead_12 : decode cX11_isAhead 12 = .ok (.if_icmp .gt 34, 3) := by decide +kernel
theorem dX11_isAhead_15 : decode cX11_isAhead 15 = .ok (.aload_n 0, 1) := by decide +kernel
theorem dX11_isAhead_16 : decode cX11_isAhead 16 = .ok (.getfield 54, 3) := by decide +kernel
theorem dX11_isAhead_19 : decode cX11_isAhead 19 = .ok (.iload_n 1, 1) := by decide +kernel
theorem dX11_isAhead_20 : decode cX11_isAhead 20 = .ok (.iaload, 1) := by decide +kernel
theorem dX11_isAhead_21 : decode cX11_isAhead 21 = .ok (.aload_n 0, 1) := by decide +kernel
theorem dX11_isAhead_22 : decode cX11_isAhead 22 = .ok (.getfield 54, 3) := by decide +kernel
theorem dX11_isAhead_25 : decode cX11_isAhead 25 = .ok (.iload_n 2, 1) := by decide +kernel
theorem dX11_isAhead_26 : decode cX11_isAhead 26 = .ok (.iaload, 1) := by decide +kernel
theorem dX11_isAhead_27 : decode cX11_isAhead 27 = .ok (.if_icmp .ne 23, 3) := by decide +kernel
theorem dX11_isAhead_30 : decode cX11_isAhead 30 = .ok (.aload_n 0, 1) := by decide +kernel
theorem dX11_isAhead_31 : decode cX11_isAhead 31 = .ok (.getfield 66, 3) := by decide +kernel
theorem dX11_isAhead_34 : decode cX11_isAhead 34 = .ok (.iload_n 1, 1) := by decide +kernel
theorem dX11_isAhead_35 : decode cX11_isAhead 35 = .ok (.laload, 1) := by decide +kernel
theorem dX11_isAhead_36 : decode cX11_isAhead 36 = .ok (.aload_n 0, 1) := by decide +kernel
theorem dX11_isAhead_37 : decode cX11_isAhead 37 = .ok (.getfield 66, 3) := by decide +kernel
theorem dX11_isAhead_40 : decode cX11_isAhead 40 = .ok (.iload_n 2, 1) := by decide +kernel
theorem dX11_isAhead_41 : decode cX11_isAhead 41 = .ok (.laload, 1) := by decide +kernel
theorem dX11_isAhead_42 : decode cX11_isAhead 42 = .ok (.lcmp, 1) := by decide +kernel
theorem dX11_isAhead_43 : decode cX11_isAhead 43 = .ok (.ifCond .le 7, 3) := by decide +kernel
theorem dX11_isAhead_46 : decode cX11_isAhead 46 = .ok (.iconst 1, 1) := by decide +kernel
theorem dX11_isAhead_47 : decode cX11_isAhead 47 = .ok (.goto 4, 3) := by decide +kernel
theorem dX11_isAhead_50 : decode cX11_isAhead 50 = .ok (.iconst 0, 1) := by decide +kernel
theorem dX11_isAhead_51 : decode cX11_isAhead 51 = .ok (.ireturn, 1) := by decide +kernel
theorem dX11_numberOf_0 : decode cX11_numberOf 0 = .ok (.aload_n 0, 1) := by decide +kernel
theorem dX11_numberOf_1 : decode cX11_numberOf 1 = .ok (.getfield 48, 3) := by decide +kernel
theorem dX11_numberOf_4 : decode cX11_numberOf 4 = .ok (.iload_n 1, 1) := by decide +kernel
theorem dX11_numberOf_5 : decode cX11_numberOf 5 = .ok (.iaload, 1) := by decide +kernel
theorem dX11_numberOf_6 : decode cX11_numberOf 6 = .ok (.istore_n 2, 1) := by decide +kernel
theorem dX11_numberOf_7 : decode cX11_numberOf 7 = .ok (.aload_n 0, 1) := by decide +kernel
theorem dX11_numberOf_8 : decode cX11_numberOf 8 = .ok (.getfield 54, 3) := by decide +kernel
theorem dX11_numberOf_11 : decode cX11_numberOf 11 = .ok (.iload_n 1, 1) := by decide +kernel
theorem dX11_numberOf_12 : decode cX11_numberOf 12 = .ok (.iaload, 1) := by decide +kernel
theorem dX11_numberOf_13 : decode cX11_numberOf 13 = .ok (.istore_n 3, 1) := by decide +kernel
theorem dX11_numberOf_14 : decode cX11_numberOf 14 = .ok (.aload_n 0, 1) := by decide +kernel
theorem dX11_numberOf_15 : decode cX11_numberOf 15 = .ok (.getfield 69, 3) := by decide +kernel
theorem dX11_numberOf_18 : decode cX11_numberOf 18 = .ok (.iload_n 1, 1) := by decide +kernel
theorem dX11_numberOf_19 : decode cX11_numberOf 19 = .ok (.iconst 0, 1) := by decide +kernel
theorem dX11_numberOf_20 : decode cX11_numberOf 20 = .ok (.bastore, 1) := by decide +kernel
theorem dX11_numberOf_21 : decode cX11_numberOf 21 = .ok (.aload_n 0, 1) := by decide +kernel
theorem dX11_numberOf_22 : decode cX11_numberOf 22 = .ok (.getfield 57, 3) := by decide +kernel
theorem dX11_numberOf_25 : decode cX11_numberOf 25 = .ok (.iload_n 1, 1) := by decide +kernel
theorem dX11_numberOf_26 : decode cX11_numberOf 26 = .ok (.iaload, 1) := by decide +kernel
theorem dX11_numberOf_27 : decode cX11_numberOf 27 = .ok (.istore 4, 2) := by decide +kernel
theorem dX11_numberOf_29 : decode cX11_numberOf 29 = .ok (.iload 4, 2) := by decide +kernel
theorem dX11_numberOf_31 : decode cX11_numberOf 31 = .ok (.ifCond .eq 45, 3) := by decide +kernel
theorem dX11_numberOf_34 : decode cX11_numberOf 34 = .ok (.aload_n 0, 1) := by decide +kernel
theorem dX11_numberOf_35 : decode cX11_numberOf 35 = .ok (.getfield 69, 3) := by decide +kernel
theorem dX11_numberOf_38 : decode cX11_numberOf 38 = .ok (.iload_n 1, 1) := by decide +kernel
theorem dX11_numberOf_39 : decode cX11_numberOf 39 = .ok (.aload_n 0, 1) := by decide +kernel
theorem dX11_numberOf_40 : decode cX11_numberOf 40 = .ok (.getfield 69, 3) := by decide +kernel
theorem dX11_numberOf_43 : decode cX11_numberOf 43 = .ok (.iload_n 1, 1) := by decide +kernel
theorem dX11_numberOf_44 : decode cX11_numberOf 44 = .ok (.baload, 1) := by decide +kernel
theorem dX11_numberOf_45 : decode cX11_numberOf 45 = .ok (.ifCond .ne 13, 3) := by decide +kernel
theorem dX11_numberOf_48 : decode cX11_numberOf 48 = .ok (.aload_n 0, 1) := by decide +kernel
theorem dX11_numberOf_49 : decode cX11_numberOf 49 = .ok (.getfield 69, 3) := by decide +kernel
theorem dX11_numberOf_52 : decode cX11_numberOf 52 = .ok (.iload 4, 2) := by decide +kernel
theorem dX11_numberOf_54 : decode cX11_numberOf 54 = .ok (.baload, 1) := by decide +kernel
theorem dX11_numberOf_55 : decode cX11_numberOf 55 = .ok (.ifCond .eq 7, 3) := by decide +kernel
theorem dX11_numberOf_58 : decode cX11_numberOf 58 = .ok (.iconst 1, 1) := by decide +kernel
theorem dX11_numberOf_59 : decode cX11_numberOf 59 = .ok (.goto 4, 3) := by decide +kernel
theorem dX11_numberOf_62 : decode cX11_numberOf 62 = .ok (.iconst 0, 1) := by decide +kernel
theorem dX11_numberOf_63 : decode cX11_numberOf 63 = .ok (.bastore, 1) := by decide +kernel
theorem dX11_numberOf_64 : decode cX11_numberOf 64 = .ok (.aload_n 0, 1) := by decide +kernel
theorem dX11_numberOf_65 : decode cX11_numberOf 65 = .ok (.getfield 60, 3) := by decide +kernel
theorem dX11_numberOf_68 : decode cX11_numberOf 68 = .ok (.iload 4, 2) := by decide +kernel
theorem dX11_numberOf_70 : decode cX11_numberOf 70 = .ok (.iaload, 1) := by decide +kernel
theorem dX11_numberOf_71 : decode cX11_numberOf 71 = .ok (.istore 4, 2) := by decide +kernel
theorem dX11_numberOf_73 : decode cX11_numberOf 73 = .ok (.goto (-44), 3) := by decide +kernel
theorem dX11_numberOf_76 : decode cX11_numberOf 76 = .ok (.aload_n 0, 1) := by decide +kernel
theorem dX11_numberOf_77 : decode cX11_numberOf 77 = .ok (.getfield 7, 3) := by decide +kernel
theorem dX11_numberOf_80 : decode cX11_numberOf 80 = .ok (.iload_n 2, 1) := by decide +kernel
theorem dX11_numberOf_81 : decode cX11_numberOf 81 = .ok (.iaload, 1) := by decide +kernel
theorem dX11_numberOf_82 : decode cX11_numberOf 82 = .ok (.tableswitch 207 0 8 #[50, 50, 60, 92, 151, 207, 207, 172, 192], 50) := by decide +kernel
theorem dX11_numberOf_132 : decode cX11_numberOf 132 = .ok (.aload_n 0, 1) := by decide +kernel
theorem dX11_numberOf_133 : decode cX11_numberOf 133 = .ok (.getfield 66, 3) := by decide +kernel
theorem dX11_numberOf_136 : decode cX11_numberOf 136 = .ok (.iload_n 1, 1) := by decide +kernel
theorem dX11_numberOf_137 : decode cX11_numberOf 137 = .ok (.lconst 0, 1) := by decide +kernel
theorem dX11_numberOf_138 : decode cX11_numberOf 138 = .ok (.lastore, 1) := by decide +kernel
theorem dX11_numberOf_139 : decode cX11_numberOf 139 = .ok (.goto 156, 3) := by decide +kernel
theorem dX11_numberOf_142 : decode cX11_numberOf 142 = .ok (.aload_n 0, 1) := by decide +kernel
theorem dX11_numberOf_143 : decode cX11_numberOf 143 = .ok (.getfield 66, 3) := by decide +kernel
theorem dX11_numberOf_146 : decode cX11_numberOf 146 = .ok (.iload_n 1, 1) := by decide +kernel
theorem dX11_numberOf_147 : decode cX11_numberOf 147 = .ok (.aload_n 0, 1) := by decide +kernel
theorem dX11_numberOf_148 : decode cX11_numberOf 148 = .ok (.iload_n 2, 1) := by decide +kernel
theorem dX11_numberOf_149 : decode cX11_numberOf 149 = .ok (.iload_n 3, 1) := by decide +kernel
theorem dX11_numberOf_150 : decode cX11_numberOf 150 = .ok (.aload_n 0, 1) := by decide +kernel
theorem dX11_numberOf_151 : decode cX11_numberOf 151 = .ok (.getfield 57, 3) := by decide +kernel
theorem dX11_numberOf_154 : decode cX11_numberOf 154 = .ok (.iload_n 1, 1) := by decide +kernel
theorem dX11_numberOf_155 : decode cX11_numberOf 155 = .ok (.iaload, 1) := by decide +kernel
theorem dX11_numberOf_156 : decode cX11_numberOf 156 = .ok (.aload_n 0, 1) := by decide +kernel
theorem dX11_numberOf_157 : decode cX11_numberOf 157 = .ok (.getfield 60, 3) := by decide +kernel
theorem dX11_numberOf_160 : decode cX11_numberOf 160 = .ok (.aload_n 0, 1) := by decide +kernel
theorem dX11_numberOf_161 : decode cX11_numberOf 161 = .ok (.getfield 57, 3) := by decide +kernel
theorem dX11_numberOf_164 : decode cX11_numberOf 164 = .ok (.iload_n 1, 1) := by decide +kernel
theorem dX11_numberOf_165 : decode cX11_numberOf 165 = .ok (.iaload, 1) := by decide +kernel
theorem dX11_numberOf_166 : decode cX11_numberOf 166 = .ok (.iaload, 1) := by decide +kernel
theorem dX11_numberOf_167 : decode cX11_numberOf 167 = .ok (.invokevirtual 292, 3) := by decide +kernel
theorem dX11_numberOf_170 : decode cX11_numberOf 170 = .ok (.lastore, 1) := by decide +kernel
theorem dX11_numberOf_171 : decode cX11_numberOf 171 = .ok (.goto 124, 3) := by decide +kernel
