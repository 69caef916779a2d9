theorem dX4_numberOfLetters_5 : decode cX4_numberOfLetters 5 = .ok (.invokevirtual 107, 3) := by decide +kernel
theorem dX4_numberOfLetters_8 : decode cX4_numberOfLetters 8 = .ok (.iconst 1, 1) := by decide +kernel
theorem dX4_numberOfLetters_9 : decode cX4_numberOfLetters 9 = .ok (.iadd, 1) := by decide +kernel
theorem dX4_numberOfLetters_10 : decode cX4_numberOfLetters 10 = .ok (.istore_n 3, 1) := by decide +kernel
theorem dX4_numberOfLetters_11 : decode cX4_numberOfLetters 11 = .ok (.iconst 0, 1) := by decide +kernel
theorem dX4_numberOfLetters_12 : decode cX4_numberOfLetters 12 = .ok (.istore 4, 2) := by decide +kernel
theorem dX4_numberOfLetters_14 : decode cX4_numberOfLetters 14 = .ok (.lconst 0, 1) := by decide +kernel
theorem dX4_numberOfLetters_15 : decode cX4_numberOfLetters 15 = .ok (.lstore 5, 2) := by decide +kernel
theorem dX4_numberOfLetters_17 : decode cX4_numberOfLetters 17 = .ok (.iconst 0, 1) := by decide +kernel
theorem dX4_numberOfLetters_18 : decode cX4_numberOfLetters 18 = .ok (.istore 7, 2) := by decide +kernel
theorem dX4_numberOfLetters_20 : decode cX4_numberOfLetters 20 = .ok (.iload 7, 2) := by decide +kernel
theorem dX4_numberOfLetters_22 : decode cX4_numberOfLetters 22 = .ok (.iload_n 2, 1) := by decide +kernel
theorem dX4_numberOfLetters_23 : decode cX4_numberOfLetters 23 = .ok (.if_icmp .ge 68, 3) := by decide +kernel
theorem dX4_numberOfLetters_26 : decode cX4_numberOfLetters 26 = .ok (.aload_n 0, 1) := by decide +kernel
theorem dX4_numberOfLetters_27 : decode cX4_numberOfLetters 27 = .ok (.getfield 37, 3) := by decide +kernel
theorem dX4_numberOfLetters_30 : decode cX4_numberOfLetters 30 = .ok (.iload_n 3, 1) := by decide +kernel
theorem dX4_numberOfLetters_31 : decode cX4_numberOfLetters 31 = .ok (.iload 7, 2) := by decide +kernel
theorem dX4_numberOfLetters_33 : decode cX4_numberOfLetters 33 = .ok (.iadd, 1) := by decide +kernel
theorem dX4_numberOfLetters_34 : decode cX4_numberOfLetters 34 = .ok (.invokevirtual 110, 3) := by decide +kernel
theorem dX4_numberOfLetters_37 : decode cX4_numberOfLetters 37 = .ok (.bipush 97, 2) := by decide +kernel
theorem dX4_numberOfLetters_39 : decode cX4_numberOfLetters 39 = .ok (.isub, 1) := by decide +kernel
theorem dX4_numberOfLetters_40 : decode cX4_numberOfLetters 40 = .ok (.istore 8, 2) := by decide +kernel
theorem dX4_numberOfLetters_42 : decode cX4_numberOfLetters 42 = .ok (.iconst 1, 1) := by decide +kernel
theorem dX4_numberOfLetters_43 : decode cX4_numberOfLetters 43 = .ok (.iload 8, 2) := by decide +kernel
theorem dX4_numberOfLetters_45 : decode cX4_numberOfLetters 45 = .ok (.ishl, 1) := by decide +kernel
theorem dX4_numberOfLetters_46 : decode cX4_numberOfLetters 46 = .ok (.iconst 1, 1) := by decide +kernel
theorem dX4_numberOfLetters_47 : decode cX4_numberOfLetters 47 = .ok (.isub, 1) := by decide +kernel
theorem dX4_numberOfLetters_48 : decode cX4_numberOfLetters 48 = .ok (.istore 9, 2) := by decide +kernel
theorem dX4_numberOfLetters_50 : decode cX4_numberOfLetters 50 = .ok (.lload 5, 2) := by decide +kernel
theorem dX4_numberOfLetters_52 : decode cX4_numberOfLetters 52 = .ok (.iload 9, 2) := by decide +kernel
theorem dX4_numberOfLetters_54 : decode cX4_numberOfLetters 54 = .ok (.iload 4, 2) := by decide +kernel
theorem dX4_numberOfLetters_56 : decode cX4_numberOfLetters 56 = .ok (.iconst (-1), 1) := by decide +kernel
theorem dX4_numberOfLetters_57 : decode cX4_numberOfLetters 57 = .ok (.ixor, 1) := by decide +kernel
theorem dX4_numberOfLetters_58 : decode cX4_numberOfLetters 58 = .ok (.iand, 1) := by decide +kernel
theorem dX4_numberOfLetters_59 : decode cX4_numberOfLetters 59 = .ok (.invokestatic 184, 3) := by decide +kernel
theorem dX4_numberOfLetters_62 : decode cX4_numberOfLetters 62 = .ok (.i2l, 1) := by decide +kernel
theorem dX4_numberOfLetters_63 : decode cX4_numberOfLetters 63 = .ok (.iload_n 2, 1) := by decide +kernel
theorem dX4_numberOfLetters_64 : decode cX4_numberOfLetters 64 = .ok (.iconst 1, 1) := by decide +kernel
theorem dX4_numberOfLetters_65 : decode cX4_numberOfLetters 65 = .ok (.isub, 1) := by decide +kernel
theorem dX4_numberOfLetters_66 : decode cX4_numberOfLetters 66 = .ok (.iload 7, 2) := by decide +kernel
theorem dX4_numberOfLetters_68 : decode cX4_numberOfLetters 68 = .ok (.isub, 1) := by decide +kernel
theorem dX4_numberOfLetters_69 : decode cX4_numberOfLetters 69 = .ok (.invokestatic 189, 3) := by decide +kernel
theorem dX4_numberOfLetters_72 : decode cX4_numberOfLetters 72 = .ok (.lmul, 1) := by decide +kernel
theorem dX4_numberOfLetters_73 : decode cX4_numberOfLetters 73 = .ok (.ladd, 1) := by decide +kernel
theorem dX4_numberOfLetters_74 : decode cX4_numberOfLetters 74 = .ok (.lstore 5, 2) := by decide +kernel
theorem dX4_numberOfLetters_76 : decode cX4_numberOfLetters 76 = .ok (.iload 4, 2) := by decide +kernel
theorem dX4_numberOfLetters_78 : decode cX4_numberOfLetters 78 = .ok (.iconst 1, 1) := by decide +kernel
theorem dX4_numberOfLetters_79 : decode cX4_numberOfLetters 79 = .ok (.iload 8, 2) := by decide +kernel
theorem dX4_numberOfLetters_81 : decode cX4_numberOfLetters 81 = .ok (.ishl, 1) := by decide +kernel
theorem dX4_numberOfLetters_82 : decode cX4_numberOfLetters 82 = .ok (.ior, 1) := by decide +kernel
theorem dX4_numberOfLetters_83 : decode cX4_numberOfLetters 83 = .ok (.istore 4, 2) := by decide +kernel
theorem dX4_numberOfLetters_85 : decode cX4_numberOfLetters 85 = .ok (.iinc 7 1, 3) := by decide +kernel
theorem dX4_numberOfLetters_88 : decode cX4_numberOfLetters 88 = .ok (.goto (-68), 3) := by decide +kernel
theorem dX4_numberOfLetters_91 : decode cX4_numberOfLetters 91 = .ok (.lload 5, 2) := by decide +kernel
theorem dX4_numberOfLetters_93 : decode cX4_numberOfLetters 93 = .ok (.lreturn, 1) := by decide +kernel
theorem dX5_init_0 : decode cX5_init 0 = .ok (.aload_n 0, 1) := by decide +kernel
theorem dX5_init_1 : decode cX5_init 1 = .ok (.invokespecial 3, 3) := by decide +kernel
theorem dX5_init_4 : decode cX5_init 4 = .ok (.aload_n 0, 1) := by decide +kernel
theorem dX5_init_5 : decode cX5_init 5 = .ok (.sipush 300, 3) := by decide +kernel
theorem dX5_init_8 : decode cX5_init 8 = .ok (.newarray .int, 2) := by decide +kernel
theorem dX5_init_10 : decode cX5_init 10 = .ok (.putfield 9, 3) := by decide +kernel
theorem dX5_init_13 : decode cX5_init 13 = .ok (.aload_n 0, 1) := by decide +kernel
theorem dX5_init_14 : decode cX5_init 14 = .ok (.sipush 300, 3) := by decide +kernel
theorem dX5_init_17 : decode cX5_init 17 = .ok (.newarray .int, 2) := by decide +kernel
theorem dX5_init_19 : decode cX5_init 19 = .ok (.putfield 15, 3) := by decide +kernel
theorem dX5_init_22 : decode cX5_init 22 = .ok (.aload_n 0, 1) := by decide +kernel
theorem dX5_init_23 : decode cX5_init 23 = .ok (.sipush 300, 3) := by decide +kernel
theorem dX5_init_26 : decode cX5_init 26 = .ok (.newarray .int, 2) := by decide +kernel
theorem dX5_init_28 : decode cX5_init 28 = .ok (.putfield 18, 3) := by decide +kernel
theorem dX5_init_31 : decode cX5_init 31 = .ok (.aload_n 0, 1) := by decide +kernel
theorem dX5_init_32 : decode cX5_init 32 = .ok (.sipush 300, 3) := by decide +kernel
theorem dX5_init_35 : decode cX5_init 35 = .ok (.newarray .int, 2) := by decide +kernel
theorem dX5_init_37 : decode cX5_init 37 = .ok (.putfield 21, 3) := by decide +kernel
theorem dX5_init_40 : decode cX5_init 40 = .ok (.aload_n 0, 1) := by decide +kernel
theorem dX5_init_41 : decode cX5_init 41 = .ok (.sipush 300, 3) := by decide +kernel
theorem dX5_init_44 : decode cX5_init 44 = .ok (.newarray .int, 2) := by decide +kernel
theorem dX5_init_46 : decode cX5_init 46 = .ok (.putfield 24, 3) := by decide +kernel
theorem dX5_init_49 : decode cX5_init 49 = .ok (.aload_n 0, 1) := by decide +kernel
theorem dX5_init_50 : decode cX5_init 50 = .ok (.sipush 300, 3) := by decide +kernel
theorem dX5_init_53 : decode cX5_init 53 = .ok (.newarray .int, 2) := by decide +kernel
theorem dX5_init_55 : decode cX5_init 55 = .ok (.putfield 27, 3) := by decide +kernel
theorem dX5_init_58 : decode cX5_init 58 = .ok (.aload_n 0, 1) := by decide +kernel
theorem dX5_init_59 : decode cX5_init 59 = .ok (.aload_n 1, 1) := by decide +kernel
theorem dX5_init_60 : decode cX5_init 60 = .ok (.putfield 30, 3) := by decide +kernel
theorem dX5_init_63 : decode cX5_init 63 = .ok (.aload_n 0, 1) := by decide +kernel
theorem dX5_init_64 : decode cX5_init 64 = .ok (.aload_n 2, 1) := by decide +kernel
theorem dX5_init_65 : decode cX5_init 65 = .ok (.putfield 34, 3) := by decide +kernel
theorem dX5_init_68 : decode cX5_init 68 = .ok (.return_, 1) := by decide +kernel
theorem dX5_fault_0 : decode cX5_fault 0 = .ok (.aload_n 0, 1) := by decide +kernel
theorem dX5_fault_1 : decode cX5_fault 1 = .ok (.getfield 38, 3) := by decide +kernel
theorem dX5_fault_4 : decode cX5_fault 4 = .ok (.ireturn, 1) := by decide +kernel
theorem dX5_faultPlace_0 : decode cX5_faultPlace 0 = .ok (.aload_n 0, 1) := by decide +kernel
theorem dX5_faultPlace_1 : decode cX5_faultPlace 1 = .ok (.getfield 42, 3) := by decide +kernel
theorem dX5_faultPlace_4 : decode cX5_faultPlace 4 = .ok (.ireturn, 1) := by decide +kernel
theorem dX5_size_0 : decode cX5_size 0 = .ok (.aload_n 0, 1) := by decide +kernel
theorem dX5_size_1 : decode cX5_size 1 = .ok (.getfield 45, 3) := by decide +kernel
theorem dX5_size_4 : decode cX5_size 4 = .ok (.ireturn, 1) := by decide +kernel
theorem dX5_wholeSize_0 : decode cX5_wholeSize 0 = .ok (.aload_n 0, 1) := by decide +kernel
theorem dX5_wholeSize_1 : decode cX5_wholeSize 1 = .ok (.iconst 0, 1) := by decide +kernel
theorem dX5_wholeSize_2 : decode cX5_wholeSize 2 = .ok (.invokevirtual 48, 3) := by decide +kernel
theorem dX5_wholeSize_5 : decode cX5_wholeSize 5 = .ok (.ireturn, 1) := by decide +kernel
theorem dX5_shapeAt_0 : decode cX5_shapeAt 0 = .ok (.aload_n 0, 1) := by decide +kernel
theorem dX5_shapeAt_1 : decode cX5_shapeAt 1 = .ok (.getfield 9, 3) := by decide +kernel
theorem dX5_shapeAt_4 : decode cX5_shapeAt 4 = .ok (.iload_n 1, 1) := by decide +kernel
theorem dX5_shapeAt_5 : decode cX5_shapeAt 5 = .ok (.invokestatic 52, 3) := by decide +kernel
theorem dX5_shapeAt_8 : decode cX5_shapeAt 8 = .ok (.ireturn, 1) := by decide +kernel
theorem dX5_placeAt_0 : decode cX5_placeAt 0 = .ok (.aload_n 0, 1) := by decide +kernel
theorem dX5_placeAt_1 : decode cX5_placeAt 1 = .ok (.getfield 15, 3) := by decide +kernel
theorem dX5_placeAt_4 : decode cX5_placeAt 4 = .ok (.iload_n 1, 1) := by decide +kernel
theorem dX5_placeAt_5 : decode cX5_placeAt 5 = .ok (.invokestatic 52, 3) := by decide +kernel
theorem dX5_placeAt_8 : decode cX5_placeAt 8 = .ok (.ireturn, 1) := by decide +kernel
theorem dX5_parentAt_0 : decode cX5_parentAt 0 = .ok (.iload_n 1, 1) := by decide +kernel
theorem dX5_parentAt_1 : decode cX5_parentAt 1 = .ok (.ifCond .gt 7, 3) := by decide +kernel
theorem dX5_parentAt_4 : decode cX5_parentAt 4 = .ok (.iconst (-1), 1) := by decide +kernel
theorem dX5_parentAt_5 : decode cX5_parentAt 5 = .ok (.goto 11, 3) := by decide +kernel
theorem dX5_parentAt_8 : decode cX5_parentAt 8 = .ok (.aload_n 0, 1) := by decide +kernel
theorem dX5_parentAt_9 : decode cX5_parentAt 9 = .ok (.getfield 18, 3) := by decide +kernel
theorem dX5_parentAt_12 : decode cX5_parentAt 12 = .ok (.iload_n 1, 1) := by decide +kernel
theorem dX5_parentAt_13 : decode cX5_parentAt 13 = .ok (.invokestatic 52, 3) := by decide +kernel
theorem dX5_parentAt_16 : decode cX5_parentAt 16 = .ok (.ireturn, 1) := by decide +kernel
theorem dX5_sizeAt_0 : decode cX5_sizeAt 0 = .ok (.aload_n 0, 1) := by decide +kernel
theorem dX5_sizeAt_1 : decode cX5_sizeAt 1 = .ok (.getfield 21, 3) := by decide +kernel
theorem dX5_sizeAt_4 : decode cX5_sizeAt 4 = .ok (.iload_n 1, 1) := by decide +kernel
theorem dX5_sizeAt_5 : decode cX5_sizeAt 5 = .ok (.invokestatic 52, 3) := by decide +kernel
theorem dX5_sizeAt_8 : decode cX5_sizeAt 8 = .ok (.ireturn, 1) := by decide +kernel
theorem dX5_endAt_0 : decode cX5_endAt 0 = .ok (.aload_n 0, 1) := by decide +kernel
theorem dX5_endAt_1 : decode cX5_endAt 1 = .ok (.getfield 24, 3) := by decide +kernel
theorem dX5_endAt_4 : decode cX5_endAt 4 = .ok (.iload_n 1, 1) := by decide +kernel
theorem dX5_endAt_5 : decode cX5_endAt 5 = .ok (.invokestatic 52, 3) := by decide +kernel
theorem dX5_endAt_8 : decode cX5_endAt 8 = .ok (.ireturn, 1) := by decide +kernel
theorem dX5_scan_0 : decode cX5_scan 0 = .ok (.aload_n 0, 1) := by decide +kernel
theorem dX5_scan_1 : decode cX5_scan 1 = .ok (.iload_n 1, 1) := by decide +kernel
theorem dX5_scan_2 : decode cX5_scan 2 = .ok (.putfield 58, 3) := by decide +kernel
theorem dX5_scan_5 : decode cX5_scan 5 = .ok (.aload_n 0, 1) := by decide +kernel
theorem dX5_scan_6 : decode cX5_scan 6 = .ok (.iconst 0, 1) := by decide +kernel
theorem dX5_scan_7 : decode cX5_scan 7 = .ok (.putfield 45, 3) := by decide +kernel
theorem dX5_scan_10 : decode cX5_scan 10 = .ok (.aload_n 0, 1) := by decide +kernel
theorem dX5_scan_11 : decode cX5_scan 11 = .ok (.iconst (-1), 1) := by decide +kernel
theorem dX5_scan_12 : decode cX5_scan 12 = .ok (.putfield 61, 3) := by decide +kernel
theorem dX5_scan_15 : decode cX5_scan 15 = .ok (.aload_n 0, 1) := by decide +kernel
theorem dX5_scan_16 : decode cX5_scan 16 = .ok (.getfield 21, 3) := by decide +kernel
theorem dX5_scan_19 : decode cX5_scan 19 = .ok (.iconst 0, 1) := by decide +kernel
theorem dX5_scan_20 : decode cX5_scan 20 = .ok (.iconst 0, 1) := by decide +kernel
theorem dX5_scan_21 : decode cX5_scan 21 = .ok (.invokestatic 64, 3) := by decide +kernel
theorem dX5_scan_24 : decode cX5_scan 24 = .ok (.iconst 0, 1) := by decide +kernel
theorem dX5_scan_25 : decode cX5_scan 25 = .ok (.istore_n 2, 1) := by decide +kernel
theorem dX5_scan_26 : decode cX5_scan 26 = .ok (.iload_n 2, 1) := by decide +kernel
theorem dX5_scan_27 : decode cX5_scan 27 = .ok (.aload_n 0, 1) := by decide +kernel
theorem dX5_scan_28 : decode cX5_scan 28 = .ok (.getfield 34, 3) := by decide +kernel
theorem dX5_scan_31 : decode cX5_scan 31 = .ok (.invokevirtual 68, 3) := by decide +kernel
theorem dX5_scan_34 : decode cX5_scan 34 = .ok (.if_icmp .ge 25, 3) := by decide +kernel
theorem dX5_scan_37 : decode cX5_scan 37 = .ok (.aload_n 0, 1) := by decide +kernel
theorem dX5_scan_38 : decode cX5_scan 38 = .ok (.aload_n 0, 1) := by decide +kernel
theorem dX5_scan_39 : decode cX5_scan 39 = .ok (.getfield 34, 3) := by decide +kernel
theorem dX5_scan_42 : decode cX5_scan 42 = .ok (.iload_n 2, 1) := by decide +kernel
theorem dX5_scan_43 : decode cX5_scan 43 = .ok (.invokevirtual 74, 3) := by decide +kernel
theorem dX5_scan_46 : decode cX5_scan 46 = .ok (.iload_n 2, 1) := by decide +kernel
theorem dX5_scan_47 : decode cX5_scan 47 = .ok (.invokevirtual 76, 3) := by decide +kernel
theorem dX5_scan_50 : decode cX5_scan 50 = .ok (.ifCond .eq 9, 3) := by decide +kernel
theorem dX5_scan_53 : decode cX5_scan 53 = .ok (.iinc 2 1, 3) := by decide +kernel
theorem dX5_scan_56 : decode cX5_scan 56 = .ok (.goto (-30), 3) := by decide +kernel
theorem dX5_scan_59 : decode cX5_scan 59 = .ok (.iload_n 2, 1) := by decide +kernel
theorem dX5_scan_60 : decode cX5_scan 60 = .ok (.aload_n 0, 1) := by decide +kernel
theorem dX5_scan_61 : decode cX5_scan 61 = .ok (.getfield 34, 3) := by decide +kernel
theorem dX5_scan_64 : decode cX5_scan 64 = .ok (.invokevirtual 68, 3) := by decide +kernel
theorem dX5_scan_67 : decode cX5_scan 67 = .ok (.if_icmp .lt 18, 3) := by decide +kernel
theorem dX5_scan_70 : decode cX5_scan 70 = .ok (.aload_n 0, 1) := by decide +kernel
theorem dX5_scan_71 : decode cX5_scan 71 = .ok (.getfield 45, 3) := by decide +kernel
theorem dX5_scan_74 : decode cX5_scan 74 = .ok (.ifCond .eq 11, 3) := by decide +kernel
theorem dX5_scan_77 : decode cX5_scan 77 = .ok (.aload_n 0, 1) := by decide +kernel
theorem dX5_scan_78 : decode cX5_scan 78 = .ok (.getfield 61, 3) := by decide +kernel
theorem dX5_scan_81 : decode cX5_scan 81 = .ok (.iconst (-1), 1) := by decide +kernel
theorem dX5_scan_82 : decode cX5_scan 82 = .ok (.if_icmp .eq 10, 3) := by decide +kernel
theorem dX5_scan_85 : decode cX5_scan 85 = .ok (.aload_n 0, 1) := by decide +kernel
theorem dX5_scan_86 : decode cX5_scan 86 = .ok (.iconst 1, 1) := by decide +kernel
theorem dX5_scan_87 : decode cX5_scan 87 = .ok (.iload_n 2, 1) := by decide +kernel
theorem dX5_scan_88 : decode cX5_scan 88 = .ok (.invokevirtual 80, 3) := by decide +kernel
theorem dX5_scan_91 : decode cX5_scan 91 = .ok (.return_, 1) := by decide +kernel
theorem dX5_scan_92 : decode cX5_scan 92 = .ok (.aload_n 0, 1) := by decide +kernel
theorem dX5_scan_93 : decode cX5_scan 93 = .ok (.invokevirtual 84, 3) := by decide +kernel
theorem dX5_scan_96 : decode cX5_scan 96 = .ok (.aload_n 0, 1) := by decide +kernel
theorem dX5_scan_97 : decode cX5_scan 97 = .ok (.invokevirtual 87, 3) := by decide +kernel
theorem dX5_scan_100 : decode cX5_scan 100 = .ok (.istore_n 3, 1) := by decide +kernel
theorem dX5_scan_101 : decode cX5_scan 101 = .ok (.iload_n 3, 1) := by decide +kernel
theorem dX5_scan_102 : decode cX5_scan 102 = .ok (.iconst (-1), 1) := by decide +kernel
theorem dX5_scan_103 : decode cX5_scan 103 = .ok (.if_icmp .eq 16, 3) := by decide +kernel
theorem dX5_scan_106 : decode cX5_scan 106 = .ok (.aload_n 0, 1) := by decide +kernel
theorem dX5_scan_107 : decode cX5_scan 107 = .ok (.iconst 2, 1) := by decide +kernel
theorem dX5_scan_108 : decode cX5_scan 108 = .ok (.aload_n 0, 1) := by decide +kernel
theorem dX5_scan_109 : decode cX5_scan 109 = .ok (.iload_n 3, 1) := by decide +kernel
theorem dX5_scan_110 : decode cX5_scan 110 = .ok (.invokevirtual 90, 3) := by decide +kernel
theorem dX5_scan_113 : decode cX5_scan 113 = .ok (.invokevirtual 80, 3) := by decide +kernel
theorem dX5_scan_116 : decode cX5_scan 116 = .ok (.goto 22, 3) := by decide +kernel
theorem dX5_scan_119 : decode cX5_scan 119 = .ok (.aload_n 0, 1) := by decide +kernel
theorem dX5_scan_120 : decode cX5_scan 120 = .ok (.aload_n 0, 1) := by decide +kernel
theorem dX5_scan_121 : decode cX5_scan 121 = .ok (.invokevirtual 93, 3) := by decide +kernel
theorem dX5_scan_124 : decode cX5_scan 124 = .ok (.bipush 24, 2) := by decide +kernel
theorem dX5_scan_126 : decode cX5_scan 126 = .ok (.if_icmp .le 7, 3) := by decide +kernel
theorem dX5_scan_129 : decode cX5_scan 129 = .ok (.iconst 4, 1) := by decide +kernel
theorem dX5_scan_130 : decode cX5_scan 130 = .ok (.goto 4, 3) := by decide +kernel
theorem dX5_scan_133 : decode cX5_scan 133 = .ok (.iconst 0, 1) := by decide +kernel
theorem dX5_scan_134 : decode cX5_scan 134 = .ok (.iconst 0, 1) := by decide +kernel
theorem dX5_scan_135 : decode cX5_scan 135 = .ok (.invokevirtual 80, 3) := by decide +kernel
theorem dX5_scan_138 : decode cX5_scan 138 = .ok (.return_, 1) := by decide +kernel
theorem dX5_blame_0 : decode cX5_blame 0 = .ok (.aload_n 0, 1) := by decide +kernel
theorem dX5_blame_1 : decode cX5_blame 1 = .ok (.iload_n 1, 1) := by decide +kernel
theorem dX5_blame_2 : decode cX5_blame 2 = .ok (.putfield 38, 3) := by decide +kernel
theorem dX5_blame_5 : decode cX5_blame 5 = .ok (.aload_n 0, 1) := by decide +kernel
theorem dX5_blame_6 : decode cX5_blame 6 = .ok (.iload_n 2, 1) := by decide +kernel
theorem dX5_blame_7 : decode cX5_blame 7 = .ok (.putfield 42, 3) := by decide +kernel
theorem dX5_blame_10 : decode cX5_blame 10 = .ok (.return_, 1) := by decide +kernel
theorem dX5_takes_0 : decode cX5_takes 0 = .ok (.aload_n 0, 1) := by decide +kernel
theorem dX5_takes_1 : decode cX5_takes 1 = .ok (.getfield 61, 3) := by decide +kernel
theorem dX5_takes_4 : decode cX5_takes 4 = .ok (.iconst (-1), 1) := by decide +kernel
theorem dX5_takes_5 : decode cX5_takes 5 = .ok (.if_icmp .ne 29, 3) := by decide +kernel
theorem dX5_takes_8 : decode cX5_takes 8 = .ok (.aload_n 0, 1) := by decide +kernel
theorem dX5_takes_9 : decode cX5_takes 9 = .ok (.getfield 45, 3) := by decide +kernel
theorem dX5_takes_12 : decode cX5_takes 12 = .ok (.ifCond .ne 20, 3) := by decide +kernel
theorem dX5_takes_15 : decode cX5_takes 15 = .ok (.aload_n 0, 1) := by decide +kernel
theorem dX5_takes_16 : decode cX5_takes 16 = .ok (.aload_n 0, 1) := by decide +kernel
theorem dX5_takes_17 : decode cX5_takes 17 = .ok (.getfield 58, 3) := by decide +kernel
theorem dX5_takes_20 : decode cX5_takes 20 = .ok (.iload_n 1, 1) := by decide +kernel
theorem dX5_takes_21 : decode cX5_takes 21 = .ok (.iload_n 2, 1) := by decide +kernel
theorem dX5_takes_22 : decode cX5_takes 22 = .ok (.invokevirtual 96, 3) := by decide +kernel
theorem dX5_takes_25 : decode cX5_takes 25 = .ok (.ifCond .eq 7, 3) := by decide +kernel
theorem dX5_takes_28 : decode cX5_takes 28 = .ok (.iconst 1, 1) := by decide +kernel
theorem dX5_takes_29 : decode cX5_takes 29 = .ok (.goto 4, 3) := by decide +kernel
theorem dX5_takes_32 : decode cX5_takes 32 = .ok (.iconst 0, 1) := by decide +kernel
theorem dX5_takes_33 : decode cX5_takes 33 = .ok (.ireturn, 1) := by decide +kernel
theorem dX5_takes_34 : decode cX5_takes 34 = .ok (.aload_n 0, 1) := by decide +kernel
theorem dX5_takes_35 : decode cX5_takes 35 = .ok (.aload_n 0, 1) := by decide +kernel
theorem dX5_takes_36 : decode cX5_takes 36 = .ok (.getfield 61, 3) := by decide +kernel
theorem dX5_takes_39 : decode cX5_takes 39 = .ok (.invokevirtual 100, 3) := by decide +kernel
theorem dX5_takes_42 : decode cX5_takes 42 = .ok (.istore_n 3, 1) := by decide +kernel
theorem dX5_takes_43 : decode cX5_takes 43 = .ok (.aload_n 0, 1) := by decide +kernel
theorem dX5_takes_44 : decode cX5_takes 44 = .ok (.getfield 30, 3) := by decide +kernel
theorem dX5_takes_47 : decode cX5_takes 47 = .ok (.iload_n 3, 1) := by decide +kernel
theorem dX5_takes_48 : decode cX5_takes 48 = .ok (.invokevirtual 103, 3) := by decide +kernel
theorem dX5_takes_51 : decode cX5_takes 51 = .ok (.istore 4, 2) := by decide +kernel
theorem dX5_takes_53 : decode cX5_takes 53 = .ok (.iload 4, 2) := by decide +kernel
theorem dX5_takes_55 : decode cX5_takes 55 = .ok (.tableswitch 136 2 8 #[41, 49, 136, 136, 136, 107, 122], 41) := by decide +kernel
theorem dX5_takes_96 : decode cX5_takes 96 = .ok (.aload_n 0, 1) := by decide +kernel
theorem dX5_takes_97 : decode cX5_takes 97 = .ok (.iload_n 3, 1) := by decide +kernel
theorem dX5_takes_98 : decode cX5_takes 98 = .ok (.iload_n 1, 1) := by decide +kernel
theorem dX5_takes_99 : decode cX5_takes 99 = .ok (.iload_n 2, 1) := by decide +kernel
theorem dX5_takes_100 : decode cX5_takes 100 = .ok (.invokevirtual 108, 3) := by decide +kernel
theorem dX5_takes_103 : decode cX5_takes 103 = .ok (.ireturn, 1) := by decide +kernel
theorem dX5_takes_104 : decode cX5_takes 104 = .ok (.aload_n 0, 1) := by decide +kernel
theorem dX5_takes_105 : decode cX5_takes 105 = .ok (.getfield 34, 3) := by decide +kernel
theorem dX5_takes_108 : decode cX5_takes 108 = .ok (.aload_n 0, 1) := by decide +kernel
theorem dX5_takes_109 : decode cX5_takes 109 = .ok (.aload_n 0, 1) := by decide +kernel
theorem dX5_takes_110 : decode cX5_takes 110 = .ok (.getfield 61, 3) := by decide +kernel
theorem dX5_takes_113 : decode cX5_takes 113 = .ok (.invokevirtual 90, 3) := by decide +kernel
theorem dX5_takes_116 : decode cX5_takes 116 = .ok (.invokevirtual 74, 3) := by decide +kernel
theorem dX5_takes_119 : decode cX5_takes 119 = .ok (.bipush 49, 2) := by decide +kernel
theorem dX5_takes_121 : decode cX5_takes 121 = .ok (.if_icmp .ne 7, 3) := by decide +kernel
theorem dX5_takes_124 : decode cX5_takes 124 = .ok (.iconst 1, 1) := by decide +kernel
theorem dX5_takes_125 : decode cX5_takes 125 = .ok (.goto 4, 3) := by decide +kernel
theorem dX5_takes_128 : decode cX5_takes 128 = .ok (.iconst 0, 1) := by decide +kernel
theorem dX5_takes_129 : decode cX5_takes 129 = .ok (.istore 5, 2) := by decide +kernel
theorem dX5_takes_131 : decode cX5_takes 131 = .ok (.aload_n 0, 1) := by decide +kernel
theorem dX5_takes_132 : decode cX5_takes 132 = .ok (.iload 5, 2) := by decide +kernel
theorem dX5_takes_134 : decode cX5_takes 134 = .ok (.ifCond .eq 14, 3) := by decide +kernel
theorem dX5_takes_137 : decode cX5_takes 137 = .ok (.aload_n 0, 1) := by decide +kernel
theorem dX5_takes_138 : decode cX5_takes 138 = .ok (.getfield 30, 3) := by decide +kernel
theorem dX5_takes_141 : decode cX5_takes 141 = .ok (.iload_n 3, 1) := by decide +kernel
theorem dX5_takes_142 : decode cX5_takes 142 = .ok (.invokevirtual 111, 3) := by decide +kernel
theorem dX5_takes_145 : decode cX5_takes 145 = .ok (.goto 11, 3) := by decide +kernel
theorem dX5_takes_148 : decode cX5_takes 148 = .ok (.aload_n 0, 1) := by decide +kernel
theorem dX5_takes_149 : decode cX5_takes 149 = .ok (.getfield 30, 3) := by decide +kernel
theorem dX5_takes_152 : decode cX5_takes 152 = .ok (.iload_n 3, 1) := by decide +kernel
theorem dX5_takes_153 : decode cX5_takes 153 = .ok (.invokevirtual 114, 3) := by decide +kernel
theorem dX5_takes_156 : decode cX5_takes 156 = .ok (.iload_n 1, 1) := by decide +kernel
theorem dX5_takes_157 : decode cX5_takes 157 = .ok (.iload_n 2, 1) := by decide +kernel
theorem dX5_takes_158 : decode cX5_takes 158 = .ok (.invokevirtual 96, 3) := by decide +kernel
theorem dX5_takes_161 : decode cX5_takes 161 = .ok (.ireturn, 1) := by decide +kernel
theorem dX5_takes_162 : decode cX5_takes 162 = .ok (.aload_n 0, 1) := by decide +kernel
theorem dX5_takes_163 : decode cX5_takes 163 = .ok (.aload_n 0, 1) := by decide +kernel
theorem dX5_takes_164 : decode cX5_takes 164 = .ok (.getfield 30, 3) := by decide +kernel
theorem dX5_takes_167 : decode cX5_takes 167 = .ok (.iload_n 3, 1) := by decide +kernel
theorem dX5_takes_168 : decode cX5_takes 168 = .ok (.invokevirtual 111, 3) := by decide +kernel
theorem dX5_takes_171 : decode cX5_takes 171 = .ok (.iload_n 1, 1) := by decide +kernel
theorem dX5_takes_172 : decode cX5_takes 172 = .ok (.iload_n 2, 1) := by decide +kernel
theorem dX5_takes_173 : decode cX5_takes 173 = .ok (.invokevirtual 96, 3) := by decide +kernel
theorem dX5_takes_176 : decode cX5_takes 176 = .ok (.ireturn, 1) := by decide +kernel
theorem dX5_takes_177 : decode cX5_takes 177 = .ok (.aload_n 0, 1) := by decide +kernel
theorem dX5_takes_178 : decode cX5_takes 178 = .ok (.aload_n 0, 1) := by decide +kernel
theorem dX5_takes_179 : decode cX5_takes 179 = .ok (.getfield 30, 3) := by decide +kernel
theorem dX5_takes_182 : decode cX5_takes 182 = .ok (.iload_n 3, 1) := by decide +kernel
theorem dX5_takes_183 : decode cX5_takes 183 = .ok (.invokevirtual 111, 3) := by decide +kernel
theorem dX5_takes_186 : decode cX5_takes 186 = .ok (.iload_n 1, 1) := by decide +kernel
theorem dX5_takes_187 : decode cX5_takes 187 = .ok (.invokevirtual 117, 3) := by decide +kernel
theorem dX5_takes_190 : decode cX5_takes 190 = .ok (.ireturn, 1) := by decide +kernel
theorem dX5_takes_191 : decode cX5_takes 191 = .ok (.iload_n 1, 1) := by decide +kernel
theorem dX5_takes_192 : decode cX5_takes 192 = .ok (.getstatic 120, 3) := by decide +kernel
theorem dX5_takes_195 : decode cX5_takes 195 = .ok (.iload 4, 2) := by decide +kernel
theorem dX5_takes_197 : decode cX5_takes 197 = .ok (.invokestatic 124, 3) := by decide +kernel
theorem dX5_takes_200 : decode cX5_takes 200 = .ok (.if_icmp .ne 13, 3) := by decide +kernel
theorem dX5_takes_203 : decode cX5_takes 203 = .ok (.aload_n 0, 1) := by decide +kernel
theorem dX5_takes_204 : decode cX5_takes 204 = .ok (.aload_n 0, 1) := by decide +kernel
theorem dX5_takes_205 : decode cX5_takes 205 = .ok (.getfield 61, 3) := by decide +kernel
theorem dX5_takes_208 : decode cX5_takes 208 = .ok (.invokevirtual 127, 3) := by decide +kernel
theorem dX5_takes_211 : decode cX5_takes 211 = .ok (.iconst 1, 1) := by decide +kernel
theorem dX5_takes_212 : decode cX5_takes 212 = .ok (.ireturn, 1) := by decide +kernel
theorem dX5_takes_213 : decode cX5_takes 213 = .ok (.aload_n 0, 1) := by decide +kernel
theorem dX5_takes_214 : decode cX5_takes 214 = .ok (.aload_n 0, 1) := by decide +kernel
theorem dX5_takes_215 : decode cX5_takes 215 = .ok (.getfield 30, 3) := by decide +kernel
theorem dX5_takes_218 : decode cX5_takes 218 = .ok (.iload_n 3, 1) := by decide +kernel
theorem dX5_takes_219 : decode cX5_takes 219 = .ok (.invokevirtual 111, 3) := by decide +kernel
theorem dX5_takes_222 : decode cX5_takes 222 = .ok (.iload_n 1, 1) := by decide +kernel
theorem dX5_takes_223 : decode cX5_takes 223 = .ok (.iload_n 2, 1) := by decide +kernel
theorem dX5_takes_224 : decode cX5_takes 224 = .ok (.invokevirtual 96, 3) := by decide +kernel
theorem dX5_takes_227 : decode cX5_takes 227 = .ok (.ireturn, 1) := by decide +kernel
theorem dX5_takesOfBoth_0 : decode cX5_takesOfBoth 0 = .ok (.aload_n 0, 1) := by decide +kernel
theorem dX5_takesOfBoth_1 : decode cX5_takesOfBoth 1 = .ok (.getfield 27, 3) := by decide +kernel
theorem dX5_takesOfBoth_4 : decode cX5_takesOfBoth 4 = .ok (.aload_n 0, 1) := by decide +kernel
theorem dX5_takesOfBoth_5 : decode cX5_takesOfBoth 5 = .ok (.getfield 61, 3) := by decide +kernel
theorem dX5_takesOfBoth_8 : decode cX5_takesOfBoth 8 = .ok (.invokestatic 52, 3) := by decide +kernel
theorem dX5_takesOfBoth_11 : decode cX5_takesOfBoth 11 = .ok (.istore 4, 2) := by decide +kernel
theorem dX5_takesOfBoth_13 : decode cX5_takesOfBoth 13 = .ok (.iload 4, 2) := by decide +kernel
theorem dX5_takesOfBoth_15 : decode cX5_takesOfBoth 15 = .ok (.iconst 2, 1) := by decide +kernel
theorem dX5_takesOfBoth_16 : decode cX5_takesOfBoth 16 = .ok (.if_icmp .ge 34, 3) := by decide +kernel
theorem dX5_takesOfBoth_19 : decode cX5_takesOfBoth 19 = .ok (.aload_n 0, 1) := by decide +kernel
theorem dX5_takesOfBoth_20 : decode cX5_takesOfBoth 20 = .ok (.iload 4, 2) := by decide +kernel
theorem dX5_takesOfBoth_22 : decode cX5_takesOfBoth 22 = .ok (.ifCond .ne 14, 3) := by decide +kernel
theorem dX5_takesOfBoth_25 : decode cX5_takesOfBoth 25 = .ok (.aload_n 0, 1) := by decide +kernel
theorem dX5_takesOfBoth_26 : decode cX5_takesOfBoth 26 = .ok (.getfield 30, 3) := by decide +kernel
theorem dX5_takesOfBoth_29 : decode cX5_takesOfBoth 29 = .ok (.iload_n 1, 1) := by decide +kernel
theorem dX5_takesOfBoth_30 : decode cX5_takesOfBoth 30 = .ok (.invokevirtual 111, 3) := by decide +kernel
theorem dX5_takesOfBoth_33 : decode cX5_takesOfBoth 33 = .ok (.goto 11, 3) := by decide +kernel
theorem dX5_takesOfBoth_36 : decode cX5_takesOfBoth 36 = .ok (.aload_n 0, 1) := by decide +kernel
theorem dX5_takesOfBoth_37 : decode cX5_takesOfBoth 37 = .ok (.getfield 30, 3) := by decide +kernel
theorem dX5_takesOfBoth_40 : decode cX5_takesOfBoth 40 = .ok (.iload_n 1, 1) := by decide +kernel
theorem dX5_takesOfBoth_41 : decode cX5_takesOfBoth 41 = .ok (.invokevirtual 114, 3) := by decide +kernel
theorem dX5_takesOfBoth_44 : decode cX5_takesOfBoth 44 = .ok (.iload_n 2, 1) := by decide +kernel
theorem dX5_takesOfBoth_45 : decode cX5_takesOfBoth 45 = .ok (.iload_n 3, 1) := by decide +kernel
theorem dX5_takesOfBoth_46 : decode cX5_takesOfBoth 46 = .ok (.invokevirtual 96, 3) := by decide +kernel
theorem dX5_takesOfBoth_49 : decode cX5_takesOfBoth 49 = .ok (.ireturn, 1) := by decide +kernel
theorem dX5_takesOfBoth_50 : decode cX5_takesOfBoth 50 = .ok (.iload_n 2, 1) := by decide +kernel
theorem dX5_takesOfBoth_51 : decode cX5_takesOfBoth 51 = .ok (.bipush 41, 2) := by decide +kernel
theorem dX5_takesOfBoth_53 : decode cX5_takesOfBoth 53 = .ok (.if_icmp .eq 5, 3) := by decide +kernel
theorem dX5_takesOfBoth_56 : decode cX5_takesOfBoth 56 = .ok (.iconst 0, 1) := by decide +kernel
theorem dX5_takesOfBoth_57 : decode cX5_takesOfBoth 57 = .ok (.ireturn, 1) := by decide +kernel
theorem dX5_takesOfBoth_58 : decode cX5_takesOfBoth 58 = .ok (.aload_n 0, 1) := by decide +kernel
theorem dX5_takesOfBoth_59 : decode cX5_takesOfBoth 59 = .ok (.aload_n 0, 1) := by decide +kernel
theorem dX5_takesOfBoth_60 : decode cX5_takesOfBoth 60 = .ok (.getfield 61, 3) := by decide +kernel
theorem dX5_takesOfBoth_63 : decode cX5_takesOfBoth 63 = .ok (.invokevirtual 127, 3) := by decide +kernel
theorem dX5_takesOfBoth_66 : decode cX5_takesOfBoth 66 = .ok (.iconst 1, 1) := by decide +kernel
theorem dX5_takesOfBoth_67 : decode cX5_takesOfBoth 67 = .ok (.ireturn, 1) := by decide +kernel
theorem dX5_takesLetter_0 : decode cX5_takesLetter 0 = .ok (.iload_n 2, 1) := by decide +kernel
theorem dX5_takesLetter_1 : decode cX5_takesLetter 1 = .ok (.bipush 97, 2) := by decide +kernel
theorem dX5_takesLetter_3 : decode cX5_takesLetter 3 = .ok (.isub, 1) := by decide +kernel
theorem dX5_takesLetter_4 : decode cX5_takesLetter 4 = .ok (.istore_n 3, 1) := by decide +kernel
theorem dX5_takesLetter_5 : decode cX5_takesLetter 5 = .ok (.aload_n 0, 1) := by decide +kernel
theorem dX5_takesLetter_6 : decode cX5_takesLetter 6 = .ok (.getfield 27, 3) := by decide +kernel
theorem dX5_takesLetter_9 : decode cX5_takesLetter 9 = .ok (.aload_n 0, 1) := by decide +kernel
theorem dX5_takesLetter_10 : decode cX5_takesLetter 10 = .ok (.getfield 61, 3) := by decide +kernel
theorem dX5_takesLetter_13 : decode cX5_takesLetter 13 = .ok (.invokestatic 52, 3) := by decide +kernel
theorem dX5_takesLetter_16 : decode cX5_takesLetter 16 = .ok (.istore 4, 2) := by decide +kernel
theorem dX5_takesLetter_18 : decode cX5_takesLetter 18 = .ok (.iload_n 3, 1) := by decide +kernel
theorem dX5_takesLetter_19 : decode cX5_takesLetter 19 = .ok (.ifCond .lt 17, 3) := by decide +kernel
theorem dX5_takesLetter_22 : decode cX5_takesLetter 22 = .ok (.iload_n 3, 1) := by decide +kernel
theorem dX5_takesLetter_23 : decode cX5_takesLetter 23 = .ok (.iload_n 1, 1) := by decide +kernel
theorem dX5_takesLetter_24 : decode cX5_takesLetter 24 = .ok (.if_icmp .ge 12, 3) := by decide +kernel
theorem dX5_takesLetter_27 : decode cX5_takesLetter 27 = .ok (.iload 4, 2) := by decide +kernel
theorem dX5_takesLetter_29 : decode cX5_takesLetter 29 = .ok (.iload_n 3, 1) := by decide +kernel
theorem dX5_takesLetter_30 : decode cX5_takesLetter 30 = .ok (.ishr, 1) := by decide +kernel
theorem dX5_takesLetter_31 : decode cX5_takesLetter 31 = .ok (.iconst 1, 1) := by decide +kernel
theorem dX5_takesLetter_32 : decode cX5_takesLetter 32 = .ok (.iand, 1) := by decide +kernel
theorem dX5_takesLetter_33 : decode cX5_takesLetter 33 = .ok (.ifCond .eq 5, 3) := by decide +kernel
theorem dX5_takesLetter_36 : decode cX5_takesLetter 36 = .ok (.iconst 0, 1) := by decide +kernel
theorem dX5_takesLetter_37 : decode cX5_takesLetter 37 = .ok (.ireturn, 1) := by decide +kernel
theorem dX5_takesLetter_38 : decode cX5_takesLetter 38 = .ok (.iload 4, 2) := by decide +kernel
theorem dX5_takesLetter_40 : decode cX5_takesLetter 40 = .ok (.iconst 1, 1) := by decide +kernel
theorem dX5_takesLetter_41 : decode cX5_takesLetter 41 = .ok (.iload_n 3, 1) := by decide +kernel
theorem dX5_takesLetter_42 : decode cX5_takesLetter 42 = .ok (.ishl, 1) := by decide +kernel
theorem dX5_takesLetter_43 : decode cX5_takesLetter 43 = .ok (.ior, 1) := by decide +kernel
theorem dX5_takesLetter_44 : decode cX5_takesLetter 44 = .ok (.istore 4, 2) := by decide +kernel
theorem dX5_takesLetter_46 : decode cX5_takesLetter 46 = .ok (.aload_n 0, 1) := by decide +kernel
theorem dX5_takesLetter_47 : decode cX5_takesLetter 47 = .ok (.getfield 27, 3) := by decide +kernel
theorem dX5_takesLetter_50 : decode cX5_takesLetter 50 = .ok (.aload_n 0, 1) := by decide +kernel
theorem dX5_takesLetter_51 : decode cX5_takesLetter 51 = .ok (.getfield 61, 3) := by decide +kernel
theorem dX5_takesLetter_54 : decode cX5_takesLetter 54 = .ok (.iload 4, 2) := by decide +kernel
theorem dX5_takesLetter_56 : decode cX5_takesLetter 56 = .ok (.invokestatic 64, 3) := by decide +kernel
theorem dX5_takesLetter_59 : decode cX5_takesLetter 59 = .ok (.iload 4, 2) := by decide +kernel
theorem dX5_takesLetter_61 : decode cX5_takesLetter 61 = .ok (.invokestatic 131, 3) := by decide +kernel
theorem dX5_takesLetter_64 : decode cX5_takesLetter 64 = .ok (.iload_n 1, 1) := by decide +kernel
theorem dX5_takesLetter_65 : decode cX5_takesLetter 65 = .ok (.if_icmp .ne 11, 3) := by decide +kernel
theorem dX5_takesLetter_68 : decode cX5_takesLetter 68 = .ok (.aload_n 0, 1) := by decide +kernel
theorem dX5_takesLetter_69 : decode cX5_takesLetter 69 = .ok (.aload_n 0, 1) := by decide +kernel
theorem dX5_takesLetter_70 : decode cX5_takesLetter 70 = .ok (.getfield 61, 3) := by decide +kernel
theorem dX5_takesLetter_73 : decode cX5_takesLetter 73 = .ok (.invokevirtual 127, 3) := by decide +kernel
theorem dX5_takesLetter_76 : decode cX5_takesLetter 76 = .ok (.iconst 1, 1) := by decide +kernel
theorem dX5_takesLetter_77 : decode cX5_takesLetter 77 = .ok (.ireturn, 1) := by decide +kernel
theorem dX5_begins_0 : decode cX5_begins 0 = .ok (.aload_n 0, 1) := by decide +kernel
theorem dX5_begins_1 : decode cX5_begins 1 = .ok (.getfield 30, 3) := by decide +kernel
theorem dX5_begins_4 : decode cX5_begins 4 = .ok (.iload_n 1, 1) := by decide +kernel
theorem dX5_begins_5 : decode cX5_begins 5 = .ok (.invokevirtual 103, 3) := by decide +kernel
theorem dX5_begins_8 : decode cX5_begins 8 = .ok (.istore 4, 2) := by decide +kernel
theorem dX5_begins_10 : decode cX5_begins 10 = .ok (.aload_n 0, 1) := by decide +kernel
theorem dX5_begins_11 : decode cX5_begins 11 = .ok (.getfield 45, 3) := by decide +kernel
theorem dX5_begins_14 : decode cX5_begins 14 = .ok (.sipush 300, 3) := by decide +kernel
theorem dX5_begins_17 : decode cX5_begins 17 = .ok (.if_icmp .ge 14, 3) := by decide +kernel
theorem dX5_begins_20 : decode cX5_begins 20 = .ok (.aload_n 0, 1) := by decide +kernel
theorem dX5_begins_21 : decode cX5_begins 21 = .ok (.iload_n 1, 1) := by decide +kernel
theorem dX5_begins_22 : decode cX5_begins 22 = .ok (.iload 4, 2) := by decide +kernel
theorem dX5_begins_24 : decode cX5_begins 24 = .ok (.iload_n 2, 1) := by decide +kernel
theorem dX5_begins_25 : decode cX5_begins 25 = .ok (.invokevirtual 136, 3) := by decide +kernel
theorem dX5_begins_28 : decode cX5_begins 28 = .ok (.ifCond .ne 5, 3) := by decide +kernel
theorem dX5_begins_31 : decode cX5_begins 31 = .ok (.iconst 0, 1) := by decide +kernel
theorem dX5_begins_32 : decode cX5_begins 32 = .ok (.ireturn, 1) := by decide +kernel
theorem dX5_begins_33 : decode cX5_begins 33 = .ok (.aload_n 0, 1) := by decide +kernel
theorem dX5_begins_34 : decode cX5_begins 34 = .ok (.getfield 45, 3) := by decide +kernel
theorem dX5_begins_37 : decode cX5_begins 37 = .ok (.istore 5, 2) := by decide +kernel
theorem dX5_begins_39 : decode cX5_begins 39 = .ok (.aload_n 0, 1) := by decide +kernel
theorem dX5_begins_40 : decode cX5_begins 40 = .ok (.dup, 1) := by decide +kernel
theorem dX5_begins_41 : decode cX5_begins 41 = .ok (.getfield 45, 3) := by decide +kernel
theorem dX5_begins_44 : decode cX5_begins 44 = .ok (.iconst 1, 1) := by decide +kernel
theorem dX5_begins_45 : decode cX5_begins 45 = .ok (.iadd, 1) := by decide +kernel
theorem dX5_begins_46 : decode cX5_begins 46 = .ok (.putfield 45, 3) := by decide +kernel
theorem dX5_begins_49 : decode cX5_begins 49 = .ok (.iload 4, 2) := by decide +kernel
theorem dX5_begins_51 : decode cX5_begins 51 = .ok (.ifCond .eq 10, 3) := by decide +kernel
theorem dX5_begins_54 : decode cX5_begins 54 = .ok (.iload 4, 2) := by decide +kernel
theorem dX5_begins_56 : decode cX5_begins 56 = .ok (.bipush 8, 2) := by decide +kernel
theorem dX5_begins_58 : decode cX5_begins 58 = .ok (.if_icmp .ne 7, 3) := by decide +kernel
theorem dX5_begins_61 : decode cX5_begins 61 = .ok (.iconst 1, 1) := by decide +kernel
theorem dX5_begins_62 : decode cX5_begins 62 = .ok (.goto 4, 3) := by decide +kernel
theorem dX5_begins_65 : decode cX5_begins 65 = .ok (.iconst 0, 1) := by decide +kernel
theorem dX5_begins_66 : decode cX5_begins 66 = .ok (.istore 6, 2) := by decide +kernel
theorem dX5_begins_68 : decode cX5_begins 68 = .ok (.aload_n 0, 1) := by decide +kernel
theorem dX5_begins_69 : decode cX5_begins 69 = .ok (.getfield 9, 3) := by decide +kernel
theorem dX5_begins_72 : decode cX5_begins 72 = .ok (.iload 5, 2) := by decide +kernel
theorem dX5_begins_74 : decode cX5_begins 74 = .ok (.iload_n 1, 1) := by decide +kernel
theorem dX5_begins_75 : decode cX5_begins 75 = .ok (.invokestatic 64, 3) := by decide +kernel
theorem dX5_begins_78 : decode cX5_begins 78 = .ok (.aload_n 0, 1) := by decide +kernel
theorem dX5_begins_79 : decode cX5_begins 79 = .ok (.getfield 15, 3) := by decide +kernel
theorem dX5_begins_82 : decode cX5_begins 82 = .ok (.iload 5, 2) := by decide +kernel
theorem dX5_begins_84 : decode cX5_begins 84 = .ok (.iload_n 3, 1) := by decide +kernel
theorem dX5_begins_85 : decode cX5_begins 85 = .ok (.invokestatic 64, 3) := by decide +kernel
theorem dX5_begins_88 : decode cX5_begins 88 = .ok (.aload_n 0, 1) := by decide +kernel
theorem dX5_begins_89 : decode cX5_begins 89 = .ok (.getfield 18, 3) := by decide +kernel
theorem dX5_begins_92 : decode cX5_begins 92 = .ok (.iload 5, 2) := by decide +kernel
theorem dX5_begins_94 : decode cX5_begins 94 = .ok (.aload_n 0, 1) := by decide +kernel
theorem dX5_begins_95 : decode cX5_begins 95 = .ok (.getfield 61, 3) := by decide +kernel
theorem dX5_begins_98 : decode cX5_begins 98 = .ok (.invokestatic 64, 3) := by decide +kernel
theorem dX5_begins_101 : decode cX5_begins 101 = .ok (.aload_n 0, 1) := by decide +kernel
theorem dX5_begins_102 : decode cX5_begins 102 = .ok (.getfield 21, 3) := by decide +kernel
theorem dX5_begins_105 : decode cX5_begins 105 = .ok (.iload 5, 2) := by decide +kernel
theorem dX5_begins_107 : decode cX5_begins 107 = .ok (.iload 6, 2) := by decide +kernel
theorem dX5_begins_109 : decode cX5_begins 109 = .ok (.ifCond .eq 14, 3) := by decide +kernel
theorem dX5_begins_112 : decode cX5_begins 112 = .ok (.aload_n 0, 1) := by decide +kernel
theorem dX5_begins_113 : decode cX5_begins 113 = .ok (.getfield 30, 3) := by decide +kernel
theorem dX5_begins_116 : decode cX5_begins 116 = .ok (.iload_n 1, 1) := by decide +kernel
theorem dX5_begins_117 : decode cX5_begins 117 = .ok (.invokevirtual 111, 3) := by decide +kernel
theorem dX5_begins_120 : decode cX5_begins 120 = .ok (.goto 4, 3) := by decide +kernel
theorem dX5_begins_123 : decode cX5_begins 123 = .ok (.iconst 0, 1) := by decide +kernel
theorem dX5_begins_124 : decode cX5_begins 124 = .ok (.invokestatic 64, 3) := by decide +kernel
theorem dX5_begins_127 : decode cX5_begins 127 = .ok (.aload_n 0, 1) := by decide +kernel
theorem dX5_begins_128 : decode cX5_begins 128 = .ok (.getfield 24, 3) := by decide +kernel
theorem dX5_begins_131 : decode cX5_begins 131 = .ok (.iload 5, 2) := by decide +kernel
theorem dX5_begins_133 : decode cX5_begins 133 = .ok (.iload 5, 2) := by decide +kernel
theorem dX5_begins_135 : decode cX5_begins 135 = .ok (.iconst 1, 1) := by decide +kernel
theorem dX5_begins_136 : decode cX5_begins 136 = .ok (.iadd, 1) := by decide +kernel
theorem dX5_begins_137 : decode cX5_begins 137 = .ok (.invokestatic 64, 3) := by decide +kernel
theorem dX5_begins_140 : decode cX5_begins 140 = .ok (.aload_n 0, 1) := by decide +kernel
theorem dX5_begins_141 : decode cX5_begins 141 = .ok (.getfield 27, 3) := by decide +kernel
theorem dX5_begins_144 : decode cX5_begins 144 = .ok (.iload 5, 2) := by decide +kernel
theorem dX5_begins_146 : decode cX5_begins 146 = .ok (.iconst 0, 1) := by decide +kernel
theorem dX5_begins_147 : decode cX5_begins 147 = .ok (.invokestatic 64, 3) := by decide +kernel
theorem dX5_begins_150 : decode cX5_begins 150 = .ok (.iload 4, 2) := by decide +kernel
theorem dX5_begins_152 : decode cX5_begins 152 = .ok (.ifCond .eq 9, 3) := by decide +kernel
theorem dX5_begins_155 : decode cX5_begins 155 = .ok (.iload 4, 2) := by decide +kernel
theorem dX5_begins_157 : decode cX5_begins 157 = .ok (.iconst 1, 1) := by decide +kernel
theorem dX5_begins_158 : decode cX5_begins 158 = .ok (.if_icmp .ne 12, 3) := by decide +kernel
theorem dX5_begins_161 : decode cX5_begins 161 = .ok (.aload_n 0, 1) := by decide +kernel
theorem dX5_begins_162 : decode cX5_begins 162 = .ok (.iload 5, 2) := by decide +kernel
theorem dX5_begins_164 : decode cX5_begins 164 = .ok (.invokevirtual 127, 3) := by decide +kernel
theorem dX5_begins_167 : decode cX5_begins 167 = .ok (.goto 9, 3) := by decide +kernel
theorem dX5_begins_170 : decode cX5_begins 170 = .ok (.aload_n 0, 1) := by decide +kernel
theorem dX5_begins_171 : decode cX5_begins 171 = .ok (.iload 5, 2) := by decide +kernel
theorem dX5_begins_173 : decode cX5_begins 173 = .ok (.putfield 61, 3) := by decide +kernel
theorem dX5_begins_176 : decode cX5_begins 176 = .ok (.iconst 1, 1) := by decide +kernel
theorem dX5_begins_177 : decode cX5_begins 177 = .ok (.ireturn, 1) := by decide +kernel
theorem dX5_opens_0 : decode cX5_opens 0 = .ok (.iload_n 2, 1) := by decide +kernel
theorem dX5_opens_1 : decode cX5_opens 1 = .ok (.ifCond .ne 24, 3) := by decide +kernel
theorem dX5_opens_4 : decode cX5_opens 4 = .ok (.iload_n 3, 1) := by decide +kernel
theorem dX5_opens_5 : decode cX5_opens 5 = .ok (.bipush 97, 2) := by decide +kernel
theorem dX5_opens_7 : decode cX5_opens 7 = .ok (.aload_n 0, 1) := by decide +kernel
theorem dX5_opens_8 : decode cX5_opens 8 = .ok (.getfield 30, 3) := by decide +kernel
theorem dX5_opens_11 : decode cX5_opens 11 = .ok (.iload_n 1, 1) := by decide +kernel
theorem dX5_opens_12 : decode cX5_opens 12 = .ok (.invokevirtual 114, 3) := by decide +kernel
theorem dX5_opens_15 : decode cX5_opens 15 = .ok (.iadd, 1) := by decide +kernel
theorem dX5_opens_16 : decode cX5_opens 16 = .ok (.if_icmp .ne 7, 3) := by decide +kernel
theorem dX5_opens_19 : decode cX5_opens 19 = .ok (.iconst 1, 1) := by decide +kernel
theorem dX5_opens_20 : decode cX5_opens 20 = .ok (.goto 4, 3) := by decide +kernel
theorem dX5_opens_23 : decode cX5_opens 23 = .ok (.iconst 0, 1) := by decide +kernel
theorem dX5_opens_24 : decode cX5_opens 24 = .ok (.ireturn, 1) := by decide +kernel
theorem dX5_opens_25 : decode cX5_opens 25 = .ok (.iload_n 2, 1) := by decide +kernel
theorem dX5_opens_26 : decode cX5_opens 26 = .ok (.iconst 3, 1) := by decide +kernel
theorem dX5_opens_27 : decode cX5_opens 27 = .ok (.if_icmp .ne 21, 3) := by decide +kernel
theorem dX5_opens_30 : decode cX5_opens 30 = .ok (.iload_n 3, 1) := by decide +kernel
theorem dX5_opens_31 : decode cX5_opens 31 = .ok (.bipush 49, 2) := by decide +kernel
theorem dX5_opens_33 : decode cX5_opens 33 = .ok (.if_icmp .eq 9, 3) := by decide +kernel
theorem dX5_opens_36 : decode cX5_opens 36 = .ok (.iload_n 3, 1) := by decide +kernel
theorem dX5_opens_37 : decode cX5_opens 37 = .ok (.bipush 50, 2) := by decide +kernel
theorem dX5_opens_39 : decode cX5_opens 39 = .ok (.if_icmp .ne 7, 3) := by decide +kernel
theorem dX5_opens_42 : decode cX5_opens 42 = .ok (.iconst 1, 1) := by decide +kernel
theorem dX5_opens_43 : decode cX5_opens 43 = .ok (.goto 4, 3) := by decide +kernel
theorem dX5_opens_46 : decode cX5_opens 46 = .ok (.iconst 0, 1) := by decide +kernel
theorem dX5_opens_47 : decode cX5_opens 47 = .ok (.ireturn, 1) := by decide +kernel
theorem dX5_opens_48 : decode cX5_opens 48 = .ok (.iload_n 3, 1) := by decide +kernel
theorem dX5_opens_49 : decode cX5_opens 49 = .ok (.getstatic 139, 3) := by decide +kernel
theorem dX5_opens_52 : decode cX5_opens 52 = .ok (.iload_n 2, 1) := by decide +kernel
theorem dX5_opens_53 : decode cX5_opens 53 = .ok (.invokestatic 124, 3) := by decide +kernel
theorem dX5_opens_56 : decode cX5_opens 56 = .ok (.if_icmp .ne 7, 3) := by decide +kernel
theorem dX5_opens_59 : decode cX5_opens 59 = .ok (.iconst 1, 1) := by decide +kernel
theorem dX5_opens_60 : decode cX5_opens 60 = .ok (.goto 4, 3) := by decide +kernel
theorem dX5_opens_63 : decode cX5_opens 63 = .ok (.iconst 0, 1) := by decide +kernel
theorem dX5_opens_64 : decode cX5_opens 64 = .ok (.ireturn, 1) := by decide +kernel
theorem dX5_finish_0 : decode cX5_finish 0 = .ok (.aload_n 0, 1) := by decide +kernel
theorem dX5_finish_1 : decode cX5_finish 1 = .ok (.iload_n 1, 1) := by decide +kernel
theorem dX5_finish_2 : decode cX5_finish 2 = .ok (.invokevirtual 142, 3) := by decide +kernel
theorem dX5_finish_5 : decode cX5_finish 5 = .ok (.istore_n 2, 1) := by decide +kernel
theorem dX5_finish_6 : decode cX5_finish 6 = .ok (.iconst 0, 1) := by decide +kernel
theorem dX5_finish_7 : decode cX5_finish 7 = .ok (.istore_n 3, 1) := by decide +kernel
theorem dX5_finish_8 : decode cX5_finish 8 = .ok (.iload_n 3, 1) := by decide +kernel
theorem dX5_finish_9 : decode cX5_finish 9 = .ok (.sipush 300, 3) := by decide +kernel
theorem dX5_finish_12 : decode cX5_finish 12 = .ok (.if_icmp .ge 50, 3) := by decide +kernel
theorem dX5_finish_15 : decode cX5_finish 15 = .ok (.iload_n 2, 1) := by decide +kernel
theorem dX5_finish_16 : decode cX5_finish 16 = .ok (.iconst (-1), 1) := by decide +kernel
theorem dX5_finish_17 : decode cX5_finish 17 = .ok (.if_icmp .eq 45, 3) := by decide +kernel
theorem dX5_finish_20 : decode cX5_finish 20 = .ok (.aload_n 0, 1) := by decide +kernel
theorem dX5_finish_21 : decode cX5_finish 21 = .ok (.getfield 30, 3) := by decide +kernel
theorem dX5_finish_24 : decode cX5_finish 24 = .ok (.aload_n 0, 1) := by decide +kernel
theorem dX5_finish_25 : decode cX5_finish 25 = .ok (.iload_n 2, 1) := by decide +kernel
theorem dX5_finish_26 : decode cX5_finish 26 = .ok (.invokevirtual 100, 3) := by decide +kernel
theorem dX5_finish_29 : decode cX5_finish 29 = .ok (.invokevirtual 103, 3) := by decide +kernel
theorem dX5_finish_32 : decode cX5_finish 32 = .ok (.istore 4, 2) := by decide +kernel
theorem dX5_finish_34 : decode cX5_finish 34 = .ok (.iload 4, 2) := by decide +kernel
theorem dX5_finish_36 : decode cX5_finish 36 = .ok (.iconst 3, 1) := by decide +kernel
theorem dX5_finish_37 : decode cX5_finish 37 = .ok (.if_icmp .eq 13, 3) := by decide +kernel
theorem dX5_finish_40 : decode cX5_finish 40 = .ok (.iload 4, 2) := by decide +kernel
theorem dX5_finish_42 : decode cX5_finish 42 = .ok (.bipush 7, 2) := by decide +kernel
theorem dX5_finish_44 : decode cX5_finish 44 = .ok (.if_icmp .eq 6, 3) := by decide +kernel
theorem dX5_finish_47 : decode cX5_finish 47 = .ok (.goto 15, 3) := by decide +kernel
theorem dX5_finish_50 : decode cX5_finish 50 = .ok (.aload_n 0, 1) := by decide +kernel
theorem dX5_finish_51 : decode cX5_finish 51 = .ok (.iload_n 2, 1) := by decide +kernel
theorem dX5_finish_52 : decode cX5_finish 52 = .ok (.invokevirtual 142, 3) := by decide +kernel
theorem dX5_finish_55 : decode cX5_finish 55 = .ok (.istore_n 2, 1) := by decide +kernel
theorem dX5_finish_56 : decode cX5_finish 56 = .ok (.iinc 3 1, 3) := by decide +kernel
theorem dX5_finish_59 : decode cX5_finish 59 = .ok (.goto (-51), 3) := by decide +kernel
theorem dX5_finish_62 : decode cX5_finish 62 = .ok (.iload_n 2, 1) := by decide +kernel
theorem dX5_finish_63 : decode cX5_finish 63 = .ok (.iconst (-1), 1) := by decide +kernel
theorem dX5_finish_64 : decode cX5_finish 64 = .ok (.if_icmp .eq 21, 3) := by decide +kernel
theorem dX5_finish_67 : decode cX5_finish 67 = .ok (.aload_n 0, 1) := by decide +kernel
theorem dX5_finish_68 : decode cX5_finish 68 = .ok (.getfield 27, 3) := by decide +kernel
theorem dX5_finish_71 : decode cX5_finish 71 = .ok (.iload_n 2, 1) := by decide +kernel
theorem dX5_finish_72 : decode cX5_finish 72 = .ok (.aload_n 0, 1) := by decide +kernel
theorem dX5_finish_73 : decode cX5_finish 73 = .ok (.getfield 27, 3) := by decide +kernel
theorem dX5_finish_76 : decode cX5_finish 76 = .ok (.iload_n 2, 1) := by decide +kernel
theorem dX5_finish_77 : decode cX5_finish 77 = .ok (.invokestatic 52, 3) := by decide +kernel
theorem dX5_finish_80 : decode cX5_finish 80 = .ok (.iconst 1, 1) := by decide +kernel
theorem dX5_finish_81 : decode cX5_finish 81 = .ok (.iadd, 1) := by decide +kernel
theorem dX5_finish_82 : decode cX5_finish 82 = .ok (.invokestatic 64, 3) := by decide +kernel
theorem dX5_finish_85 : decode cX5_finish 85 = .ok (.aload_n 0, 1) := by decide +kernel
theorem dX5_finish_86 : decode cX5_finish 86 = .ok (.iload_n 2, 1) := by decide +kernel
theorem dX5_finish_87 : decode cX5_finish 87 = .ok (.putfield 61, 3) := by decide +kernel
theorem dX5_finish_90 : decode cX5_finish 90 = .ok (.return_, 1) := by decide +kernel
theorem dX5_sumUp_0 : decode cX5_sumUp 0 = .ok (.aload_n 0, 1) := by decide +kernel
theorem dX5_sumUp_1 : decode cX5_sumUp 1 = .ok (.getfield 45, 3) := by decide +kernel
theorem dX5_sumUp_4 : decode cX5_sumUp 4 = .ok (.iconst 1, 1) := by decide +kernel
theorem dX5_sumUp_5 : decode cX5_sumUp 5 = .ok (.isub, 1) := by decide +kernel
theorem dX5_sumUp_6 : decode cX5_sumUp 6 = .ok (.istore_n 1, 1) := by decide +kernel
theorem dX5_sumUp_7 : decode cX5_sumUp 7 = .ok (.iload_n 1, 1) := by decide +kernel
theorem dX5_sumUp_8 : decode cX5_sumUp 8 = .ok (.ifCond .le 55, 3) := by decide +kernel
theorem dX5_sumUp_11 : decode cX5_sumUp 11 = .ok (.aload_n 0, 1) := by decide +kernel
theorem dX5_sumUp_12 : decode cX5_sumUp 12 = .ok (.iload_n 1, 1) := by decide +kernel
theorem dX5_sumUp_13 : decode cX5_sumUp 13 = .ok (.invokevirtual 142, 3) := by decide +kernel
theorem dX5_sumUp_16 : decode cX5_sumUp 16 = .ok (.istore_n 2, 1) := by decide +kernel
theorem dX5_sumUp_17 : decode cX5_sumUp 17 = .ok (.aload_n 0, 1) := by decide +kernel
theorem dX5_sumUp_18 : decode cX5_sumUp 18 = .ok (.getfield 21, 3) := by decide +kernel
theorem dX5_sumUp_21 : decode cX5_sumUp 21 = .ok (.iload_n 2, 1) := by decide +kernel
theorem dX5_sumUp_22 : decode cX5_sumUp 22 = .ok (.aload_n 0, 1) := by decide +kernel
theorem dX5_sumUp_23 : decode cX5_sumUp 23 = .ok (.iload_n 2, 1) := by decide +kernel
theorem dX5_sumUp_24 : decode cX5_sumUp 24 = .ok (.invokevirtual 48, 3) := by decide +kernel
theorem dX5_sumUp_27 : decode cX5_sumUp 27 = .ok (.aload_n 0, 1) := by decide +kernel
theorem dX5_sumUp_28 : decode cX5_sumUp 28 = .ok (.iload_n 1, 1) := by decide +kernel
theorem dX5_sumUp_29 : decode cX5_sumUp 29 = .ok (.invokevirtual 48, 3) := by decide +kernel
theorem dX5_sumUp_32 : decode cX5_sumUp 32 = .ok (.iadd, 1) := by decide +kernel
theorem dX5_sumUp_33 : decode cX5_sumUp 33 = .ok (.invokestatic 64, 3) := by decide +kernel
theorem dX5_sumUp_36 : decode cX5_sumUp 36 = .ok (.aload_n 0, 1) := by decide +kernel
theorem dX5_sumUp_37 : decode cX5_sumUp 37 = .ok (.getfield 24, 3) := by decide +kernel
theorem dX5_sumUp_40 : decode cX5_sumUp 40 = .ok (.iload_n 2, 1) := by decide +kernel
theorem dX5_sumUp_41 : decode cX5_sumUp 41 = .ok (.aload_n 0, 1) := by decide +kernel
theorem dX5_sumUp_42 : decode cX5_sumUp 42 = .ok (.iload_n 2, 1) := by decide +kernel
theorem dX5_sumUp_43 : decode cX5_sumUp 43 = .ok (.invokevirtual 145, 3) := by decide +kernel
theorem dX5_sumUp_46 : decode cX5_sumUp 46 = .ok (.aload_n 0, 1) := by decide +kernel
theorem dX5_sumUp_47 : decode cX5_sumUp 47 = .ok (.iload_n 1, 1) := by decide +kernel
theorem dX5_sumUp_48 : decode cX5_sumUp 48 = .ok (.invokevirtual 145, 3) := by decide +kernel
theorem dX5_sumUp_51 : decode cX5_sumUp 51 = .ok (.invokestatic 148, 3) := by decide +kernel
theorem dX5_sumUp_54 : decode cX5_sumUp 54 = .ok (.invokestatic 64, 3) := by decide +kernel
theorem dX5_sumUp_57 : decode cX5_sumUp 57 = .ok (.iinc 1 (-1), 3) := by decide +kernel
theorem dX5_sumUp_60 : decode cX5_sumUp 60 = .ok (.goto (-53), 3) := by decide +kernel
theorem dX5_sumUp_63 : decode cX5_sumUp 63 = .ok (.return_, 1) := by decide +kernel
theorem dX5_firstBrokenCut_0 : decode cX5_firstBrokenCut 0 = .ok (.iconst 0, 1) := by decide +kernel
theorem dX5_firstBrokenCut_1 : decode cX5_firstBrokenCut 1 = .ok (.istore_n 1, 1) := by decide +kernel
theorem dX5_firstBrokenCut_2 : decode cX5_firstBrokenCut 2 = .ok (.iload_n 1, 1) := by decide +kernel
theorem dX5_firstBrokenCut_3 : decode cX5_firstBrokenCut 3 = .ok (.aload_n 0, 1) := by decide +kernel
theorem dX5_firstBrokenCut_4 : decode cX5_firstBrokenCut 4 = .ok (.getfield 45, 3) := by decide +kernel
theorem dX5_firstBrokenCut_7 : decode cX5_firstBrokenCut 7 = .ok (.if_icmp .ge 60, 3) := by decide +kernel
theorem dX5_firstBrokenCut_10 : decode cX5_firstBrokenCut 10 = .ok (.aload_n 0, 1) := by decide +kernel
theorem dX5_firstBrokenCut_11 : decode cX5_firstBrokenCut 11 = .ok (.iload_n 1, 1) := by decide +kernel
theorem dX5_firstBrokenCut_12 : decode cX5_firstBrokenCut 12 = .ok (.invokevirtual 100, 3) := by decide +kernel
theorem dX5_firstBrokenCut_15 : decode cX5_firstBrokenCut 15 = .ok (.istore_n 2, 1) := by decide +kernel
theorem dX5_firstBrokenCut_16 : decode cX5_firstBrokenCut 16 = .ok (.aload_n 0, 1) := by decide +kernel
theorem dX5_firstBrokenCut_17 : decode cX5_firstBrokenCut 17 = .ok (.iload_n 1, 1) := by decide +kernel
theorem dX5_firstBrokenCut_18 : decode cX5_firstBrokenCut 18 = .ok (.invokevirtual 48, 3) := by decide +kernel
theorem dX5_firstBrokenCut_21 : decode cX5_firstBrokenCut 21 = .ok (.istore_n 3, 1) := by decide +kernel
theorem dX5_firstBrokenCut_22 : decode cX5_firstBrokenCut 22 = .ok (.aload_n 0, 1) := by decide +kernel
theorem dX5_firstBrokenCut_23 : decode cX5_firstBrokenCut 23 = .ok (.getfield 30, 3) := by decide +kernel
theorem dX5_firstBrokenCut_26 : decode cX5_firstBrokenCut 26 = .ok (.iload_n 2, 1) := by decide +kernel
theorem dX5_firstBrokenCut_27 : decode cX5_firstBrokenCut 27 = .ok (.invokevirtual 103, 3) := by decide +kernel
theorem dX5_firstBrokenCut_30 : decode cX5_firstBrokenCut 30 = .ok (.bipush 7, 2) := by decide +kernel
theorem dX5_firstBrokenCut_32 : decode cX5_firstBrokenCut 32 = .ok (.if_icmp .ne 29, 3) := by decide +kernel
theorem dX5_firstBrokenCut_35 : decode cX5_firstBrokenCut 35 = .ok (.iload_n 3, 1) := by decide +kernel
theorem dX5_firstBrokenCut_36 : decode cX5_firstBrokenCut 36 = .ok (.aload_n 0, 1) := by decide +kernel
theorem dX5_firstBrokenCut_37 : decode cX5_firstBrokenCut 37 = .ok (.getfield 30, 3) := by decide +kernel
theorem dX5_firstBrokenCut_40 : decode cX5_firstBrokenCut 40 = .ok (.iload_n 2, 1) := by decide +kernel
theorem dX5_firstBrokenCut_41 : decode cX5_firstBrokenCut 41 = .ok (.invokevirtual 154, 3) := by decide +kernel
theorem dX5_firstBrokenCut_44 : decode cX5_firstBrokenCut 44 = .ok (.if_icmp .lt 15, 3) := by decide +kernel
theorem dX5_firstBrokenCut_47 : decode cX5_firstBrokenCut 47 = .ok (.iload_n 3, 1) := by decide +kernel
theorem dX5_firstBrokenCut_48 : decode cX5_firstBrokenCut 48 = .ok (.aload_n 0, 1) := by decide +kernel
theorem dX5_firstBrokenCut_49 : decode cX5_firstBrokenCut 49 = .ok (.getfield 30, 3) := by decide +kernel
theorem dX5_firstBrokenCut_52 : decode cX5_firstBrokenCut 52 = .ok (.iload_n 2, 1) := by decide +kernel
theorem dX5_firstBrokenCut_53 : decode cX5_firstBrokenCut 53 = .ok (.invokevirtual 157, 3) := by decide +kernel
theorem dX5_firstBrokenCut_56 : decode cX5_firstBrokenCut 56 = .ok (.if_icmp .le 5, 3) := by decide +kernel
theorem dX5_firstBrokenCut_59 : decode cX5_firstBrokenCut 59 = .ok (.iload_n 1, 1) := by decide +kernel
theorem dX5_firstBrokenCut_60 : decode cX5_firstBrokenCut 60 = .ok (.ireturn, 1) := by decide +kernel
theorem dX5_firstBrokenCut_61 : decode cX5_firstBrokenCut 61 = .ok (.iinc 1 1, 3) := by decide +kernel
theorem dX5_firstBrokenCut_64 : decode cX5_firstBrokenCut 64 = .ok (.goto (-62), 3) := by decide +kernel
theorem dX5_firstBrokenCut_67 : decode cX5_firstBrokenCut 67 = .ok (.iconst (-1), 1) := by decide +kernel
theorem dX5_firstBrokenCut_68 : decode cX5_firstBrokenCut 68 = .ok (.ireturn, 1) := by decide +kernel
theorem dX6_at_0 : decode cX6_at 0 = .ok (.iload_n 1, 1) := by decide +kernel
theorem dX6_at_1 : decode cX6_at 1 = .ok (.ifCond .lt 15, 3) := by decide +kernel
theorem dX6_at_4 : decode cX6_at 4 = .ok (.iload_n 1, 1) := by decide +kernel
theorem dX6_at_5 : decode cX6_at 5 = .ok (.aload_n 0, 1) := by decide +kernel
theorem dX6_at_6 : decode cX6_at 6 = .ok (.arraylength, 1) := by decide +kernel
theorem dX6_at_7 : decode cX6_at 7 = .ok (.if_icmp .ge 9, 3) := by decide +kernel
theorem dX6_at_10 : decode cX6_at 10 = .ok (.aload_n 0, 1) := by decide +kernel
theorem dX6_at_11 : decode cX6_at 11 = .ok (.iload_n 1, 1) := by decide +kernel
theorem dX6_at_12 : decode cX6_at 12 = .ok (.iaload, 1) := by decide +kernel
theorem dX6_at_13 : decode cX6_at 13 = .ok (.goto 4, 3) := by decide +kernel
theorem dX6_at_16 : decode cX6_at 16 = .ok (.iconst 0, 1) := by decide +kernel
theorem dX6_at_17 : decode cX6_at 17 = .ok (.ireturn, 1) := by decide +kernel
theorem dX6_at__0 : decode cX6_at_ 0 = .ok (.iload_n 1, 1) := by decide +kernel
theorem dX6_at__1 : decode cX6_at_ 1 = .ok (.ifCond .lt 15, 3) := by decide +kernel
theorem dX6_at__4 : decode cX6_at_ 4 = .ok (.iload_n 1, 1) := by decide +kernel
theorem dX6_at__5 : decode cX6_at_ 5 = .ok (.aload_n 0, 1) := by decide +kernel
theorem dX6_at__6 : decode cX6_at_ 6 = .ok (.arraylength, 1) := by decide +kernel
theorem dX6_at__7 : decode cX6_at_ 7 = .ok (.if_icmp .ge 9, 3) := by decide +kernel
theorem dX6_at__10 : decode cX6_at_ 10 = .ok (.aload_n 0, 1) := by decide +kernel
theorem dX6_at__11 : decode cX6_at_ 11 = .ok (.iload_n 1, 1) := by decide +kernel
theorem dX6_at__12 : decode cX6_at_ 12 = .ok (.laload, 1) := by decide +kernel
theorem dX6_at__13 : decode cX6_at_ 13 = .ok (.goto 4, 3) := by decide +kernel
theorem dX6_at__16 : decode cX6_at_ 16 = .ok (.lconst 0, 1) := by decide +kernel
theorem dX6_at__17 : decode cX6_at_ 17 = .ok (.lreturn, 1) := by decide +kernel
theorem dX6_at___0 : decode cX6_at__ 0 = .ok (.iload_n 1, 1) := by decide +kernel
theorem dX6_at___1 : decode cX6_at__ 1 = .ok (.ifCond .lt 15, 3) := by decide +kernel
theorem dX6_at___4 : decode cX6_at__ 4 = .ok (.iload_n 1, 1) := by decide +kernel
theorem dX6_at___5 : decode cX6_at__ 5 = .ok (.aload_n 0, 1) := by decide +kernel
theorem dX6_at___6 : decode cX6_at__ 6 = .ok (.arraylength, 1) := by decide +kernel
theorem dX6_at___7 : decode cX6_at__ 7 = .ok (.if_icmp .ge 9, 3) := by decide +kernel
theorem dX6_at___10 : decode cX6_at__ 10 = .ok (.aload_n 0, 1) := by decide +kernel
theorem dX6_at___11 : decode cX6_at__ 11 = .ok (.iload_n 1, 1) := by decide +kernel
theorem dX6_at___12 : decode cX6_at__ 12 = .ok (.caload, 1) := by decide +kernel
theorem dX6_at___13 : decode cX6_at__ 13 = .ok (.goto 4, 3) := by decide +kernel
theorem dX6_at___16 : decode cX6_at__ 16 = .ok (.iconst 0, 1) := by decide +kernel
theorem dX6_at___17 : decode cX6_at__ 17 = .ok (.ireturn, 1) := by decide +kernel
theorem dX6_set_0 : decode cX6_set 0 = .ok (.iload_n 1, 1) := by decide +kernel
theorem dX6_set_1 : decode cX6_set 1 = .ok (.ifCond .lt 13, 3) := by decide +kernel
theorem dX6_set_4 : decode cX6_set 4 = .ok (.iload_n 1, 1) := by decide +kernel
theorem dX6_set_5 : decode cX6_set 5 = .ok (.aload_n 0, 1) := by decide +kernel
theorem dX6_set_6 : decode cX6_set 6 = .ok (.arraylength, 1) := by decide +kernel
theorem dX6_set_7 : decode cX6_set 7 = .ok (.if_icmp .ge 7, 3) := by decide +kernel
theorem dX6_set_10 : decode cX6_set 10 = .ok (.aload_n 0, 1) := by decide +kernel
theorem dX6_set_11 : decode cX6_set 11 = .ok (.iload_n 1, 1) := by decide +kernel
theorem dX6_set_12 : decode cX6_set 12 = .ok (.iload_n 2, 1) := by decide +kernel
theorem dX6_set_13 : decode cX6_set 13 = .ok (.iastore, 1) := by decide +kernel
theorem dX6_set_14 : decode cX6_set 14 = .ok (.return_, 1) := by decide +kernel
theorem dX6_set__0 : decode cX6_set_ 0 = .ok (.iload_n 1, 1) := by decide +kernel
theorem dX6_set__1 : decode cX6_set_ 1 = .ok (.ifCond .lt 13, 3) := by decide +kernel
theorem dX6_set__4 : decode cX6_set_ 4 = .ok (.iload_n 1, 1) := by decide +kernel
theorem dX6_set__5 : decode cX6_set_ 5 = .ok (.aload_n 0, 1) := by decide +kernel
theorem dX6_set__6 : decode cX6_set_ 6 = .ok (.arraylength, 1) := by decide +kernel
theorem dX6_set__7 : decode cX6_set_ 7 = .ok (.if_icmp .ge 7, 3) := by decide +kernel
theorem dX6_set__10 : decode cX6_set_ 10 = .ok (.aload_n 0, 1) := by decide +kernel
theorem dX6_set__11 : decode cX6_set_ 11 = .ok (.iload_n 1, 1) := by decide +kernel
theorem dX6_set__12 : decode cX6_set_ 12 = .ok (.lload_n 2, 1) := by decide +kernel
theorem dX6_set__13 : decode cX6_set_ 13 = .ok (.lastore, 1) := by decide +kernel
theorem dX6_set__14 : decode cX6_set_ 14 = .ok (.return_, 1) := by decide +kernel
theorem dX7_plus_0 : decode cX7_plus 0 = .ok (.ldc2_w 9, 3) := by decide +kernel
theorem dX7_plus_3 : decode cX7_plus 3 = .ok (.lload_n 0, 1) := by decide +kernel
theorem dX7_plus_4 : decode cX7_plus 4 = .ok (.lload_n 2, 1) := by decide +kernel
theorem dX7_plus_5 : decode cX7_plus 5 = .ok (.ladd, 1) := by decide +kernel
theorem dX7_plus_6 : decode cX7_plus 6 = .ok (.invokestatic 11, 3) := by decide +kernel
theorem dX7_plus_9 : decode cX7_plus 9 = .ok (.lreturn, 1) := by decide +kernel
theorem dX7_times_0 : decode cX7_times 0 = .ok (.lload_n 0, 1) := by decide +kernel
theorem dX7_times_1 : decode cX7_times 1 = .ok (.lconst 0, 1) := by decide +kernel
theorem dX7_times_2 : decode cX7_times 2 = .ok (.lcmp, 1) := by decide +kernel
theorem dX7_times_3 : decode cX7_times 3 = .ok (.ifCond .le 9, 3) := by decide +kernel
theorem dX7_times_6 : decode cX7_times 6 = .ok (.lload_n 2, 1) := by decide +kernel
theorem dX7_times_7 : decode cX7_times 7 = .ok (.lconst 0, 1) := by decide +kernel
theorem dX7_times_8 : decode cX7_times 8 = .ok (.lcmp, 1) := by decide +kernel
theorem dX7_times_9 : decode cX7_times 9 = .ok (.ifCond .gt 5, 3) := by decide +kernel
theorem dX7_times_12 : decode cX7_times 12 = .ok (.lconst 0, 1) := by decide +kernel
theorem dX7_times_13 : decode cX7_times 13 = .ok (.lreturn, 1) := by decide +kernel
theorem dX7_times_14 : decode cX7_times 14 = .ok (.lload_n 0, 1) := by decide +kernel
theorem dX7_times_15 : decode cX7_times 15 = .ok (.ldc2_w 9, 3) := by decide +kernel
theorem dX7_times_18 : decode cX7_times 18 = .ok (.lload_n 2, 1) := by decide +kernel
theorem dX7_times_19 : decode cX7_times 19 = .ok (.ldiv, 1) := by decide +kernel
theorem dX7_times_20 : decode cX7_times 20 = .ok (.lcmp, 1) := by decide +kernel
theorem dX7_times_21 : decode cX7_times 21 = .ok (.ifCond .le 9, 3) := by decide +kernel
theorem dX7_times_24 : decode cX7_times 24 = .ok (.ldc2_w 9, 3) := by decide +kernel
theorem dX7_times_27 : decode cX7_times 27 = .ok (.goto 6, 3) := by decide +kernel
theorem dX7_times_30 : decode cX7_times 30 = .ok (.lload_n 0, 1) := by decide +kernel
theorem dX7_times_31 : decode cX7_times 31 = .ok (.lload_n 2, 1) := by decide +kernel
theorem dX7_times_32 : decode cX7_times 32 = .ok (.lmul, 1) := by decide +kernel
theorem dX7_times_33 : decode cX7_times 33 = .ok (.lreturn, 1) := by decide +kernel
theorem dX7_choose_0 : decode cX7_choose 0 = .ok (.iload_n 2, 1) := by decide +kernel
theorem dX7_choose_1 : decode cX7_choose 1 = .ok (.ifCond .gt 13, 3) := by decide +kernel
theorem dX7_choose_4 : decode cX7_choose 4 = .ok (.iload_n 2, 1) := by decide +kernel
theorem dX7_choose_5 : decode cX7_choose 5 = .ok (.ifCond .ne 7, 3) := by decide +kernel
theorem dX7_choose_8 : decode cX7_choose 8 = .ok (.lconst 1, 1) := by decide +kernel
theorem dX7_choose_9 : decode cX7_choose 9 = .ok (.goto 4, 3) := by decide +kernel
theorem dX7_choose_12 : decode cX7_choose 12 = .ok (.lconst 0, 1) := by decide +kernel
theorem dX7_choose_13 : decode cX7_choose 13 = .ok (.lreturn, 1) := by decide +kernel
theorem dX7_choose_14 : decode cX7_choose 14 = .ok (.lload_n 0, 1) := by decide +kernel
theorem dX7_choose_15 : decode cX7_choose 15 = .ok (.iload_n 2, 1) := by decide +kernel
theorem dX7_choose_16 : decode cX7_choose 16 = .ok (.i2l, 1) := by decide +kernel
theorem dX7_choose_17 : decode cX7_choose 17 = .ok (.lcmp, 1) := by decide +kernel
theorem dX7_choose_18 : decode cX7_choose 18 = .ok (.ifCond .lt 9, 3) := by decide +kernel
theorem dX7_choose_21 : decode cX7_choose 21 = .ok (.iload_n 2, 1) := by decide +kernel
theorem dX7_choose_22 : decode cX7_choose 22 = .ok (.bipush 24, 2) := by decide +kernel
theorem dX7_choose_24 : decode cX7_choose 24 = .ok (.if_icmp .le 5, 3) := by decide +kernel
theorem dX7_choose_27 : decode cX7_choose 27 = .ok (.lconst 0, 1) := by decide +kernel
theorem dX7_choose_28 : decode cX7_choose 28 = .ok (.lreturn, 1) := by decide +kernel
theorem dX7_choose_29 : decode cX7_choose 29 = .ok (.lconst 1, 1) := by decide +kernel
theorem dX7_choose_30 : decode cX7_choose 30 = .ok (.lstore_n 3, 1) := by decide +kernel
theorem dX7_choose_31 : decode cX7_choose 31 = .ok (.iconst 1, 1) := by decide +kernel
theorem dX7_choose_32 : decode cX7_choose 32 = .ok (.istore 5, 2) := by decide +kernel
theorem dX7_choose_34 : decode cX7_choose 34 = .ok (.iload 5, 2) := by decide +kernel
theorem dX7_choose_36 : decode cX7_choose 36 = .ok (.iload_n 2, 1) := by decide +kernel
theorem dX7_choose_37 : decode cX7_choose 37 = .ok (.if_icmp .gt 54, 3) := by decide +kernel
theorem dX7_choose_40 : decode cX7_choose 40 = .ok (.lload_n 0, 1) := by decide +kernel
theorem dX7_choose_41 : decode cX7_choose 41 = .ok (.iload_n 2, 1) := by decide +kernel
theorem dX7_choose_42 : decode cX7_choose 42 = .ok (.i2l, 1) := by decide +kernel
theorem dX7_choose_43 : decode cX7_choose 43 = .ok (.lsub, 1) := by decide +kernel
theorem dX7_choose_44 : decode cX7_choose 44 = .ok (.iload 5, 2) := by decide +kernel
theorem dX7_choose_46 : decode cX7_choose 46 = .ok (.i2l, 1) := by decide +kernel
theorem dX7_choose_47 : decode cX7_choose 47 = .ok (.ladd, 1) := by decide +kernel
theorem dX7_choose_48 : decode cX7_choose 48 = .ok (.lstore 6, 2) := by decide +kernel
theorem dX7_choose_50 : decode cX7_choose 50 = .ok (.lload 6, 2) := by decide +kernel
theorem dX7_choose_52 : decode cX7_choose 52 = .ok (.lconst 0, 1) := by decide +kernel
theorem dX7_choose_53 : decode cX7_choose 53 = .ok (.lcmp, 1) := by decide +kernel
theorem dX7_choose_54 : decode cX7_choose 54 = .ok (.ifCond .le 18, 3) := by decide +kernel
theorem dX7_choose_57 : decode cX7_choose 57 = .ok (.lload_n 3, 1) := by decide +kernel
theorem dX7_choose_58 : decode cX7_choose 58 = .ok (.ldc2_w 9, 3) := by decide +kernel
theorem dX7_choose_61 : decode cX7_choose 61 = .ok (.iload 5, 2) := by decide +kernel
theorem dX7_choose_63 : decode cX7_choose 63 = .ok (.i2l, 1) := by decide +kernel
theorem dX7_choose_64 : decode cX7_choose 64 = .ok (.lmul, 1) := by decide +kernel
theorem dX7_choose_65 : decode cX7_choose 65 = .ok (.lload 6, 2) := by decide +kernel
theorem dX7_choose_67 : decode cX7_choose 67 = .ok (.ldiv, 1) := by decide +kernel
theorem dX7_choose_68 : decode cX7_choose 68 = .ok (.lcmp, 1) := by decide +kernel
theorem dX7_choose_69 : decode cX7_choose 69 = .ok (.ifCond .le 7, 3) := by decide +kernel
theorem dX7_choose_72 : decode cX7_choose 72 = .ok (.ldc2_w 9, 3) := by decide +kernel
theorem dX7_choose_75 : decode cX7_choose 75 = .ok (.lreturn, 1) := by decide +kernel
theorem dX7_choose_76 : decode cX7_choose 76 = .ok (.lload_n 3, 1) := by decide +kernel
theorem dX7_choose_77 : decode cX7_choose 77 = .ok (.lload 6, 2) := by decide +kernel
theorem dX7_choose_79 : decode cX7_choose 79 = .ok (.lmul, 1) := by decide +kernel
theorem dX7_choose_80 : decode cX7_choose 80 = .ok (.iload 5, 2) := by decide +kernel
theorem dX7_choose_82 : decode cX7_choose 82 = .ok (.i2l, 1) := by decide +kernel
theorem dX7_choose_83 : decode cX7_choose 83 = .ok (.ldiv, 1) := by decide +kernel
theorem dX7_choose_84 : decode cX7_choose 84 = .ok (.lstore_n 3, 1) := by decide +kernel
theorem dX7_choose_85 : decode cX7_choose 85 = .ok (.iinc 5 1, 3) := by decide +kernel
theorem dX7_choose_88 : decode cX7_choose 88 = .ok (.goto (-54), 3) := by decide +kernel
theorem dX7_choose_91 : decode cX7_choose 91 = .ok (.ldc2_w 9, 3) := by decide +kernel
theorem dX7_choose_94 : decode cX7_choose 94 = .ok (.lload_n 3, 1) := by decide +kernel
theorem dX7_choose_95 : decode cX7_choose 95 = .ok (.invokestatic 11, 3) := by decide +kernel
theorem dX7_choose_98 : decode cX7_choose 98 = .ok (.lreturn, 1) := by decide +kernel
theorem dX7_orders_0 : decode cX7_orders 0 = .ok (.lconst 1, 1) := by decide +kernel
theorem dX7_orders_1 : decode cX7_orders 1 = .ok (.lstore_n 1, 1) := by decide +kernel
theorem dX7_orders_2 : decode cX7_orders 2 = .ok (.iconst 2, 1) := by decide +kernel
theorem dX7_orders_3 : decode cX7_orders 3 = .ok (.istore_n 3, 1) := by decide +kernel
theorem dX7_orders_4 : decode cX7_orders 4 = .ok (.iload_n 3, 1) := by decide +kernel
theorem dX7_orders_5 : decode cX7_orders 5 = .ok (.iload_n 0, 1) := by decide +kernel
theorem dX7_orders_6 : decode cX7_orders 6 = .ok (.if_icmp .gt 20, 3) := by decide +kernel
theorem dX7_orders_9 : decode cX7_orders 9 = .ok (.iload_n 3, 1) := by decide +kernel
theorem dX7_orders_10 : decode cX7_orders 10 = .ok (.bipush 8, 2) := by decide +kernel
theorem dX7_orders_12 : decode cX7_orders 12 = .ok (.if_icmp .gt 14, 3) := by decide +kernel
theorem dX7_orders_15 : decode cX7_orders 15 = .ok (.lload_n 1, 1) := by decide +kernel
theorem dX7_orders_16 : decode cX7_orders 16 = .ok (.iload_n 3, 1) := by decide +kernel
theorem dX7_orders_17 : decode cX7_orders 17 = .ok (.i2l, 1) := by decide +kernel
theorem dX7_orders_18 : decode cX7_orders 18 = .ok (.lmul, 1) := by decide +kernel
theorem dX7_orders_19 : decode cX7_orders 19 = .ok (.lstore_n 1, 1) := by decide +kernel
theorem dX7_orders_20 : decode cX7_orders 20 = .ok (.iinc 3 1, 3) := by decide +kernel
theorem dX7_orders_23 : decode cX7_orders 23 = .ok (.goto (-19), 3) := by decide +kernel
theorem dX7_orders_26 : decode cX7_orders 26 = .ok (.lload_n 1, 1) := by decide +kernel
theorem dX7_orders_27 : decode cX7_orders 27 = .ok (.lreturn, 1) := by decide +kernel
theorem dX8_init_0 : decode cX8_init 0 = .ok (.aload_n 0, 1) := by decide +kernel
theorem dX8_init_1 : decode cX8_init 1 = .ok (.invokespecial 3, 3) := by decide +kernel
theorem dX8_init_4 : decode cX8_init 4 = .ok (.aload_n 0, 1) := by decide +kernel
theorem dX8_init_5 : decode cX8_init 5 = .ok (.sipush 400, 3) := by decide +kernel
theorem dX8_init_8 : decode cX8_init 8 = .ok (.newarray .long, 2) := by decide +kernel
theorem dX8_init_10 : decode cX8_init 10 = .ok (.putfield 9, 3) := by decide +kernel
theorem dX8_init_13 : decode cX8_init 13 = .ok (.aload_n 0, 1) := by decide +kernel
theorem dX8_init_14 : decode cX8_init 14 = .ok (.sipush 5200, 3) := by decide +kernel
theorem dX8_init_17 : decode cX8_init 17 = .ok (.newarray .long, 2) := by decide +kernel
theorem dX8_init_19 : decode cX8_init 19 = .ok (.putfield 15, 3) := by decide +kernel
theorem dX8_init_22 : decode cX8_init 22 = .ok (.aload_n 0, 1) := by decide +kernel
theorem dX8_init_23 : decode cX8_init 23 = .ok (.aload_n 1, 1) := by decide +kernel
theorem dX8_init_24 : decode cX8_init 24 = .ok (.putfield 18, 3) := by decide +kernel
theorem dX8_init_27 : decode cX8_init 27 = .ok (.aload_n 0, 1) := by decide +kernel
theorem dX8_init_28 : decode cX8_init 28 = .ok (.aload_n 2, 1) := by decide +kernel
theorem dX8_init_29 : decode cX8_init 29 = .ok (.putfield 22, 3) := by decide +kernel
theorem dX8_init_32 : decode cX8_init 32 = .ok (.return_, 1) := by decide +kernel
theorem dX8_fill_0 : decode cX8_fill 0 = .ok (.iconst 0, 1) := by decide +kernel
theorem dX8_fill_1 : decode cX8_fill 1 = .ok (.istore_n 1, 1) := by decide +kernel
theorem dX8_fill_2 : decode cX8_fill 2 = .ok (.iload_n 1, 1) := by decide +kernel
theorem dX8_fill_3 : decode cX8_fill 3 = .ok (.aload_n 0, 1) := by decide +kernel
theorem dX8_fill_4 : decode cX8_fill 4 = .ok (.getfield 9, 3) := by decide +kernel
theorem dX8_fill_7 : decode cX8_fill 7 = .ok (.arraylength, 1) := by decide +kernel
theorem dX8_fill_8 : decode cX8_fill 8 = .ok (.if_icmp .ge 16, 3) := by decide +kernel
theorem dX8_fill_11 : decode cX8_fill 11 = .ok (.aload_n 0, 1) := by decide +kernel
theorem dX8_fill_12 : decode cX8_fill 12 = .ok (.getfield 9, 3) := by decide +kernel
theorem dX8_fill_15 : decode cX8_fill 15 = .ok (.iload_n 1, 1) := by decide +kernel
theorem dX8_fill_16 : decode cX8_fill 16 = .ok (.lconst 0, 1) := by decide +kernel
theorem dX8_fill_17 : decode cX8_fill 17 = .ok (.lastore, 1) := by decide +kernel
theorem dX8_fill_18 : decode cX8_fill 18 = .ok (.iinc 1 1, 3) := by decide +kernel
theorem dX8_fill_21 : decode cX8_fill 21 = .ok (.goto (-19), 3) := by decide +kernel
theorem dX8_fill_24 : decode cX8_fill 24 = .ok (.iconst 0, 1) := by decide +kernel
theorem dX8_fill_25 : decode cX8_fill 25 = .ok (.istore_n 1, 1) := by decide +kernel
theorem dX8_fill_26 : decode cX8_fill 26 = .ok (.iload_n 1, 1) := by decide +kernel
theorem dX8_fill_27 : decode cX8_fill 27 = .ok (.bipush 24, 2) := by decide +kernel
theorem dX8_fill_29 : decode cX8_fill 29 = .ok (.if_icmp .gt 73, 3) := by decide +kernel
theorem dX8_fill_32 : decode cX8_fill 32 = .ok (.iconst 0, 1) := by decide +kernel
theorem dX8_fill_33 : decode cX8_fill 33 = .ok (.istore_n 2, 1) := by decide +kernel
theorem dX8_fill_34 : decode cX8_fill 34 = .ok (.iload_n 2, 1) := by decide +kernel
theorem dX8_fill_35 : decode cX8_fill 35 = .ok (.bipush 16, 2) := by decide +kernel
theorem dX8_fill_37 : decode cX8_fill 37 = .ok (.if_icmp .ge 59, 3) := by decide +kernel
theorem dX8_fill_40 : decode cX8_fill 40 = .ok (.iconst 0, 1) := by decide +kernel
theorem dX8_fill_41 : decode cX8_fill 41 = .ok (.istore_n 3, 1) := by decide +kernel
theorem dX8_fill_42 : decode cX8_fill 42 = .ok (.iload_n 3, 1) := by decide +kernel
theorem dX8_fill_43 : decode cX8_fill 43 = .ok (.aload_n 0, 1) := by decide +kernel
theorem dX8_fill_44 : decode cX8_fill 44 = .ok (.getfield 18, 3) := by decide +kernel
theorem dX8_fill_47 : decode cX8_fill 47 = .ok (.invokevirtual 26, 3) := by decide +kernel
theorem dX8_fill_50 : decode cX8_fill 50 = .ok (.if_icmp .ge 40, 3) := by decide +kernel
theorem dX8_fill_53 : decode cX8_fill 53 = .ok (.aload_n 0, 1) := by decide +kernel
theorem dX8_fill_54 : decode cX8_fill 54 = .ok (.getfield 22, 3) := by decide +kernel
theorem dX8_fill_57 : decode cX8_fill 57 = .ok (.iload_n 3, 1) := by decide +kernel
theorem dX8_fill_58 : decode cX8_fill 58 = .ok (.invokevirtual 32, 3) := by decide +kernel
theorem dX8_fill_61 : decode cX8_fill 61 = .ok (.iload_n 2, 1) := by decide +kernel
theorem dX8_fill_62 : decode cX8_fill 62 = .ok (.if_icmp .ne 22, 3) := by decide +kernel
theorem dX8_fill_65 : decode cX8_fill 65 = .ok (.aload_n 0, 1) := by decide +kernel
theorem dX8_fill_66 : decode cX8_fill 66 = .ok (.getfield 9, 3) := by decide +kernel
theorem dX8_fill_69 : decode cX8_fill 69 = .ok (.iload_n 3, 1) := by decide +kernel
theorem dX8_fill_70 : decode cX8_fill 70 = .ok (.bipush 25, 2) := by decide +kernel
theorem dX8_fill_72 : decode cX8_fill 72 = .ok (.imul, 1) := by decide +kernel
theorem dX8_fill_73 : decode cX8_fill 73 = .ok (.iload_n 1, 1) := by decide +kernel
theorem dX8_fill_74 : decode cX8_fill 74 = .ok (.iadd, 1) := by decide +kernel
theorem dX8_fill_75 : decode cX8_fill 75 = .ok (.aload_n 0, 1) := by decide +kernel
theorem dX8_fill_76 : decode cX8_fill 76 = .ok (.iload_n 3, 1) := by decide +kernel
theorem dX8_fill_77 : decode cX8_fill 77 = .ok (.iload_n 1, 1) := by decide +kernel
theorem dX8_fill_78 : decode cX8_fill 78 = .ok (.invokevirtual 38, 3) := by decide +kernel
theorem dX8_fill_81 : decode cX8_fill 81 = .ok (.invokestatic 42, 3) := by decide +kernel
theorem dX8_fill_84 : decode cX8_fill 84 = .ok (.iinc 3 1, 3) := by decide +kernel
theorem dX8_fill_87 : decode cX8_fill 87 = .ok (.goto (-45), 3) := by decide +kernel
theorem dX8_fill_90 : decode cX8_fill 90 = .ok (.iinc 2 1, 3) := by decide +kernel
theorem dX8_fill_93 : decode cX8_fill 93 = .ok (.goto (-59), 3) := by decide +kernel
theorem dX8_fill_96 : decode cX8_fill 96 = .ok (.iinc 1 1, 3) := by decide +kernel
theorem dX8_fill_99 : decode cX8_fill 99 = .ok (.goto (-73), 3) := by decide +kernel
theorem dX8_fill_102 : decode cX8_fill 102 = .ok (.return_, 1) := by decide +kernel
theorem dX8_of_0 : decode cX8_of 0 = .ok (.iload_n 1, 1) := by decide +kernel
theorem dX8_of_1 : decode cX8_of 1 = .ok (.ifCond .lt 19, 3) := by decide +kernel
theorem dX8_of_4 : decode cX8_of 4 = .ok (.iload_n 1, 1) := by decide +kernel
theorem dX8_of_5 : decode cX8_of 5 = .ok (.bipush 16, 2) := by decide +kernel
theorem dX8_of_7 : decode cX8_of 7 = .ok (.if_icmp .ge 13, 3) := by decide +kernel
theorem dX8_of_10 : decode cX8_of 10 = .ok (.iload_n 2, 1) := by decide +kernel
theorem dX8_of_11 : decode cX8_of 11 = .ok (.ifCond .lt 9, 3) := by decide +kernel
theorem dX8_of_14 : decode cX8_of 14 = .ok (.iload_n 2, 1) := by decide +kernel
theorem dX8_of_15 : decode cX8_of 15 = .ok (.bipush 24, 2) := by decide +kernel
theorem dX8_of_17 : decode cX8_of 17 = .ok (.if_icmp .le 5, 3) := by decide +kernel
theorem dX8_of_20 : decode cX8_of 20 = .ok (.lconst 0, 1) := by decide +kernel
theorem dX8_of_21 : decode cX8_of 21 = .ok (.lreturn, 1) := by decide +kernel
theorem dX8_of_22 : decode cX8_of 22 = .ok (.aload_n 0, 1) := by decide +kernel
theorem dX8_of_23 : decode cX8_of 23 = .ok (.getfield 9, 3) := by decide +kernel
theorem dX8_of_26 : decode cX8_of 26 = .ok (.iload_n 1, 1) := by decide +kernel
theorem dX8_of_27 : decode cX8_of 27 = .ok (.bipush 25, 2) := by decide +kernel
theorem dX8_of_29 : decode cX8_of 29 = .ok (.imul, 1) := by decide +kernel
theorem dX8_of_30 : decode cX8_of 30 = .ok (.iload_n 2, 1) := by decide +kernel
theorem dX8_of_31 : decode cX8_of 31 = .ok (.iadd, 1) := by decide +kernel
theorem dX8_of_32 : decode cX8_of 32 = .ok (.laload, 1) := by decide +kernel
theorem dX8_of_33 : decode cX8_of 33 = .ok (.lreturn, 1) := by decide +kernel
theorem dX8_tail_0 : decode cX8_tail 0 = .ok (.aload_n 0, 1) := by decide +kernel
theorem dX8_tail_1 : decode cX8_tail 1 = .ok (.getfield 18, 3) := by decide +kernel
theorem dX8_tail_4 : decode cX8_tail 4 = .ok (.iload_n 1, 1) := by decide +kernel
theorem dX8_tail_5 : decode cX8_tail 5 = .ok (.invokevirtual 48, 3) := by decide +kernel
theorem dX8_tail_8 : decode cX8_tail 8 = .ok (.iconst 2, 1) := by decide +kernel
theorem dX8_tail_9 : decode cX8_tail 9 = .ok (.if_icmp .ne 14, 3) := by decide +kernel
theorem dX8_tail_12 : decode cX8_tail 12 = .ok (.aload_n 0, 1) := by decide +kernel
theorem dX8_tail_13 : decode cX8_tail 13 = .ok (.getfield 18, 3) := by decide +kernel
theorem dX8_tail_16 : decode cX8_tail 16 = .ok (.iload_n 1, 1) := by decide +kernel
theorem dX8_tail_17 : decode cX8_tail 17 = .ok (.invokevirtual 51, 3) := by decide +kernel
theorem dX8_tail_20 : decode cX8_tail 20 = .ok (.goto 4, 3) := by decide +kernel
theorem dX8_tail_23 : decode cX8_tail 23 = .ok (.iload_n 1, 1) := by decide +kernel
theorem dX8_tail_24 : decode cX8_tail 24 = .ok (.ireturn, 1) := by decide +kernel
theorem dX8_led_0 : decode cX8_led 0 = .ok (.aload_n 0, 1) := by decide +kernel
theorem dX8_led_1 : decode cX8_led 1 = .ok (.iload_n 1, 1) := by decide +kernel
theorem dX8_led_2 : decode cX8_led 2 = .ok (.iload 4, 2) := by decide +kernel
theorem dX8_led_4 : decode cX8_led 4 = .ok (.invokevirtual 54, 3) := by decide +kernel
theorem dX8_led_7 : decode cX8_led 7 = .ok (.aload_n 0, 1) := by decide +kernel
theorem dX8_led_8 : decode cX8_led 8 = .ok (.iload_n 2, 1) := by decide +kernel
theorem dX8_led_9 : decode cX8_led 9 = .ok (.iload_n 3, 1) := by decide +kernel
theorem dX8_led_10 : decode cX8_led 10 = .ok (.iload 4, 2) := by decide +kernel
theorem dX8_led_12 : decode cX8_led 12 = .ok (.isub, 1) := by decide +kernel
theorem dX8_led_13 : decode cX8_led 13 = .ok (.invokevirtual 54, 3) := by decide +kernel
theorem dX8_led_16 : decode cX8_led 16 = .ok (.invokestatic 57, 3) := by decide +kernel
theorem dX8_led_19 : decode cX8_led 19 = .ok (.lreturn, 1) := by decide +kernel
theorem dX8_ledBelow_0 : decode cX8_ledBelow 0 = .ok (.aload_n 0, 1) := by decide +kernel
theorem dX8_ledBelow_1 : decode cX8_ledBelow 1 = .ok (.getfield 18, 3) := by decide +kernel
theorem dX8_ledBelow_4 : decode cX8_ledBelow 4 = .ok (.iload_n 1, 1) := by decide +kernel
theorem dX8_ledBelow_5 : decode cX8_ledBelow 5 = .ok (.invokevirtual 63, 3) := by decide +kernel
theorem dX8_ledBelow_8 : decode cX8_ledBelow 8 = .ok (.istore 6, 2) := by decide +kernel
theorem dX8_ledBelow_10 : decode cX8_ledBelow 10 = .ok (.aload_n 0, 1) := by decide +kernel
theorem dX8_ledBelow_11 : decode cX8_ledBelow 11 = .ok (.iload_n 1, 1) := by decide +kernel
theorem dX8_ledBelow_12 : decode cX8_ledBelow 12 = .ok (.invokevirtual 66, 3) := by decide +kernel
theorem dX8_ledBelow_15 : decode cX8_ledBelow 15 = .ok (.istore 7, 2) := by decide +kernel
theorem dX8_ledBelow_17 : decode cX8_ledBelow 17 = .ok (.lload 4, 2) := by decide +kernel
theorem dX8_ledBelow_19 : decode cX8_ledBelow 19 = .ok (.aload_n 0, 1) := by decide +kernel
theorem dX8_ledBelow_20 : decode cX8_ledBelow 20 = .ok (.iload 7, 2) := by decide +kernel
theorem dX8_ledBelow_22 : decode cX8_ledBelow 22 = .ok (.iload_n 2, 1) := by decide +kernel
theorem dX8_ledBelow_23 : decode cX8_ledBelow 23 = .ok (.iload_n 3, 1) := by decide +kernel
theorem dX8_ledBelow_24 : decode cX8_ledBelow 24 = .ok (.isub, 1) := by decide +kernel
theorem dX8_ledBelow_25 : decode cX8_ledBelow 25 = .ok (.invokevirtual 54, 3) := by decide +kernel
theorem dX8_ledBelow_28 : decode cX8_ledBelow 28 = .ok (.invokestatic 57, 3) := by decide +kernel
theorem dX8_ledBelow_31 : decode cX8_ledBelow 31 = .ok (.lstore 8, 2) := by decide +kernel
theorem dX8_ledBelow_33 : decode cX8_ledBelow 33 = .ok (.iconst 0, 1) := by decide +kernel
theorem dX8_ledBelow_34 : decode cX8_ledBelow 34 = .ok (.istore 10, 2) := by decide +kernel
theorem dX8_ledBelow_36 : decode cX8_ledBelow 36 = .ok (.iload 10, 2) := by decide +kernel
theorem dX8_ledBelow_38 : decode cX8_ledBelow 38 = .ok (.iload_n 3, 1) := by decide +kernel
theorem dX8_ledBelow_39 : decode cX8_ledBelow 39 = .ok (.if_icmp .ge 34, 3) := by decide +kernel
theorem dX8_ledBelow_42 : decode cX8_ledBelow 42 = .ok (.iload 10, 2) := by decide +kernel
theorem dX8_ledBelow_44 : decode cX8_ledBelow 44 = .ok (.bipush 24, 2) := by decide +kernel
theorem dX8_ledBelow_46 : decode cX8_ledBelow 46 = .ok (.if_icmp .gt 27, 3) := by decide +kernel
theorem dX8_ledBelow_49 : decode cX8_ledBelow 49 = .ok (.lload 8, 2) := by decide +kernel
theorem dX8_ledBelow_51 : decode cX8_ledBelow 51 = .ok (.aload_n 0, 1) := by decide +kernel
theorem dX8_ledBelow_52 : decode cX8_ledBelow 52 = .ok (.iload 6, 2) := by decide +kernel
theorem dX8_ledBelow_54 : decode cX8_ledBelow 54 = .ok (.iload 7, 2) := by decide +kernel
theorem dX8_ledBelow_56 : decode cX8_ledBelow 56 = .ok (.iload_n 2, 1) := by decide +kernel
theorem dX8_ledBelow_57 : decode cX8_ledBelow 57 = .ok (.iload 10, 2) := by decide +kernel
theorem dX8_ledBelow_59 : decode cX8_ledBelow 59 = .ok (.invokevirtual 69, 3) := by decide +kernel
theorem dX8_ledBelow_62 : decode cX8_ledBelow 62 = .ok (.invokestatic 73, 3) := by decide +kernel
theorem dX8_ledBelow_65 : decode cX8_ledBelow 65 = .ok (.lstore 8, 2) := by decide +kernel
theorem dX8_ledBelow_67 : decode cX8_ledBelow 67 = .ok (.iinc 10 1, 3) := by decide +kernel
theorem dX8_ledBelow_70 : decode cX8_ledBelow 70 = .ok (.goto (-34), 3) := by decide +kernel
theorem dX8_ledBelow_73 : decode cX8_ledBelow 73 = .ok (.lload 8, 2) := by decide +kernel
theorem dX8_ledBelow_75 : decode cX8_ledBelow 75 = .ok (.lreturn, 1) := by decide +kernel
theorem dX8_bagsUpTo_0 : decode cX8_bagsUpTo 0 = .ok (.iload_n 2, 1) := by decide +kernel
theorem dX8_bagsUpTo_1 : decode cX8_bagsUpTo 1 = .ok (.invokestatic 76, 3) := by decide +kernel
theorem dX8_bagsUpTo_4 : decode cX8_bagsUpTo 4 = .ok (.ifCond .eq 10, 3) := by decide +kernel
theorem dX8_bagsUpTo_7 : decode cX8_bagsUpTo 7 = .ok (.iload_n 3, 1) := by decide +kernel
theorem dX8_bagsUpTo_8 : decode cX8_bagsUpTo 8 = .ok (.invokestatic 76, 3) := by decide +kernel
theorem dX8_bagsUpTo_11 : decode cX8_bagsUpTo 11 = .ok (.ifCond .ne 5, 3) := by decide +kernel
theorem dX8_bagsUpTo_14 : decode cX8_bagsUpTo 14 = .ok (.lconst 0, 1) := by decide +kernel
theorem dX8_bagsUpTo_15 : decode cX8_bagsUpTo 15 = .ok (.lreturn, 1) := by decide +kernel
theorem dX8_bagsUpTo_16 : decode cX8_bagsUpTo 16 = .ok (.aload_n 0, 1) := by decide +kernel
theorem dX8_bagsUpTo_17 : decode cX8_bagsUpTo 17 = .ok (.getfield 15, 3) := by decide +kernel
theorem dX8_bagsUpTo_20 : decode cX8_bagsUpTo 20 = .ok (.iload_n 1, 1) := by decide +kernel
theorem dX8_bagsUpTo_21 : decode cX8_bagsUpTo 21 = .ok (.iload_n 2, 1) := by decide +kernel
theorem dX8_bagsUpTo_22 : decode cX8_bagsUpTo 22 = .ok (.invokestatic 80, 3) := by decide +kernel
theorem dX8_bagsUpTo_25 : decode cX8_bagsUpTo 25 = .ok (.iload_n 3, 1) := by decide +kernel
theorem dX8_bagsUpTo_26 : decode cX8_bagsUpTo 26 = .ok (.iload_n 2, 1) := by decide +kernel
theorem dX8_bagsUpTo_27 : decode cX8_bagsUpTo 27 = .ok (.invokestatic 84, 3) := by decide +kernel
theorem dX8_bagsUpTo_30 : decode cX8_bagsUpTo 30 = .ok (.iadd, 1) := by decide +kernel
theorem dX8_bagsUpTo_31 : decode cX8_bagsUpTo 31 = .ok (.invokestatic 89, 3) := by decide +kernel
theorem dX8_bagsUpTo_34 : decode cX8_bagsUpTo 34 = .ok (.lreturn, 1) := by decide +kernel
theorem dX8_bagsBelow_0 : decode cX8_bagsBelow 0 = .ok (.iload_n 3, 1) := by decide +kernel
theorem dX8_bagsBelow_1 : decode cX8_bagsBelow 1 = .ok (.iconst 1, 1) := by decide +kernel
theorem dX8_bagsBelow_2 : decode cX8_bagsBelow 2 = .ok (.if_icmp .ge 5, 3) := by decide +kernel
theorem dX8_bagsBelow_5 : decode cX8_bagsBelow 5 = .ok (.lconst 0, 1) := by decide +kernel
theorem dX8_bagsBelow_6 : decode cX8_bagsBelow 6 = .ok (.lreturn, 1) := by decide +kernel
theorem dX8_bagsBelow_7 : decode cX8_bagsBelow 7 = .ok (.aload_n 0, 1) := by decide +kernel
theorem dX8_bagsBelow_8 : decode cX8_bagsBelow 8 = .ok (.getfield 18, 3) := by decide +kernel
theorem dX8_bagsBelow_11 : decode cX8_bagsBelow 11 = .ok (.iload_n 1, 1) := by decide +kernel
theorem dX8_bagsBelow_12 : decode cX8_bagsBelow 12 = .ok (.invokevirtual 48, 3) := by decide +kernel
theorem dX8_bagsBelow_15 : decode cX8_bagsBelow 15 = .ok (.iconst 5, 1) := by decide +kernel
theorem dX8_bagsBelow_16 : decode cX8_bagsBelow 16 = .ok (.if_icmp .ne 7, 3) := by decide +kernel
theorem dX8_bagsBelow_19 : decode cX8_bagsBelow 19 = .ok (.iconst 1, 1) := by decide +kernel
theorem dX8_bagsBelow_20 : decode cX8_bagsBelow 20 = .ok (.goto 4, 3) := by decide +kernel
theorem dX8_bagsBelow_23 : decode cX8_bagsBelow 23 = .ok (.iconst 0, 1) := by decide +kernel
theorem dX8_bagsBelow_24 : decode cX8_bagsBelow 24 = .ok (.istore 6, 2) := by decide +kernel
theorem dX8_bagsBelow_26 : decode cX8_bagsBelow 26 = .ok (.lconst 0, 1) := by decide +kernel
theorem dX8_bagsBelow_27 : decode cX8_bagsBelow 27 = .ok (.lstore 7, 2) := by decide +kernel
theorem dX8_bagsBelow_29 : decode cX8_bagsBelow 29 = .ok (.iconst 0, 1) := by decide +kernel
theorem dX8_bagsBelow_30 : decode cX8_bagsBelow 30 = .ok (.istore 9, 2) := by decide +kernel
theorem dX8_bagsBelow_32 : decode cX8_bagsBelow 32 = .ok (.iload 9, 2) := by decide +kernel
theorem dX8_bagsBelow_34 : decode cX8_bagsBelow 34 = .ok (.iload_n 3, 1) := by decide +kernel
theorem dX8_bagsBelow_35 : decode cX8_bagsBelow 35 = .ok (.imul, 1) := by decide +kernel
theorem dX8_bagsBelow_36 : decode cX8_bagsBelow 36 = .ok (.iload_n 2, 1) := by decide +kernel
theorem dX8_bagsBelow_37 : decode cX8_bagsBelow 37 = .ok (.if_icmp .gt 64, 3) := by decide +kernel
theorem dX8_bagsBelow_40 : decode cX8_bagsBelow 40 = .ok (.iload 9, 2) := by decide +kernel
theorem dX8_bagsBelow_42 : decode cX8_bagsBelow 42 = .ok (.bipush 24, 2) := by decide +kernel
theorem dX8_bagsBelow_44 : decode cX8_bagsBelow 44 = .ok (.if_icmp .gt 57, 3) := by decide +kernel
theorem dX8_bagsBelow_47 : decode cX8_bagsBelow 47 = .ok (.aload_n 0, 1) := by decide +kernel
theorem dX8_bagsBelow_48 : decode cX8_bagsBelow 48 = .ok (.iload_n 1, 1) := by decide +kernel
theorem dX8_bagsBelow_49 : decode cX8_bagsBelow 49 = .ok (.iload_n 2, 1) := by decide +kernel
theorem dX8_bagsBelow_50 : decode cX8_bagsBelow 50 = .ok (.iload 9, 2) := by decide +kernel
theorem dX8_bagsBelow_52 : decode cX8_bagsBelow 52 = .ok (.iload_n 3, 1) := by decide +kernel
theorem dX8_bagsBelow_53 : decode cX8_bagsBelow 53 = .ok (.imul, 1) := by decide +kernel
theorem dX8_bagsBelow_54 : decode cX8_bagsBelow 54 = .ok (.isub, 1) := by decide +kernel
theorem dX8_bagsBelow_55 : decode cX8_bagsBelow 55 = .ok (.iload_n 3, 1) := by decide +kernel
theorem dX8_bagsBelow_56 : decode cX8_bagsBelow 56 = .ok (.iconst 1, 1) := by decide +kernel
theorem dX8_bagsBelow_57 : decode cX8_bagsBelow 57 = .ok (.isub, 1) := by decide +kernel
theorem dX8_bagsBelow_58 : decode cX8_bagsBelow 58 = .ok (.invokevirtual 93, 3) := by decide +kernel
theorem dX8_bagsBelow_61 : decode cX8_bagsBelow 61 = .ok (.lstore 10, 2) := by decide +kernel
theorem dX8_bagsBelow_63 : decode cX8_bagsBelow 63 = .ok (.lload 4, 2) := by decide +kernel
theorem dX8_bagsBelow_65 : decode cX8_bagsBelow 65 = .ok (.iload 6, 2) := by decide +kernel
theorem dX8_bagsBelow_67 : decode cX8_bagsBelow 67 = .ok (.iload 9, 2) := by decide +kernel
theorem dX8_bagsBelow_69 : decode cX8_bagsBelow 69 = .ok (.iconst 1, 1) := by decide +kernel
theorem dX8_bagsBelow_70 : decode cX8_bagsBelow 70 = .ok (.isub, 1) := by decide +kernel
theorem dX8_bagsBelow_71 : decode cX8_bagsBelow 71 = .ok (.imul, 1) := by decide +kernel
theorem dX8_bagsBelow_72 : decode cX8_bagsBelow 72 = .ok (.i2l, 1) := by decide +kernel
theorem dX8_bagsBelow_73 : decode cX8_bagsBelow 73 = .ok (.ladd, 1) := by decide +kernel
theorem dX8_bagsBelow_74 : decode cX8_bagsBelow 74 = .ok (.iload 9, 2) := by decide +kernel
theorem dX8_bagsBelow_76 : decode cX8_bagsBelow 76 = .ok (.invokestatic 97, 3) := by decide +kernel
theorem dX8_bagsBelow_79 : decode cX8_bagsBelow 79 = .ok (.lstore 12, 2) := by decide +kernel
theorem dX8_bagsBelow_81 : decode cX8_bagsBelow 81 = .ok (.lload 7, 2) := by decide +kernel
theorem dX8_bagsBelow_83 : decode cX8_bagsBelow 83 = .ok (.lload 12, 2) := by decide +kernel
theorem dX8_bagsBelow_85 : decode cX8_bagsBelow 85 = .ok (.lload 10, 2) := by decide +kernel
theorem dX8_bagsBelow_87 : decode cX8_bagsBelow 87 = .ok (.invokestatic 57, 3) := by decide +kernel
theorem dX8_bagsBelow_90 : decode cX8_bagsBelow 90 = .ok (.invokestatic 73, 3) := by decide +kernel
theorem dX8_bagsBelow_93 : decode cX8_bagsBelow 93 = .ok (.lstore 7, 2) := by decide +kernel
theorem dX8_bagsBelow_95 : decode cX8_bagsBelow 95 = .ok (.iinc 9 1, 3) := by decide +kernel
theorem dX8_bagsBelow_98 : decode cX8_bagsBelow 98 = .ok (.goto (-66), 3) := by decide +kernel
theorem dX8_bagsBelow_101 : decode cX8_bagsBelow 101 = .ok (.lload 7, 2) := by decide +kernel
theorem dX8_bagsBelow_103 : decode cX8_bagsBelow 103 = .ok (.lreturn, 1) := by decide +kernel
theorem dX8_bagRow_0 : decode cX8_bagRow 0 = .ok (.iload_n 0, 1) := by decide +kernel
theorem dX8_bagRow_1 : decode cX8_bagRow 1 = .ok (.sipush 325, 3) := by decide +kernel
theorem dX8_bagRow_4 : decode cX8_bagRow 4 = .ok (.imul, 1) := by decide +kernel
theorem dX8_bagRow_5 : decode cX8_bagRow 5 = .ok (.iload_n 1, 1) := by decide +kernel
theorem dX8_bagRow_6 : decode cX8_bagRow 6 = .ok (.iload_n 1, 1) := by decide +kernel
theorem dX8_bagRow_7 : decode cX8_bagRow 7 = .ok (.iconst 1, 1) := by decide +kernel
theorem dX8_bagRow_8 : decode cX8_bagRow 8 = .ok (.iadd, 1) := by decide +kernel
theorem dX8_bagRow_9 : decode cX8_bagRow 9 = .ok (.imul, 1) := by decide +kernel
theorem dX8_bagRow_10 : decode cX8_bagRow 10 = .ok (.iconst 2, 1) := by decide +kernel
theorem dX8_bagRow_11 : decode cX8_bagRow 11 = .ok (.idiv, 1) := by decide +kernel
theorem dX8_bagRow_12 : decode cX8_bagRow 12 = .ok (.iadd, 1) := by decide +kernel
theorem dX8_bagRow_13 : decode cX8_bagRow 13 = .ok (.ireturn, 1) := by decide +kernel
theorem dX8_reckon_0 : decode cX8_reckon 0 = .ok (.aload_n 0, 1) := by decide +kernel
theorem dX8_reckon_1 : decode cX8_reckon 1 = .ok (.getfield 18, 3) := by decide +kernel
theorem dX8_reckon_4 : decode cX8_reckon 4 = .ok (.iload_n 1, 1) := by decide +kernel
theorem dX8_reckon_5 : decode cX8_reckon 5 = .ok (.invokevirtual 63, 3) := by decide +kernel
theorem dX8_reckon_8 : decode cX8_reckon 8 = .ok (.istore_n 3, 1) := by decide +kernel
theorem dX8_reckon_9 : decode cX8_reckon 9 = .ok (.aload_n 0, 1) := by decide +kernel
theorem dX8_reckon_10 : decode cX8_reckon 10 = .ok (.getfield 18, 3) := by decide +kernel
theorem dX8_reckon_13 : decode cX8_reckon 13 = .ok (.iload_n 1, 1) := by decide +kernel
theorem dX8_reckon_14 : decode cX8_reckon 14 = .ok (.invokevirtual 48, 3) := by decide +kernel
theorem dX8_reckon_17 : decode cX8_reckon 17 = .ok (.tableswitch 189 0 8 #[51, 62, 72, 83, 106, 125, 125, 140, 175], 51) := by decide +kernel
theorem dX8_reckon_68 : decode cX8_reckon 68 = .ok (.iload_n 2, 1) := by decide +kernel
theorem dX8_reckon_69 : decode cX8_reckon 69 = .ok (.iload_n 3, 1) := by decide +kernel
theorem dX8_reckon_70 : decode cX8_reckon 70 = .ok (.if_icmp .ne 7, 3) := by decide +kernel
theorem dX8_reckon_73 : decode cX8_reckon 73 = .ok (.lconst 1, 1) := by decide +kernel
theorem dX8_reckon_74 : decode cX8_reckon 74 = .ok (.goto 4, 3) := by decide +kernel
theorem dX8_reckon_77 : decode cX8_reckon 77 = .ok (.lconst 0, 1) := by decide +kernel
theorem dX8_reckon_78 : decode cX8_reckon 78 = .ok (.lreturn, 1) := by decide +kernel
theorem dX8_reckon_79 : decode cX8_reckon 79 = .ok (.iload_n 2, 1) := by decide +kernel
theorem dX8_reckon_80 : decode cX8_reckon 80 = .ok (.ifCond .ne 7, 3) := by decide +kernel
theorem dX8_reckon_83 : decode cX8_reckon 83 = .ok (.lconst 1, 1) := by decide +kernel
theorem dX8_reckon_84 : decode cX8_reckon 84 = .ok (.goto 4, 3) := by decide +kernel
theorem dX8_reckon_87 : decode cX8_reckon 87 = .ok (.lconst 0, 1) := by decide +kernel
theorem dX8_reckon_88 : decode cX8_reckon 88 = .ok (.lreturn, 1) := by decide +kernel
theorem dX8_reckon_89 : decode cX8_reckon 89 = .ok (.aload_n 0, 1) := by decide +kernel
theorem dX8_reckon_90 : decode cX8_reckon 90 = .ok (.iload_n 1, 1) := by decide +kernel
theorem dX8_reckon_91 : decode cX8_reckon 91 = .ok (.iload_n 2, 1) := by decide +kernel
theorem dX8_reckon_92 : decode cX8_reckon 92 = .ok (.iload_n 2, 1) := by decide +kernel
theorem dX8_reckon_93 : decode cX8_reckon 93 = .ok (.iconst 1, 1) := by decide +kernel
theorem dX8_reckon_94 : decode cX8_reckon 94 = .ok (.iadd, 1) := by decide +kernel
theorem dX8_reckon_95 : decode cX8_reckon 95 = .ok (.lconst 0, 1) := by decide +kernel
theorem dX8_reckon_96 : decode cX8_reckon 96 = .ok (.invokevirtual 101, 3) := by decide +kernel
theorem dX8_reckon_99 : decode cX8_reckon 99 = .ok (.lreturn, 1) := by decide +kernel
theorem dX8_reckon_100 : decode cX8_reckon 100 = .ok (.aload_n 0, 1) := by decide +kernel
theorem dX8_reckon_101 : decode cX8_reckon 101 = .ok (.iload_n 3, 1) := by decide +kernel
theorem dX8_reckon_102 : decode cX8_reckon 102 = .ok (.iload_n 2, 1) := by decide +kernel
theorem dX8_reckon_103 : decode cX8_reckon 103 = .ok (.invokevirtual 54, 3) := by decide +kernel
theorem dX8_reckon_106 : decode cX8_reckon 106 = .ok (.aload_n 0, 1) := by decide +kernel
theorem dX8_reckon_107 : decode cX8_reckon 107 = .ok (.aload_n 0, 1) := by decide +kernel
theorem dX8_reckon_108 : decode cX8_reckon 108 = .ok (.getfield 18, 3) := by decide +kernel
theorem dX8_reckon_111 : decode cX8_reckon 111 = .ok (.iload_n 1, 1) := by decide +kernel
theorem dX8_reckon_112 : decode cX8_reckon 112 = .ok (.invokevirtual 51, 3) := by decide +kernel
theorem dX8_reckon_115 : decode cX8_reckon 115 = .ok (.iload_n 2, 1) := by decide +kernel
theorem dX8_reckon_116 : decode cX8_reckon 116 = .ok (.invokevirtual 54, 3) := by decide +kernel
theorem dX8_reckon_119 : decode cX8_reckon 119 = .ok (.invokestatic 73, 3) := by decide +kernel
theorem dX8_reckon_122 : decode cX8_reckon 122 = .ok (.lreturn, 1) := by decide +kernel
theorem dX8_reckon_123 : decode cX8_reckon 123 = .ok (.iload_n 2, 1) := by decide +kernel
theorem dX8_reckon_124 : decode cX8_reckon 124 = .ok (.ifCond .ne 7, 3) := by decide +kernel
theorem dX8_reckon_127 : decode cX8_reckon 127 = .ok (.lconst 1, 1) := by decide +kernel
theorem dX8_reckon_128 : decode cX8_reckon 128 = .ok (.goto 13, 3) := by decide +kernel
theorem dX8_reckon_131 : decode cX8_reckon 131 = .ok (.aload_n 0, 1) := by decide +kernel
theorem dX8_reckon_132 : decode cX8_reckon 132 = .ok (.iload_n 1, 1) := by decide +kernel
theorem dX8_reckon_133 : decode cX8_reckon 133 = .ok (.iload_n 2, 1) := by decide +kernel
theorem dX8_reckon_134 : decode cX8_reckon 134 = .ok (.iload_n 2, 1) := by decide +kernel
theorem dX8_reckon_135 : decode cX8_reckon 135 = .ok (.iconst 1, 1) := by decide +kernel
theorem dX8_reckon_136 : decode cX8_reckon 136 = .ok (.iadd, 1) := by decide +kernel
theorem dX8_reckon_137 : decode cX8_reckon 137 = .ok (.lconst 0, 1) := by decide +kernel
theorem dX8_reckon_138 : decode cX8_reckon 138 = .ok (.invokevirtual 101, 3) := by decide +kernel
theorem dX8_reckon_141 : decode cX8_reckon 141 = .ok (.lreturn, 1) := by decide +kernel
theorem dX8_reckon_142 : decode cX8_reckon 142 = .ok (.aload_n 0, 1) := by decide +kernel
theorem dX8_reckon_143 : decode cX8_reckon 143 = .ok (.iload_n 1, 1) := by decide +kernel
theorem dX8_reckon_144 : decode cX8_reckon 144 = .ok (.iload_n 2, 1) := by decide +kernel
theorem dX8_reckon_145 : decode cX8_reckon 145 = .ok (.invokevirtual 105, 3) := by decide +kernel
theorem dX8_reckon_148 : decode cX8_reckon 148 = .ok (.aload_n 0, 1) := by decide +kernel
theorem dX8_reckon_149 : decode cX8_reckon 149 = .ok (.iload_n 1, 1) := by decide +kernel
theorem dX8_reckon_150 : decode cX8_reckon 150 = .ok (.iload_n 2, 1) := by decide +kernel
theorem dX8_reckon_151 : decode cX8_reckon 151 = .ok (.bipush 24, 2) := by decide +kernel
theorem dX8_reckon_153 : decode cX8_reckon 153 = .ok (.invokevirtual 93, 3) := by decide +kernel
theorem dX8_reckon_156 : decode cX8_reckon 156 = .ok (.lreturn, 1) := by decide +kernel
theorem dX8_reckon_157 : decode cX8_reckon 157 = .ok (.iload_n 2, 1) := by decide +kernel
theorem dX8_reckon_158 : decode cX8_reckon 158 = .ok (.aload_n 0, 1) := by decide +kernel
theorem dX8_reckon_159 : decode cX8_reckon 159 = .ok (.getfield 18, 3) := by decide +kernel
theorem dX8_reckon_162 : decode cX8_reckon 162 = .ok (.iload_n 1, 1) := by decide +kernel
theorem dX8_reckon_163 : decode cX8_reckon 163 = .ok (.invokevirtual 109, 3) := by decide +kernel
theorem dX8_reckon_166 : decode cX8_reckon 166 = .ok (.if_icmp .lt 24, 3) := by decide +kernel
theorem dX8_reckon_169 : decode cX8_reckon 169 = .ok (.iload_n 2, 1) := by decide +kernel
theorem dX8_reckon_170 : decode cX8_reckon 170 = .ok (.aload_n 0, 1) := by decide +kernel
theorem dX8_reckon_171 : decode cX8_reckon 171 = .ok (.getfield 18, 3) := by decide +kernel
theorem dX8_reckon_174 : decode cX8_reckon 174 = .ok (.iload_n 1, 1) := by decide +kernel
theorem dX8_reckon_175 : decode cX8_reckon 175 = .ok (.invokevirtual 112, 3) := by decide +kernel
theorem dX8_reckon_178 : decode cX8_reckon 178 = .ok (.if_icmp .gt 12, 3) := by decide +kernel
theorem dX8_reckon_181 : decode cX8_reckon 181 = .ok (.aload_n 0, 1) := by decide +kernel
theorem dX8_reckon_182 : decode cX8_reckon 182 = .ok (.iload_n 3, 1) := by decide +kernel
theorem dX8_reckon_183 : decode cX8_reckon 183 = .ok (.iload_n 2, 1) := by decide +kernel
theorem dX8_reckon_184 : decode cX8_reckon 184 = .ok (.invokevirtual 54, 3) := by decide +kernel
theorem dX8_reckon_187 : decode cX8_reckon 187 = .ok (.goto 4, 3) := by decide +kernel
theorem dX8_reckon_190 : decode cX8_reckon 190 = .ok (.lconst 0, 1) := by decide +kernel
theorem dX8_reckon_191 : decode cX8_reckon 191 = .ok (.lreturn, 1) := by decide +kernel
theorem dX8_reckon_192 : decode cX8_reckon 192 = .ok (.iload_n 2, 1) := by decide +kernel
theorem dX8_reckon_193 : decode cX8_reckon 193 = .ok (.iload_n 3, 1) := by decide +kernel
theorem dX8_reckon_194 : decode cX8_reckon 194 = .ok (.if_icmp .ne 10, 3) := by decide +kernel
theorem dX8_reckon_197 : decode cX8_reckon 197 = .ok (.iload_n 3, 1) := by decide +kernel
theorem dX8_reckon_198 : decode cX8_reckon 198 = .ok (.invokestatic 115, 3) := by decide +kernel
theorem dX8_reckon_201 : decode cX8_reckon 201 = .ok (.goto 4, 3) := by decide +kernel
theorem dX8_reckon_204 : decode cX8_reckon 204 = .ok (.lconst 0, 1) := by decide +kernel
theorem dX8_reckon_205 : decode cX8_reckon 205 = .ok (.lreturn, 1) := by decide +kernel
theorem dX8_reckon_206 : decode cX8_reckon 206 = .ok (.lconst 0, 1) := by decide +kernel
theorem dX8_reckon_207 : decode cX8_reckon 207 = .ok (.lreturn, 1) := by decide +kernel
theorem dX8_fillBags_0 : decode cX8_fillBags 0 = .ok (.iload_n 1, 1) := by decide +kernel
theorem dX8_fillBags_1 : decode cX8_fillBags 1 = .ok (.iload_n 2, 1) := by decide +kernel
theorem dX8_fillBags_2 : decode cX8_fillBags 2 = .ok (.invokestatic 80, 3) := by decide +kernel
theorem dX8_fillBags_5 : decode cX8_fillBags 5 = .ok (.istore_n 3, 1) := by decide +kernel
theorem dX8_fillBags_6 : decode cX8_fillBags 6 = .ok (.aload_n 0, 1) := by decide +kernel
theorem dX8_fillBags_7 : decode cX8_fillBags 7 = .ok (.getfield 15, 3) := by decide +kernel
theorem dX8_fillBags_10 : decode cX8_fillBags 10 = .ok (.iload_n 3, 1) := by decide +kernel
theorem dX8_fillBags_11 : decode cX8_fillBags 11 = .ok (.iload_n 2, 1) := by decide +kernel
theorem dX8_fillBags_12 : decode cX8_fillBags 12 = .ok (.ifCond .ne 7, 3) := by decide +kernel
theorem dX8_fillBags_15 : decode cX8_fillBags 15 = .ok (.lconst 1, 1) := by decide +kernel
theorem dX8_fillBags_16 : decode cX8_fillBags 16 = .ok (.goto 4, 3) := by decide +kernel
theorem dX8_fillBags_19 : decode cX8_fillBags 19 = .ok (.lconst 0, 1) := by decide +kernel
theorem dX8_fillBags_20 : decode cX8_fillBags 20 = .ok (.invokestatic 42, 3) := by decide +kernel
theorem dX8_fillBags_23 : decode cX8_fillBags 23 = .ok (.iconst 1, 1) := by decide +kernel
theorem dX8_fillBags_24 : decode cX8_fillBags 24 = .ok (.istore 4, 2) := by decide +kernel
theorem dX8_fillBags_26 : decode cX8_fillBags 26 = .ok (.iload 4, 2) := by decide +kernel
theorem dX8_fillBags_28 : decode cX8_fillBags 28 = .ok (.iload_n 2, 1) := by decide +kernel
theorem dX8_fillBags_29 : decode cX8_fillBags 29 = .ok (.if_icmp .gt 42, 3) := by decide +kernel
theorem dX8_fillBags_32 : decode cX8_fillBags 32 = .ok (.aload_n 0, 1) := by decide +kernel
theorem dX8_fillBags_33 : decode cX8_fillBags 33 = .ok (.getfield 15, 3) := by decide +kernel
theorem dX8_fillBags_36 : decode cX8_fillBags 36 = .ok (.iload_n 3, 1) := by decide +kernel
theorem dX8_fillBags_37 : decode cX8_fillBags 37 = .ok (.iload 4, 2) := by decide +kernel
theorem dX8_fillBags_39 : decode cX8_fillBags 39 = .ok (.iadd, 1) := by decide +kernel
theorem dX8_fillBags_40 : decode cX8_fillBags 40 = .ok (.aload_n 0, 1) := by decide +kernel
theorem dX8_fillBags_41 : decode cX8_fillBags 41 = .ok (.iload_n 1, 1) := by decide +kernel
theorem dX8_fillBags_42 : decode cX8_fillBags 42 = .ok (.iload_n 2, 1) := by decide +kernel
theorem dX8_fillBags_43 : decode cX8_fillBags 43 = .ok (.iload 4, 2) := by decide +kernel
theorem dX8_fillBags_45 : decode cX8_fillBags 45 = .ok (.aload_n 0, 1) := by decide +kernel
theorem dX8_fillBags_46 : decode cX8_fillBags 46 = .ok (.aload_n 0, 1) := by decide +kernel
theorem dX8_fillBags_47 : decode cX8_fillBags 47 = .ok (.getfield 18, 3) := by decide +kernel
theorem dX8_fillBags_50 : decode cX8_fillBags 50 = .ok (.iload_n 1, 1) := by decide +kernel
theorem dX8_fillBags_51 : decode cX8_fillBags 51 = .ok (.invokevirtual 63, 3) := by decide +kernel
theorem dX8_fillBags_54 : decode cX8_fillBags 54 = .ok (.iload 4, 2) := by decide +kernel
theorem dX8_fillBags_56 : decode cX8_fillBags 56 = .ok (.invokevirtual 54, 3) := by decide +kernel
theorem dX8_fillBags_59 : decode cX8_fillBags 59 = .ok (.invokevirtual 119, 3) := by decide +kernel
theorem dX8_fillBags_62 : decode cX8_fillBags 62 = .ok (.invokestatic 42, 3) := by decide +kernel
theorem dX8_fillBags_65 : decode cX8_fillBags 65 = .ok (.iinc 4 1, 3) := by decide +kernel
theorem dX8_fillBags_68 : decode cX8_fillBags 68 = .ok (.goto (-42), 3) := by decide +kernel
theorem dX8_fillBags_71 : decode cX8_fillBags 71 = .ok (.return_, 1) := by decide +kernel
theorem dX9_init_0 : decode cX9_init 0 = .ok (.aload_n 0, 1) := by decide +kernel
theorem dX9_init_1 : decode cX9_init 1 = .ok (.invokespecial 3, 3) := by decide +kernel
theorem dX9_init_4 : decode cX9_init 4 = .ok (.aload_n 0, 1) := by decide +kernel
theorem dX9_init_5 : decode cX9_init 5 = .ok (.new 9, 3) := by decide +kernel
theorem dX9_init_8 : decode cX9_init 8 = .ok (.dup, 1) := by decide +kernel
theorem dX9_init_9 : decode cX9_init 9 = .ok (.invokespecial 11, 3) := by decide +kernel
theorem dX9_init_12 : decode cX9_init 12 = .ok (.putfield 12, 3) := by decide +kernel
theorem dX9_init_15 : decode cX9_init 15 = .ok (.aload_n 0, 1) := by decide +kernel
theorem dX9_init_16 : decode cX9_init 16 = .ok (.sipush 608, 3) := by decide +kernel
theorem dX9_init_19 : decode cX9_init 19 = .ok (.newarray .int, 2) := by decide +kernel
theorem dX9_init_21 : decode cX9_init 21 = .ok (.putfield 18, 3) := by decide +kernel
theorem dX9_init_24 : decode cX9_init 24 = .ok (.aload_n 0, 1) := by decide +kernel
theorem dX9_init_25 : decode cX9_init 25 = .ok (.sipush 608, 3) := by decide +kernel
theorem dX9_init_28 : decode cX9_init 28 = .ok (.newarray .int, 2) := by decide +kernel
theorem dX9_init_30 : decode cX9_init 30 = .ok (.putfield 22, 3) := by decide +kernel
theorem dX9_init_33 : decode cX9_init 33 = .ok (.aload_n 0, 1) := by decide +kernel
theorem dX9_init_34 : decode cX9_init 34 = .ok (.sipush 608, 3) := by decide +kernel
theorem dX9_init_37 : decode cX9_init 37 = .ok (.newarray .int, 2) := by decide +kernel
theorem dX9_init_39 : decode cX9_init 39 = .ok (.putfield 25, 3) := by decide +kernel
theorem dX9_init_42 : decode cX9_init 42 = .ok (.aload_n 0, 1) := by decide +kernel
theorem dX9_init_43 : decode cX9_init 43 = .ok (.sipush 608, 3) := by decide +kernel
theorem dX9_init_46 : decode cX9_init 46 = .ok (.newarray .long, 2) := by decide +kernel
theorem dX9_init_48 : decode cX9_init 48 = .ok (.putfield 28, 3) := by decide +kernel
theorem dX9_init_51 : decode cX9_init 51 = .ok (.aload_n 0, 1) := by decide +kernel
theorem dX9_init_52 : decode cX9_init 52 = .ok (.aload_n 1, 1) := by decide +kernel
theorem dX9_init_53 : decode cX9_init 53 = .ok (.putfield 32, 3) := by decide +kernel
theorem dX9_init_56 : decode cX9_init 56 = .ok (.aload_n 0, 1) := by decide +kernel
theorem dX9_init_57 : decode cX9_init 57 = .ok (.aload_n 2, 1) := by decide +kernel
theorem dX9_init_58 : decode cX9_init 58 = .ok (.putfield 36, 3) := by decide +kernel
theorem dX9_init_61 : decode cX9_init 61 = .ok (.return_, 1) := by decide +kernel
theorem dX9_draft_0 : decode cX9_draft 0 = .ok (.aload_n 0, 1) := by decide +kernel
theorem dX9_draft_1 : decode cX9_draft 1 = .ok (.getfield 12, 3) := by decide +kernel
theorem dX9_draft_4 : decode cX9_draft 4 = .ok (.areturn, 1) := by decide +kernel
theorem dX9_tell_0 : decode cX9_tell 0 = .ok (.aload_n 0, 1) := by decide +kernel
theorem dX9_tell_1 : decode cX9_tell 1 = .ok (.getfield 12, 3) := by decide +kernel
theorem dX9_tell_4 : decode cX9_tell 4 = .ok (.iconst 0, 1) := by decide +kernel
theorem dX9_tell_5 : decode cX9_tell 5 = .ok (.invokevirtual 40, 3) := by decide +kernel
theorem dX9_tell_8 : decode cX9_tell 8 = .ok (.aload_n 0, 1) := by decide +kernel
theorem dX9_tell_9 : decode cX9_tell 9 = .ok (.iconst 0, 1) := by decide +kernel
theorem dX9_tell_10 : decode cX9_tell 10 = .ok (.putfield 44, 3) := by decide +kernel
theorem dX9_tell_13 : decode cX9_tell 13 = .ok (.aload_n 0, 1) := by decide +kernel
theorem dX9_tell_14 : decode cX9_tell 14 = .ok (.iconst 1, 1) := by decide +kernel
theorem dX9_tell_15 : decode cX9_tell 15 = .ok (.iload_n 1, 1) := by decide +kernel
theorem dX9_tell_16 : decode cX9_tell 16 = .ok (.iload_n 2, 1) := by decide +kernel
theorem dX9_tell_17 : decode cX9_tell 17 = .ok (.lload_n 3, 1) := by decide +kernel
theorem dX9_tell_18 : decode cX9_tell 18 = .ok (.invokevirtual 48, 3) := by decide +kernel
theorem dX9_tell_21 : decode cX9_tell 21 = .ok (.iconst 0, 1) := by decide +kernel
theorem dX9_tell_22 : decode cX9_tell 22 = .ok (.istore 5, 2) := by decide +kernel
theorem dX9_tell_24 : decode cX9_tell 24 = .ok (.aload_n 0, 1) := by decide +kernel
theorem dX9_tell_25 : decode cX9_tell 25 = .ok (.getfield 44, 3) := by decide +kernel
theorem dX9_tell_28 : decode cX9_tell 28 = .ok (.ifCond .le 26, 3) := by decide +kernel
theorem dX9_tell_31 : decode cX9_tell 31 = .ok (.iload 5, 2) := by decide +kernel
theorem dX9_tell_33 : decode cX9_tell 33 = .ok (.sipush 3000, 3) := by decide +kernel
theorem dX9_tell_36 : decode cX9_tell 36 = .ok (.if_icmp .ge 18, 3) := by decide +kernel
theorem dX9_tell_39 : decode cX9_tell 39 = .ok (.aload_n 0, 1) := by decide +kernel
theorem dX9_tell_40 : decode cX9_tell 40 = .ok (.invokevirtual 52, 3) := by decide +kernel
theorem dX9_tell_43 : decode cX9_tell 43 = .ok (.ifCond .ne 5, 3) := by decide +kernel
theorem dX9_tell_46 : decode cX9_tell 46 = .ok (.iconst 0, 1) := by decide +kernel
theorem dX9_tell_47 : decode cX9_tell 47 = .ok (.ireturn, 1) := by decide +kernel
theorem dX9_tell_48 : decode cX9_tell 48 = .ok (.iinc 5 1, 3) := by decide +kernel
theorem dX9_tell_51 : decode cX9_tell 51 = .ok (.goto (-27), 3) := by decide +kernel
theorem dX9_tell_54 : decode cX9_tell 54 = .ok (.aload_n 0, 1) := by decide +kernel
theorem dX9_tell_55 : decode cX9_tell 55 = .ok (.getfield 44, 3) := by decide +kernel
theorem dX9_tell_58 : decode cX9_tell 58 = .ok (.ifCond .ne 7, 3) := by decide +kernel
theorem dX9_tell_61 : decode cX9_tell 61 = .ok (.iconst 1, 1) := by decide +kernel
theorem dX9_tell_62 : decode cX9_tell 62 = .ok (.goto 4, 3) := by decide +kernel
theorem dX9_tell_65 : decode cX9_tell 65 = .ok (.iconst 0, 1) := by decide +kernel
theorem dX9_tell_66 : decode cX9_tell 66 = .ok (.ireturn, 1) := by decide +kernel
theorem dX9_push_0 : decode cX9_push 0 = .ok (.aload_n 0, 1) := by decide +kernel
theorem dX9_push_1 : decode cX9_push 1 = .ok (.getfield 44, 3) := by decide +kernel
theorem dX9_push_4 : decode cX9_push 4 = .ok (.ifCond .lt 64, 3) := by decide +kernel
theorem dX9_push_7 : decode cX9_push 7 = .ok (.aload_n 0, 1) := by decide +kernel
theorem dX9_push_8 : decode cX9_push 8 = .ok (.getfield 44, 3) := by decide +kernel
theorem dX9_push_11 : decode cX9_push 11 = .ok (.sipush 608, 3) := by decide +kernel
theorem dX9_push_14 : decode cX9_push 14 = .ok (.if_icmp .ge 54, 3) := by decide +kernel
theorem dX9_push_17 : decode cX9_push 17 = .ok (.aload_n 0, 1) := by decide +kernel
theorem dX9_push_18 : decode cX9_push 18 = .ok (.getfield 18, 3) := by decide +kernel
theorem dX9_push_21 : decode cX9_push 21 = .ok (.aload_n 0, 1) := by decide +kernel
theorem dX9_push_22 : decode cX9_push 22 = .ok (.getfield 44, 3) := by decide +kernel
theorem dX9_push_25 : decode cX9_push 25 = .ok (.iload_n 1, 1) := by decide +kernel
theorem dX9_push_26 : decode cX9_push 26 = .ok (.iastore, 1) := by decide +kernel
theorem dX9_push_27 : decode cX9_push 27 = .ok (.aload_n 0, 1) := by decide +kernel
theorem dX9_push_28 : decode cX9_push 28 = .ok (.getfield 22, 3) := by decide +kernel
theorem dX9_push_31 : decode cX9_push 31 = .ok (.aload_n 0, 1) := by decide +kernel
theorem dX9_push_32 : decode cX9_push 32 = .ok (.getfield 44, 3) := by decide +kernel
theorem dX9_push_35 : decode cX9_push 35 = .ok (.iload_n 2, 1) := by decide +kernel
theorem dX9_push_36 : decode cX9_push 36 = .ok (.iastore, 1) := by decide +kernel
theorem dX9_push_37 : decode cX9_push 37 = .ok (.aload_n 0, 1) := by decide +kernel
theorem dX9_push_38 : decode cX9_push 38 = .ok (.getfield 25, 3) := by decide +kernel
theorem dX9_push_41 : decode cX9_push 41 = .ok (.aload_n 0, 1) := by decide +kernel
theorem dX9_push_42 : decode cX9_push 42 = .ok (.getfield 44, 3) := by decide +kernel
theorem dX9_push_45 : decode cX9_push 45 = .ok (.iload_n 3, 1) := by decide +kernel
theorem dX9_push_46 : decode cX9_push 46 = .ok (.iastore, 1) := by decide +kernel
theorem dX9_push_47 : decode cX9_push 47 = .ok (.aload_n 0, 1) := by decide +kernel
theorem dX9_push_48 : decode cX9_push 48 = .ok (.getfield 28, 3) := by decide +kernel
theorem dX9_push_51 : decode cX9_push 51 = .ok (.aload_n 0, 1) := by decide +kernel
theorem dX9_push_52 : decode cX9_push 52 = .ok (.getfield 44, 3) := by decide +kernel
theorem dX9_push_55 : decode cX9_push 55 = .ok (.lload 4, 2) := by decide +kernel
theorem dX9_push_57 : decode cX9_push 57 = .ok (.lastore, 1) := by decide +kernel
theorem dX9_push_58 : decode cX9_push 58 = .ok (.aload_n 0, 1) := by decide +kernel
theorem dX9_push_59 : decode cX9_push 59 = .ok (.dup, 1) := by decide +kernel
theorem dX9_push_60 : decode cX9_push 60 = .ok (.getfield 44, 3) := by decide +kernel
theorem dX9_push_63 : decode cX9_push 63 = .ok (.iconst 1, 1) := by decide +kernel
theorem dX9_push_64 : decode cX9_push 64 = .ok (.iadd, 1) := by decide +kernel
theorem dX9_push_65 : decode cX9_push 65 = .ok (.putfield 44, 3) := by decide +kernel
theorem dX9_push_68 : decode cX9_push 68 = .ok (.return_, 1) := by decide +kernel
theorem dX9_work_0 : decode cX9_work 0 = .ok (.aload_n 0, 1) := by decide +kernel
