theorem dX0_init_0 : decode cX0_init 0 = .ok (.aload_n 0, 1) := by decide +kernel
theorem dX0_init_1 : decode cX0_init 1 = .ok (.invokespecial 3, 3) := by decide +kernel
theorem dX0_init_4 : decode cX0_init 4 = .ok (.aload_n 0, 1) := by decide +kernel
theorem dX0_init_5 : decode cX0_init 5 = .ok (.sipush 300, 3) := by decide +kernel
theorem dX0_init_8 : decode cX0_init 8 = .ok (.newarray .int, 2) := by decide +kernel
theorem dX0_init_10 : decode cX0_init 10 = .ok (.putfield 9, 3) := by decide +kernel
theorem dX0_init_13 : decode cX0_init 13 = .ok (.return_, 1) := by decide +kernel
theorem dX0_length_0 : decode cX0_length 0 = .ok (.aload_n 0, 1) := by decide +kernel
theorem dX0_length_1 : decode cX0_length 1 = .ok (.getfield 15, 3) := by decide +kernel
theorem dX0_length_4 : decode cX0_length 4 = .ok (.ireturn, 1) := by decide +kernel
theorem dX0_at_0 : decode cX0_at 0 = .ok (.iload_n 1, 1) := by decide +kernel
theorem dX0_at_1 : decode cX0_at 1 = .ok (.aload_n 0, 1) := by decide +kernel
theorem dX0_at_2 : decode cX0_at 2 = .ok (.getfield 15, 3) := by decide +kernel
theorem dX0_at_5 : decode cX0_at 5 = .ok (.if_icmp .ge 14, 3) := by decide +kernel
theorem dX0_at_8 : decode cX0_at 8 = .ok (.aload_n 0, 1) := by decide +kernel
theorem dX0_at_9 : decode cX0_at 9 = .ok (.getfield 9, 3) := by decide +kernel
theorem dX0_at_12 : decode cX0_at 12 = .ok (.iload_n 1, 1) := by decide +kernel
theorem dX0_at_13 : decode cX0_at 13 = .ok (.invokestatic 19, 3) := by decide +kernel
theorem dX0_at_16 : decode cX0_at 16 = .ok (.goto 4, 3) := by decide +kernel
theorem dX0_at_19 : decode cX0_at 19 = .ok (.iconst 0, 1) := by decide +kernel
theorem dX0_at_20 : decode cX0_at 20 = .ok (.ireturn, 1) := by decide +kernel
theorem dX0_add_0 : decode cX0_add 0 = .ok (.aload_n 0, 1) := by decide +kernel
theorem dX0_add_1 : decode cX0_add 1 = .ok (.getfield 15, 3) := by decide +kernel
theorem dX0_add_4 : decode cX0_add 4 = .ok (.ifCond .lt 13, 3) := by decide +kernel
theorem dX0_add_7 : decode cX0_add 7 = .ok (.aload_n 0, 1) := by decide +kernel
theorem dX0_add_8 : decode cX0_add 8 = .ok (.getfield 15, 3) := by decide +kernel
theorem dX0_add_11 : decode cX0_add 11 = .ok (.sipush 300, 3) := by decide +kernel
theorem dX0_add_14 : decode cX0_add 14 = .ok (.if_icmp .lt 5, 3) := by decide +kernel
theorem dX0_add_17 : decode cX0_add 17 = .ok (.iconst 0, 1) := by decide +kernel
theorem dX0_add_18 : decode cX0_add 18 = .ok (.ireturn, 1) := by decide +kernel
theorem dX0_add_19 : decode cX0_add 19 = .ok (.aload_n 0, 1) := by decide +kernel
theorem dX0_add_20 : decode cX0_add 20 = .ok (.getfield 9, 3) := by decide +kernel
theorem dX0_add_23 : decode cX0_add 23 = .ok (.aload_n 0, 1) := by decide +kernel
theorem dX0_add_24 : decode cX0_add 24 = .ok (.getfield 15, 3) := by decide +kernel
theorem dX0_add_27 : decode cX0_add 27 = .ok (.iload_n 1, 1) := by decide +kernel
theorem dX0_add_28 : decode cX0_add 28 = .ok (.sipush 255, 3) := by decide +kernel
theorem dX0_add_31 : decode cX0_add 31 = .ok (.iand, 1) := by decide +kernel
theorem dX0_add_32 : decode cX0_add 32 = .ok (.iastore, 1) := by decide +kernel
theorem dX0_add_33 : decode cX0_add 33 = .ok (.aload_n 0, 1) := by decide +kernel
theorem dX0_add_34 : decode cX0_add 34 = .ok (.dup, 1) := by decide +kernel
theorem dX0_add_35 : decode cX0_add 35 = .ok (.getfield 15, 3) := by decide +kernel
theorem dX0_add_38 : decode cX0_add 38 = .ok (.iconst 1, 1) := by decide +kernel
theorem dX0_add_39 : decode cX0_add 39 = .ok (.iadd, 1) := by decide +kernel
theorem dX0_add_40 : decode cX0_add 40 = .ok (.putfield 15, 3) := by decide +kernel
theorem dX0_add_43 : decode cX0_add 43 = .ok (.iconst 1, 1) := by decide +kernel
theorem dX0_add_44 : decode cX0_add 44 = .ok (.ireturn, 1) := by decide +kernel
theorem dX0_addFour_0 : decode cX0_addFour 0 = .ok (.aload_n 0, 1) := by decide +kernel
theorem dX0_addFour_1 : decode cX0_addFour 1 = .ok (.iload_n 1, 1) := by decide +kernel
theorem dX0_addFour_2 : decode cX0_addFour 2 = .ok (.bipush 24, 2) := by decide +kernel
theorem dX0_addFour_4 : decode cX0_addFour 4 = .ok (.iushr, 1) := by decide +kernel
theorem dX0_addFour_5 : decode cX0_addFour 5 = .ok (.invokevirtual 25, 3) := by decide +kernel
theorem dX0_addFour_8 : decode cX0_addFour 8 = .ok (.pop, 1) := by decide +kernel
theorem dX0_addFour_9 : decode cX0_addFour 9 = .ok (.aload_n 0, 1) := by decide +kernel
theorem dX0_addFour_10 : decode cX0_addFour 10 = .ok (.iload_n 1, 1) := by decide +kernel
theorem dX0_addFour_11 : decode cX0_addFour 11 = .ok (.bipush 16, 2) := by decide +kernel
theorem dX0_addFour_13 : decode cX0_addFour 13 = .ok (.iushr, 1) := by decide +kernel
theorem dX0_addFour_14 : decode cX0_addFour 14 = .ok (.invokevirtual 25, 3) := by decide +kernel
theorem dX0_addFour_17 : decode cX0_addFour 17 = .ok (.pop, 1) := by decide +kernel
theorem dX0_addFour_18 : decode cX0_addFour 18 = .ok (.aload_n 0, 1) := by decide +kernel
theorem dX0_addFour_19 : decode cX0_addFour 19 = .ok (.iload_n 1, 1) := by decide +kernel
theorem dX0_addFour_20 : decode cX0_addFour 20 = .ok (.bipush 8, 2) := by decide +kernel
theorem dX0_addFour_22 : decode cX0_addFour 22 = .ok (.iushr, 1) := by decide +kernel
theorem dX0_addFour_23 : decode cX0_addFour 23 = .ok (.invokevirtual 25, 3) := by decide +kernel
theorem dX0_addFour_26 : decode cX0_addFour 26 = .ok (.pop, 1) := by decide +kernel
theorem dX0_addFour_27 : decode cX0_addFour 27 = .ok (.aload_n 0, 1) := by decide +kernel
theorem dX0_addFour_28 : decode cX0_addFour 28 = .ok (.iload_n 1, 1) := by decide +kernel
theorem dX0_addFour_29 : decode cX0_addFour 29 = .ok (.invokevirtual 25, 3) := by decide +kernel
theorem dX0_addFour_32 : decode cX0_addFour 32 = .ok (.pop, 1) := by decide +kernel
theorem dX0_addFour_33 : decode cX0_addFour 33 = .ok (.return_, 1) := by decide +kernel
theorem dX0_shorten_0 : decode cX0_shorten 0 = .ok (.iload_n 1, 1) := by decide +kernel
theorem dX0_shorten_1 : decode cX0_shorten 1 = .ok (.ifCond .lt 16, 3) := by decide +kernel
theorem dX0_shorten_4 : decode cX0_shorten 4 = .ok (.iload_n 1, 1) := by decide +kernel
theorem dX0_shorten_5 : decode cX0_shorten 5 = .ok (.aload_n 0, 1) := by decide +kernel
theorem dX0_shorten_6 : decode cX0_shorten 6 = .ok (.getfield 15, 3) := by decide +kernel
theorem dX0_shorten_9 : decode cX0_shorten 9 = .ok (.if_icmp .ge 8, 3) := by decide +kernel
theorem dX0_shorten_12 : decode cX0_shorten 12 = .ok (.aload_n 0, 1) := by decide +kernel
theorem dX0_shorten_13 : decode cX0_shorten 13 = .ok (.iload_n 1, 1) := by decide +kernel
theorem dX0_shorten_14 : decode cX0_shorten 14 = .ok (.putfield 15, 3) := by decide +kernel
theorem dX0_shorten_17 : decode cX0_shorten 17 = .ok (.return_, 1) := by decide +kernel
theorem dX0_copy_0 : decode cX0_copy 0 = .ok (.aload_n 0, 1) := by decide +kernel
theorem dX0_copy_1 : decode cX0_copy 1 = .ok (.iconst 0, 1) := by decide +kernel
theorem dX0_copy_2 : decode cX0_copy 2 = .ok (.putfield 15, 3) := by decide +kernel
theorem dX0_copy_5 : decode cX0_copy 5 = .ok (.iconst 0, 1) := by decide +kernel
theorem dX0_copy_6 : decode cX0_copy 6 = .ok (.istore_n 2, 1) := by decide +kernel
theorem dX0_copy_7 : decode cX0_copy 7 = .ok (.iload_n 2, 1) := by decide +kernel
theorem dX0_copy_8 : decode cX0_copy 8 = .ok (.aload_n 1, 1) := by decide +kernel
theorem dX0_copy_9 : decode cX0_copy 9 = .ok (.getfield 15, 3) := by decide +kernel
theorem dX0_copy_12 : decode cX0_copy 12 = .ok (.if_icmp .ge 19, 3) := by decide +kernel
theorem dX0_copy_15 : decode cX0_copy 15 = .ok (.aload_n 0, 1) := by decide +kernel
theorem dX0_copy_16 : decode cX0_copy 16 = .ok (.aload_n 1, 1) := by decide +kernel
theorem dX0_copy_17 : decode cX0_copy 17 = .ok (.iload_n 2, 1) := by decide +kernel
theorem dX0_copy_18 : decode cX0_copy 18 = .ok (.invokevirtual 29, 3) := by decide +kernel
theorem dX0_copy_21 : decode cX0_copy 21 = .ok (.invokevirtual 25, 3) := by decide +kernel
theorem dX0_copy_24 : decode cX0_copy 24 = .ok (.pop, 1) := by decide +kernel
theorem dX0_copy_25 : decode cX0_copy 25 = .ok (.iinc 2 1, 3) := by decide +kernel
theorem dX0_copy_28 : decode cX0_copy 28 = .ok (.goto (-21), 3) := by decide +kernel
theorem dX0_copy_31 : decode cX0_copy 31 = .ok (.return_, 1) := by decide +kernel
theorem dX1_init_0 : decode cX1_init 0 = .ok (.aload_n 0, 1) := by decide +kernel
theorem dX1_init_1 : decode cX1_init 1 = .ok (.invokespecial 3, 3) := by decide +kernel
theorem dX1_init_4 : decode cX1_init 4 = .ok (.aload_n 0, 1) := by decide +kernel
theorem dX1_init_5 : decode cX1_init 5 = .ok (.bipush 16, 2) := by decide +kernel
theorem dX1_init_7 : decode cX1_init 7 = .ok (.newarray .int, 2) := by decide +kernel
theorem dX1_init_9 : decode cX1_init 9 = .ok (.putfield 9, 3) := by decide +kernel
theorem dX1_init_12 : decode cX1_init 12 = .ok (.aload_n 0, 1) := by decide +kernel
theorem dX1_init_13 : decode cX1_init 13 = .ok (.bipush 16, 2) := by decide +kernel
theorem dX1_init_15 : decode cX1_init 15 = .ok (.newarray .int, 2) := by decide +kernel
theorem dX1_init_17 : decode cX1_init 17 = .ok (.putfield 15, 3) := by decide +kernel
theorem dX1_init_20 : decode cX1_init 20 = .ok (.aload_n 0, 1) := by decide +kernel
theorem dX1_init_21 : decode cX1_init 21 = .ok (.bipush 16, 2) := by decide +kernel
theorem dX1_init_23 : decode cX1_init 23 = .ok (.newarray .int, 2) := by decide +kernel
theorem dX1_init_25 : decode cX1_init 25 = .ok (.putfield 18, 3) := by decide +kernel
theorem dX1_init_28 : decode cX1_init 28 = .ok (.return_, 1) := by decide +kernel
theorem dX1_size_0 : decode cX1_size 0 = .ok (.aload_n 0, 1) := by decide +kernel
theorem dX1_size_1 : decode cX1_size 1 = .ok (.getfield 21, 3) := by decide +kernel
theorem dX1_size_4 : decode cX1_size 4 = .ok (.ireturn, 1) := by decide +kernel
theorem dX1_has_0 : decode cX1_has 0 = .ok (.iload_n 1, 1) := by decide +kernel
theorem dX1_has_1 : decode cX1_has 1 = .ok (.ifCond .lt 15, 3) := by decide +kernel
theorem dX1_has_4 : decode cX1_has 4 = .ok (.iload_n 1, 1) := by decide +kernel
theorem dX1_has_5 : decode cX1_has 5 = .ok (.aload_n 0, 1) := by decide +kernel
theorem dX1_has_6 : decode cX1_has 6 = .ok (.getfield 21, 3) := by decide +kernel
theorem dX1_has_9 : decode cX1_has 9 = .ok (.if_icmp .ge 7, 3) := by decide +kernel
theorem dX1_has_12 : decode cX1_has 12 = .ok (.iconst 1, 1) := by decide +kernel
theorem dX1_has_13 : decode cX1_has 13 = .ok (.goto 4, 3) := by decide +kernel
theorem dX1_has_16 : decode cX1_has 16 = .ok (.iconst 0, 1) := by decide +kernel
theorem dX1_has_17 : decode cX1_has 17 = .ok (.ireturn, 1) := by decide +kernel
theorem dX1_kind_0 : decode cX1_kind 0 = .ok (.iload_n 1, 1) := by decide +kernel
theorem dX1_kind_1 : decode cX1_kind 1 = .ok (.ifCond .lt 18, 3) := by decide +kernel
theorem dX1_kind_4 : decode cX1_kind 4 = .ok (.iload_n 1, 1) := by decide +kernel
theorem dX1_kind_5 : decode cX1_kind 5 = .ok (.bipush 16, 2) := by decide +kernel
theorem dX1_kind_7 : decode cX1_kind 7 = .ok (.if_icmp .ge 12, 3) := by decide +kernel
theorem dX1_kind_10 : decode cX1_kind 10 = .ok (.aload_n 0, 1) := by decide +kernel
theorem dX1_kind_11 : decode cX1_kind 11 = .ok (.getfield 9, 3) := by decide +kernel
theorem dX1_kind_14 : decode cX1_kind 14 = .ok (.iload_n 1, 1) := by decide +kernel
theorem dX1_kind_15 : decode cX1_kind 15 = .ok (.iaload, 1) := by decide +kernel
theorem dX1_kind_16 : decode cX1_kind 16 = .ok (.goto 4, 3) := by decide +kernel
theorem dX1_kind_19 : decode cX1_kind 19 = .ok (.iconst 0, 1) := by decide +kernel
theorem dX1_kind_20 : decode cX1_kind 20 = .ok (.ireturn, 1) := by decide +kernel
theorem dX1_a_0 : decode cX1_a 0 = .ok (.iload_n 1, 1) := by decide +kernel
theorem dX1_a_1 : decode cX1_a 1 = .ok (.ifCond .lt 18, 3) := by decide +kernel
theorem dX1_a_4 : decode cX1_a 4 = .ok (.iload_n 1, 1) := by decide +kernel
theorem dX1_a_5 : decode cX1_a 5 = .ok (.bipush 16, 2) := by decide +kernel
theorem dX1_a_7 : decode cX1_a 7 = .ok (.if_icmp .ge 12, 3) := by decide +kernel
theorem dX1_a_10 : decode cX1_a 10 = .ok (.aload_n 0, 1) := by decide +kernel
theorem dX1_a_11 : decode cX1_a 11 = .ok (.getfield 15, 3) := by decide +kernel
theorem dX1_a_14 : decode cX1_a 14 = .ok (.iload_n 1, 1) := by decide +kernel
theorem dX1_a_15 : decode cX1_a 15 = .ok (.iaload, 1) := by decide +kernel
theorem dX1_a_16 : decode cX1_a 16 = .ok (.goto 4, 3) := by decide +kernel
theorem dX1_a_19 : decode cX1_a 19 = .ok (.iconst 0, 1) := by decide +kernel
theorem dX1_a_20 : decode cX1_a 20 = .ok (.ireturn, 1) := by decide +kernel
theorem dX1_b_0 : decode cX1_b 0 = .ok (.iload_n 1, 1) := by decide +kernel
theorem dX1_b_1 : decode cX1_b 1 = .ok (.ifCond .lt 18, 3) := by decide +kernel
theorem dX1_b_4 : decode cX1_b 4 = .ok (.iload_n 1, 1) := by decide +kernel
theorem dX1_b_5 : decode cX1_b 5 = .ok (.bipush 16, 2) := by decide +kernel
theorem dX1_b_7 : decode cX1_b 7 = .ok (.if_icmp .ge 12, 3) := by decide +kernel
theorem dX1_b_10 : decode cX1_b 10 = .ok (.aload_n 0, 1) := by decide +kernel
theorem dX1_b_11 : decode cX1_b 11 = .ok (.getfield 18, 3) := by decide +kernel
theorem dX1_b_14 : decode cX1_b 14 = .ok (.iload_n 1, 1) := by decide +kernel
theorem dX1_b_15 : decode cX1_b 15 = .ok (.iaload, 1) := by decide +kernel
theorem dX1_b_16 : decode cX1_b 16 = .ok (.goto 4, 3) := by decide +kernel
theorem dX1_b_19 : decode cX1_b 19 = .ok (.iconst 0, 1) := by decide +kernel
theorem dX1_b_20 : decode cX1_b 20 = .ok (.ireturn, 1) := by decide +kernel
theorem dX1_low_0 : decode cX1_low 0 = .ok (.aload_n 0, 1) := by decide +kernel
theorem dX1_low_1 : decode cX1_low 1 = .ok (.iload_n 1, 1) := by decide +kernel
theorem dX1_low_2 : decode cX1_low 2 = .ok (.invokevirtual 25, 3) := by decide +kernel
theorem dX1_low_5 : decode cX1_low 5 = .ok (.iconst 5, 1) := by decide +kernel
theorem dX1_low_6 : decode cX1_low 6 = .ok (.ishr, 1) := by decide +kernel
theorem dX1_low_7 : decode cX1_low 7 = .ok (.ireturn, 1) := by decide +kernel
theorem dX1_high_0 : decode cX1_high 0 = .ok (.aload_n 0, 1) := by decide +kernel
theorem dX1_high_1 : decode cX1_high 1 = .ok (.iload_n 1, 1) := by decide +kernel
theorem dX1_high_2 : decode cX1_high 2 = .ok (.invokevirtual 25, 3) := by decide +kernel
theorem dX1_high_5 : decode cX1_high 5 = .ok (.bipush 31, 2) := by decide +kernel
theorem dX1_high_7 : decode cX1_high 7 = .ok (.iand, 1) := by decide +kernel
theorem dX1_high_8 : decode cX1_high 8 = .ok (.ireturn, 1) := by decide +kernel
theorem dX1_isBag_0 : decode cX1_isBag 0 = .ok (.aload_n 0, 1) := by decide +kernel
theorem dX1_isBag_1 : decode cX1_isBag 1 = .ok (.iload_n 1, 1) := by decide +kernel
theorem dX1_isBag_2 : decode cX1_isBag 2 = .ok (.invokevirtual 29, 3) := by decide +kernel
theorem dX1_isBag_5 : decode cX1_isBag 5 = .ok (.istore_n 2, 1) := by decide +kernel
theorem dX1_isBag_6 : decode cX1_isBag 6 = .ok (.iload_n 2, 1) := by decide +kernel
theorem dX1_isBag_7 : decode cX1_isBag 7 = .ok (.iconst 5, 1) := by decide +kernel
theorem dX1_isBag_8 : decode cX1_isBag 8 = .ok (.if_icmp .eq 9, 3) := by decide +kernel
theorem dX1_isBag_11 : decode cX1_isBag 11 = .ok (.iload_n 2, 1) := by decide +kernel
theorem dX1_isBag_12 : decode cX1_isBag 12 = .ok (.bipush 6, 2) := by decide +kernel
theorem dX1_isBag_14 : decode cX1_isBag 14 = .ok (.if_icmp .ne 7, 3) := by decide +kernel
theorem dX1_isBag_17 : decode cX1_isBag 17 = .ok (.iconst 1, 1) := by decide +kernel
theorem dX1_isBag_18 : decode cX1_isBag 18 = .ok (.goto 4, 3) := by decide +kernel
theorem dX1_isBag_21 : decode cX1_isBag 21 = .ok (.iconst 0, 1) := by decide +kernel
theorem dX1_isBag_22 : decode cX1_isBag 22 = .ok (.ireturn, 1) := by decide +kernel
theorem dX1_add_0 : decode cX1_add 0 = .ok (.aload_n 0, 1) := by decide +kernel
theorem dX1_add_1 : decode cX1_add 1 = .ok (.getfield 21, 3) := by decide +kernel
theorem dX1_add_4 : decode cX1_add 4 = .ok (.bipush 16, 2) := by decide +kernel
theorem dX1_add_6 : decode cX1_add 6 = .ok (.if_icmp .ge 26, 3) := by decide +kernel
theorem dX1_add_9 : decode cX1_add 9 = .ok (.aload_n 0, 1) := by decide +kernel
theorem dX1_add_10 : decode cX1_add 10 = .ok (.dup, 1) := by decide +kernel
theorem dX1_add_11 : decode cX1_add 11 = .ok (.getfield 21, 3) := by decide +kernel
theorem dX1_add_14 : decode cX1_add 14 = .ok (.iconst 1, 1) := by decide +kernel
theorem dX1_add_15 : decode cX1_add 15 = .ok (.iadd, 1) := by decide +kernel
theorem dX1_add_16 : decode cX1_add 16 = .ok (.putfield 21, 3) := by decide +kernel
theorem dX1_add_19 : decode cX1_add 19 = .ok (.aload_n 0, 1) := by decide +kernel
theorem dX1_add_20 : decode cX1_add 20 = .ok (.aload_n 0, 1) := by decide +kernel
theorem dX1_add_21 : decode cX1_add 21 = .ok (.getfield 21, 3) := by decide +kernel
theorem dX1_add_24 : decode cX1_add 24 = .ok (.iconst 1, 1) := by decide +kernel
theorem dX1_add_25 : decode cX1_add 25 = .ok (.isub, 1) := by decide +kernel
theorem dX1_add_26 : decode cX1_add 26 = .ok (.iload_n 1, 1) := by decide +kernel
theorem dX1_add_27 : decode cX1_add 27 = .ok (.iload_n 2, 1) := by decide +kernel
theorem dX1_add_28 : decode cX1_add 28 = .ok (.iload_n 3, 1) := by decide +kernel
theorem dX1_add_29 : decode cX1_add 29 = .ok (.invokevirtual 32, 3) := by decide +kernel
theorem dX1_add_32 : decode cX1_add 32 = .ok (.return_, 1) := by decide +kernel
theorem dX1_change_0 : decode cX1_change 0 = .ok (.aload_n 0, 1) := by decide +kernel
theorem dX1_change_1 : decode cX1_change 1 = .ok (.getfield 9, 3) := by decide +kernel
theorem dX1_change_4 : decode cX1_change 4 = .ok (.iload_n 1, 1) := by decide +kernel
theorem dX1_change_5 : decode cX1_change 5 = .ok (.iload_n 2, 1) := by decide +kernel
theorem dX1_change_6 : decode cX1_change 6 = .ok (.invokestatic 36, 3) := by decide +kernel
theorem dX1_change_9 : decode cX1_change 9 = .ok (.aload_n 0, 1) := by decide +kernel
theorem dX1_change_10 : decode cX1_change 10 = .ok (.getfield 15, 3) := by decide +kernel
theorem dX1_change_13 : decode cX1_change 13 = .ok (.iload_n 1, 1) := by decide +kernel
theorem dX1_change_14 : decode cX1_change 14 = .ok (.iload_n 3, 1) := by decide +kernel
theorem dX1_change_15 : decode cX1_change 15 = .ok (.invokestatic 36, 3) := by decide +kernel
theorem dX1_change_18 : decode cX1_change 18 = .ok (.aload_n 0, 1) := by decide +kernel
theorem dX1_change_19 : decode cX1_change 19 = .ok (.getfield 18, 3) := by decide +kernel
theorem dX1_change_22 : decode cX1_change 22 = .ok (.iload_n 1, 1) := by decide +kernel
theorem dX1_change_23 : decode cX1_change 23 = .ok (.iload 4, 2) := by decide +kernel
theorem dX1_change_25 : decode cX1_change 25 = .ok (.invokestatic 36, 3) := by decide +kernel
theorem dX1_change_28 : decode cX1_change 28 = .ok (.return_, 1) := by decide +kernel
theorem dX1_dropLast_0 : decode cX1_dropLast 0 = .ok (.aload_n 0, 1) := by decide +kernel
theorem dX1_dropLast_1 : decode cX1_dropLast 1 = .ok (.getfield 21, 3) := by decide +kernel
theorem dX1_dropLast_4 : decode cX1_dropLast 4 = .ok (.ifCond .le 13, 3) := by decide +kernel
theorem dX1_dropLast_7 : decode cX1_dropLast 7 = .ok (.aload_n 0, 1) := by decide +kernel
theorem dX1_dropLast_8 : decode cX1_dropLast 8 = .ok (.dup, 1) := by decide +kernel
theorem dX1_dropLast_9 : decode cX1_dropLast 9 = .ok (.getfield 21, 3) := by decide +kernel
theorem dX1_dropLast_12 : decode cX1_dropLast 12 = .ok (.iconst 1, 1) := by decide +kernel
theorem dX1_dropLast_13 : decode cX1_dropLast 13 = .ok (.isub, 1) := by decide +kernel
theorem dX1_dropLast_14 : decode cX1_dropLast 14 = .ok (.putfield 21, 3) := by decide +kernel
theorem dX1_dropLast_17 : decode cX1_dropLast 17 = .ok (.return_, 1) := by decide +kernel
theorem dX2_init_0 : decode cX2_init 0 = .ok (.aload_n 0, 1) := by decide +kernel
theorem dX2_init_1 : decode cX2_init 1 = .ok (.invokespecial 3, 3) := by decide +kernel
theorem dX2_init_4 : decode cX2_init 4 = .ok (.aload_n 0, 1) := by decide +kernel
theorem dX2_init_5 : decode cX2_init 5 = .ok (.bipush 8, 2) := by decide +kernel
theorem dX2_init_7 : decode cX2_init 7 = .ok (.newarray .int, 2) := by decide +kernel
theorem dX2_init_9 : decode cX2_init 9 = .ok (.putfield 9, 3) := by decide +kernel
theorem dX2_init_12 : decode cX2_init 12 = .ok (.aload_n 0, 1) := by decide +kernel
theorem dX2_init_13 : decode cX2_init 13 = .ok (.bipush 8, 2) := by decide +kernel
theorem dX2_init_15 : decode cX2_init 15 = .ok (.newarray .int, 2) := by decide +kernel
theorem dX2_init_17 : decode cX2_init 17 = .ok (.putfield 15, 3) := by decide +kernel
theorem dX2_init_20 : decode cX2_init 20 = .ok (.aload_n 0, 1) := by decide +kernel
theorem dX2_init_21 : decode cX2_init 21 = .ok (.bipush 8, 2) := by decide +kernel
theorem dX2_init_23 : decode cX2_init 23 = .ok (.newarray .int, 2) := by decide +kernel
theorem dX2_init_25 : decode cX2_init 25 = .ok (.putfield 18, 3) := by decide +kernel
theorem dX2_init_28 : decode cX2_init 28 = .ok (.aload_n 0, 1) := by decide +kernel
theorem dX2_init_29 : decode cX2_init 29 = .ok (.bipush 8, 2) := by decide +kernel
theorem dX2_init_31 : decode cX2_init 31 = .ok (.newarray .int, 2) := by decide +kernel
theorem dX2_init_33 : decode cX2_init 33 = .ok (.putfield 21, 3) := by decide +kernel
theorem dX2_init_36 : decode cX2_init 36 = .ok (.aload_n 0, 1) := by decide +kernel
theorem dX2_init_37 : decode cX2_init 37 = .ok (.aload_n 1, 1) := by decide +kernel
theorem dX2_init_38 : decode cX2_init 38 = .ok (.putfield 24, 3) := by decide +kernel
theorem dX2_init_41 : decode cX2_init 41 = .ok (.return_, 1) := by decide +kernel
theorem dX2_size_0 : decode cX2_size 0 = .ok (.aload_n 0, 1) := by decide +kernel
theorem dX2_size_1 : decode cX2_size 1 = .ok (.getfield 28, 3) := by decide +kernel
theorem dX2_size_4 : decode cX2_size 4 = .ok (.ireturn, 1) := by decide +kernel
theorem dX2_keep_0 : decode cX2_keep 0 = .ok (.aload_n 0, 1) := by decide +kernel
theorem dX2_keep_1 : decode cX2_keep 1 = .ok (.getfield 28, 3) := by decide +kernel
theorem dX2_keep_4 : decode cX2_keep 4 = .ok (.bipush 8, 2) := by decide +kernel
theorem dX2_keep_6 : decode cX2_keep 6 = .ok (.if_icmp .lt 7, 3) := by decide +kernel
theorem dX2_keep_9 : decode cX2_keep 9 = .ok (.aload_n 0, 1) := by decide +kernel
theorem dX2_keep_10 : decode cX2_keep 10 = .ok (.invokevirtual 32, 3) := by decide +kernel
theorem dX2_keep_13 : decode cX2_keep 13 = .ok (.aload_n 0, 1) := by decide +kernel
theorem dX2_keep_14 : decode cX2_keep 14 = .ok (.getfield 9, 3) := by decide +kernel
theorem dX2_keep_17 : decode cX2_keep 17 = .ok (.aload_n 0, 1) := by decide +kernel
theorem dX2_keep_18 : decode cX2_keep 18 = .ok (.getfield 28, 3) := by decide +kernel
theorem dX2_keep_21 : decode cX2_keep 21 = .ok (.iload_n 1, 1) := by decide +kernel
theorem dX2_keep_22 : decode cX2_keep 22 = .ok (.invokestatic 35, 3) := by decide +kernel
theorem dX2_keep_25 : decode cX2_keep 25 = .ok (.aload_n 0, 1) := by decide +kernel
theorem dX2_keep_26 : decode cX2_keep 26 = .ok (.getfield 15, 3) := by decide +kernel
theorem dX2_keep_29 : decode cX2_keep 29 = .ok (.aload_n 0, 1) := by decide +kernel
theorem dX2_keep_30 : decode cX2_keep 30 = .ok (.getfield 28, 3) := by decide +kernel
theorem dX2_keep_33 : decode cX2_keep 33 = .ok (.iload_n 2, 1) := by decide +kernel
theorem dX2_keep_34 : decode cX2_keep 34 = .ok (.invokestatic 35, 3) := by decide +kernel
theorem dX2_keep_37 : decode cX2_keep 37 = .ok (.aload_n 0, 1) := by decide +kernel
theorem dX2_keep_38 : decode cX2_keep 38 = .ok (.getfield 18, 3) := by decide +kernel
theorem dX2_keep_41 : decode cX2_keep 41 = .ok (.aload_n 0, 1) := by decide +kernel
theorem dX2_keep_42 : decode cX2_keep 42 = .ok (.getfield 28, 3) := by decide +kernel
theorem dX2_keep_45 : decode cX2_keep 45 = .ok (.iload_n 3, 1) := by decide +kernel
theorem dX2_keep_46 : decode cX2_keep 46 = .ok (.invokestatic 35, 3) := by decide +kernel
theorem dX2_keep_49 : decode cX2_keep 49 = .ok (.aload_n 0, 1) := by decide +kernel
theorem dX2_keep_50 : decode cX2_keep 50 = .ok (.getfield 21, 3) := by decide +kernel
theorem dX2_keep_53 : decode cX2_keep 53 = .ok (.aload_n 0, 1) := by decide +kernel
theorem dX2_keep_54 : decode cX2_keep 54 = .ok (.getfield 28, 3) := by decide +kernel
theorem dX2_keep_57 : decode cX2_keep 57 = .ok (.iload 4, 2) := by decide +kernel
theorem dX2_keep_59 : decode cX2_keep 59 = .ok (.invokestatic 35, 3) := by decide +kernel
theorem dX2_keep_62 : decode cX2_keep 62 = .ok (.aload_n 0, 1) := by decide +kernel
theorem dX2_keep_63 : decode cX2_keep 63 = .ok (.dup, 1) := by decide +kernel
theorem dX2_keep_64 : decode cX2_keep 64 = .ok (.getfield 28, 3) := by decide +kernel
theorem dX2_keep_67 : decode cX2_keep 67 = .ok (.iconst 1, 1) := by decide +kernel
theorem dX2_keep_68 : decode cX2_keep 68 = .ok (.iadd, 1) := by decide +kernel
theorem dX2_keep_69 : decode cX2_keep 69 = .ok (.putfield 28, 3) := by decide +kernel
theorem dX2_keep_72 : decode cX2_keep 72 = .ok (.return_, 1) := by decide +kernel
theorem dX2_takeBack_0 : decode cX2_takeBack 0 = .ok (.aload_n 0, 1) := by decide +kernel
theorem dX2_takeBack_1 : decode cX2_takeBack 1 = .ok (.getfield 28, 3) := by decide +kernel
theorem dX2_takeBack_4 : decode cX2_takeBack 4 = .ok (.ifCond .gt 4, 3) := by decide +kernel
theorem dX2_takeBack_7 : decode cX2_takeBack 7 = .ok (.return_, 1) := by decide +kernel
theorem dX2_takeBack_8 : decode cX2_takeBack 8 = .ok (.aload_n 0, 1) := by decide +kernel
theorem dX2_takeBack_9 : decode cX2_takeBack 9 = .ok (.dup, 1) := by decide +kernel
theorem dX2_takeBack_10 : decode cX2_takeBack 10 = .ok (.getfield 28, 3) := by decide +kernel
theorem dX2_takeBack_13 : decode cX2_takeBack 13 = .ok (.iconst 1, 1) := by decide +kernel
theorem dX2_takeBack_14 : decode cX2_takeBack 14 = .ok (.isub, 1) := by decide +kernel
theorem dX2_takeBack_15 : decode cX2_takeBack 15 = .ok (.putfield 28, 3) := by decide +kernel
theorem dX2_takeBack_18 : decode cX2_takeBack 18 = .ok (.aload_n 0, 1) := by decide +kernel
theorem dX2_takeBack_19 : decode cX2_takeBack 19 = .ok (.getfield 15, 3) := by decide +kernel
theorem dX2_takeBack_22 : decode cX2_takeBack 22 = .ok (.aload_n 0, 1) := by decide +kernel
theorem dX2_takeBack_23 : decode cX2_takeBack 23 = .ok (.getfield 28, 3) := by decide +kernel
theorem dX2_takeBack_26 : decode cX2_takeBack 26 = .ok (.invokestatic 41, 3) := by decide +kernel
theorem dX2_takeBack_29 : decode cX2_takeBack 29 = .ok (.istore_n 1, 1) := by decide +kernel
theorem dX2_takeBack_30 : decode cX2_takeBack 30 = .ok (.iload_n 1, 1) := by decide +kernel
theorem dX2_takeBack_31 : decode cX2_takeBack 31 = .ok (.iconst (-1), 1) := by decide +kernel
theorem dX2_takeBack_32 : decode cX2_takeBack 32 = .ok (.if_icmp .ne 13, 3) := by decide +kernel
theorem dX2_takeBack_35 : decode cX2_takeBack 35 = .ok (.aload_n 0, 1) := by decide +kernel
theorem dX2_takeBack_36 : decode cX2_takeBack 36 = .ok (.getfield 24, 3) := by decide +kernel
theorem dX2_takeBack_39 : decode cX2_takeBack 39 = .ok (.invokevirtual 45, 3) := by decide +kernel
theorem dX2_takeBack_42 : decode cX2_takeBack 42 = .ok (.goto 44, 3) := by decide +kernel
theorem dX2_takeBack_45 : decode cX2_takeBack 45 = .ok (.aload_n 0, 1) := by decide +kernel
theorem dX2_takeBack_46 : decode cX2_takeBack 46 = .ok (.getfield 24, 3) := by decide +kernel
theorem dX2_takeBack_49 : decode cX2_takeBack 49 = .ok (.aload_n 0, 1) := by decide +kernel
theorem dX2_takeBack_50 : decode cX2_takeBack 50 = .ok (.getfield 9, 3) := by decide +kernel
theorem dX2_takeBack_53 : decode cX2_takeBack 53 = .ok (.aload_n 0, 1) := by decide +kernel
theorem dX2_takeBack_54 : decode cX2_takeBack 54 = .ok (.getfield 28, 3) := by decide +kernel
theorem dX2_takeBack_57 : decode cX2_takeBack 57 = .ok (.invokestatic 41, 3) := by decide +kernel
theorem dX2_takeBack_60 : decode cX2_takeBack 60 = .ok (.iload_n 1, 1) := by decide +kernel
theorem dX2_takeBack_61 : decode cX2_takeBack 61 = .ok (.aload_n 0, 1) := by decide +kernel
theorem dX2_takeBack_62 : decode cX2_takeBack 62 = .ok (.getfield 18, 3) := by decide +kernel
theorem dX2_takeBack_65 : decode cX2_takeBack 65 = .ok (.aload_n 0, 1) := by decide +kernel
theorem dX2_takeBack_66 : decode cX2_takeBack 66 = .ok (.getfield 28, 3) := by decide +kernel
theorem dX2_takeBack_69 : decode cX2_takeBack 69 = .ok (.invokestatic 41, 3) := by decide +kernel
theorem dX2_takeBack_72 : decode cX2_takeBack 72 = .ok (.aload_n 0, 1) := by decide +kernel
theorem dX2_takeBack_73 : decode cX2_takeBack 73 = .ok (.getfield 21, 3) := by decide +kernel
theorem dX2_takeBack_76 : decode cX2_takeBack 76 = .ok (.aload_n 0, 1) := by decide +kernel
theorem dX2_takeBack_77 : decode cX2_takeBack 77 = .ok (.getfield 28, 3) := by decide +kernel
theorem dX2_takeBack_80 : decode cX2_takeBack 80 = .ok (.invokestatic 41, 3) := by decide +kernel
theorem dX2_takeBack_83 : decode cX2_takeBack 83 = .ok (.invokevirtual 50, 3) := by decide +kernel
theorem dX2_takeBack_86 : decode cX2_takeBack 86 = .ok (.return_, 1) := by decide +kernel
theorem dX2_forgetOldest_0 : decode cX2_forgetOldest 0 = .ok (.iconst 1, 1) := by decide +kernel
theorem dX2_forgetOldest_1 : decode cX2_forgetOldest 1 = .ok (.istore_n 1, 1) := by decide +kernel
theorem dX2_forgetOldest_2 : decode cX2_forgetOldest 2 = .ok (.iload_n 1, 1) := by decide +kernel
theorem dX2_forgetOldest_3 : decode cX2_forgetOldest 3 = .ok (.bipush 8, 2) := by decide +kernel
theorem dX2_forgetOldest_5 : decode cX2_forgetOldest 5 = .ok (.if_icmp .ge 65, 3) := by decide +kernel
theorem dX2_forgetOldest_8 : decode cX2_forgetOldest 8 = .ok (.aload_n 0, 1) := by decide +kernel
theorem dX2_forgetOldest_9 : decode cX2_forgetOldest 9 = .ok (.getfield 9, 3) := by decide +kernel
theorem dX2_forgetOldest_12 : decode cX2_forgetOldest 12 = .ok (.iload_n 1, 1) := by decide +kernel
theorem dX2_forgetOldest_13 : decode cX2_forgetOldest 13 = .ok (.iconst 1, 1) := by decide +kernel
theorem dX2_forgetOldest_14 : decode cX2_forgetOldest 14 = .ok (.isub, 1) := by decide +kernel
theorem dX2_forgetOldest_15 : decode cX2_forgetOldest 15 = .ok (.aload_n 0, 1) := by decide +kernel
theorem dX2_forgetOldest_16 : decode cX2_forgetOldest 16 = .ok (.getfield 9, 3) := by decide +kernel
theorem dX2_forgetOldest_19 : decode cX2_forgetOldest 19 = .ok (.iload_n 1, 1) := by decide +kernel
theorem dX2_forgetOldest_20 : decode cX2_forgetOldest 20 = .ok (.iaload, 1) := by decide +kernel
theorem dX2_forgetOldest_21 : decode cX2_forgetOldest 21 = .ok (.iastore, 1) := by decide +kernel
theorem dX2_forgetOldest_22 : decode cX2_forgetOldest 22 = .ok (.aload_n 0, 1) := by decide +kernel
theorem dX2_forgetOldest_23 : decode cX2_forgetOldest 23 = .ok (.getfield 15, 3) := by decide +kernel
theorem dX2_forgetOldest_26 : decode cX2_forgetOldest 26 = .ok (.iload_n 1, 1) := by decide +kernel
theorem dX2_forgetOldest_27 : decode cX2_forgetOldest 27 = .ok (.iconst 1, 1) := by decide +kernel
theorem dX2_forgetOldest_28 : decode cX2_forgetOldest 28 = .ok (.isub, 1) := by decide +kernel
theorem dX2_forgetOldest_29 : decode cX2_forgetOldest 29 = .ok (.aload_n 0, 1) := by decide +kernel
theorem dX2_forgetOldest_30 : decode cX2_forgetOldest 30 = .ok (.getfield 15, 3) := by decide +kernel
theorem dX2_forgetOldest_33 : decode cX2_forgetOldest 33 = .ok (.iload_n 1, 1) := by decide +kernel
theorem dX2_forgetOldest_34 : decode cX2_forgetOldest 34 = .ok (.iaload, 1) := by decide +kernel
theorem dX2_forgetOldest_35 : decode cX2_forgetOldest 35 = .ok (.iastore, 1) := by decide +kernel
theorem dX2_forgetOldest_36 : decode cX2_forgetOldest 36 = .ok (.aload_n 0, 1) := by decide +kernel
theorem dX2_forgetOldest_37 : decode cX2_forgetOldest 37 = .ok (.getfield 18, 3) := by decide +kernel
theorem dX2_forgetOldest_40 : decode cX2_forgetOldest 40 = .ok (.iload_n 1, 1) := by decide +kernel
theorem dX2_forgetOldest_41 : decode cX2_forgetOldest 41 = .ok (.iconst 1, 1) := by decide +kernel
theorem dX2_forgetOldest_42 : decode cX2_forgetOldest 42 = .ok (.isub, 1) := by decide +kernel
theorem dX2_forgetOldest_43 : decode cX2_forgetOldest 43 = .ok (.aload_n 0, 1) := by decide +kernel
theorem dX2_forgetOldest_44 : decode cX2_forgetOldest 44 = .ok (.getfield 18, 3) := by decide +kernel
theorem dX2_forgetOldest_47 : decode cX2_forgetOldest 47 = .ok (.iload_n 1, 1) := by decide +kernel
theorem dX2_forgetOldest_48 : decode cX2_forgetOldest 48 = .ok (.iaload, 1) := by decide +kernel
theorem dX2_forgetOldest_49 : decode cX2_forgetOldest 49 = .ok (.iastore, 1) := by decide +kernel
theorem dX2_forgetOldest_50 : decode cX2_forgetOldest 50 = .ok (.aload_n 0, 1) := by decide +kernel
theorem dX2_forgetOldest_51 : decode cX2_forgetOldest 51 = .ok (.getfield 21, 3) := by decide +kernel
theorem dX2_forgetOldest_54 : decode cX2_forgetOldest 54 = .ok (.iload_n 1, 1) := by decide +kernel
theorem dX2_forgetOldest_55 : decode cX2_forgetOldest 55 = .ok (.iconst 1, 1) := by decide +kernel
theorem dX2_forgetOldest_56 : decode cX2_forgetOldest 56 = .ok (.isub, 1) := by decide +kernel
theorem dX2_forgetOldest_57 : decode cX2_forgetOldest 57 = .ok (.aload_n 0, 1) := by decide +kernel
theorem dX2_forgetOldest_58 : decode cX2_forgetOldest 58 = .ok (.getfield 21, 3) := by decide +kernel
theorem dX2_forgetOldest_61 : decode cX2_forgetOldest 61 = .ok (.iload_n 1, 1) := by decide +kernel
theorem dX2_forgetOldest_62 : decode cX2_forgetOldest 62 = .ok (.iaload, 1) := by decide +kernel
theorem dX2_forgetOldest_63 : decode cX2_forgetOldest 63 = .ok (.iastore, 1) := by decide +kernel
theorem dX2_forgetOldest_64 : decode cX2_forgetOldest 64 = .ok (.iinc 1 1, 3) := by decide +kernel
theorem dX2_forgetOldest_67 : decode cX2_forgetOldest 67 = .ok (.goto (-65), 3) := by decide +kernel
theorem dX2_forgetOldest_70 : decode cX2_forgetOldest 70 = .ok (.aload_n 0, 1) := by decide +kernel
theorem dX2_forgetOldest_71 : decode cX2_forgetOldest 71 = .ok (.bipush 7, 2) := by decide +kernel
theorem dX2_forgetOldest_73 : decode cX2_forgetOldest 73 = .ok (.putfield 28, 3) := by decide +kernel
theorem dX2_forgetOldest_76 : decode cX2_forgetOldest 76 = .ok (.return_, 1) := by decide +kernel
theorem dX3_init_0 : decode cX3_init 0 = .ok (.aload_n 0, 1) := by decide +kernel
theorem dX3_init_1 : decode cX3_init 1 = .ok (.invokespecial 3, 3) := by decide +kernel
theorem dX3_init_4 : decode cX3_init 4 = .ok (.aload_n 0, 1) := by decide +kernel
theorem dX3_init_5 : decode cX3_init 5 = .ok (.bipush 16, 2) := by decide +kernel
theorem dX3_init_7 : decode cX3_init 7 = .ok (.newarray .int, 2) := by decide +kernel
theorem dX3_init_9 : decode cX3_init 9 = .ok (.putfield 9, 3) := by decide +kernel
theorem dX3_init_12 : decode cX3_init 12 = .ok (.aload_n 0, 1) := by decide +kernel
theorem dX3_init_13 : decode cX3_init 13 = .ok (.aload_n 1, 1) := by decide +kernel
theorem dX3_init_14 : decode cX3_init 14 = .ok (.putfield 15, 3) := by decide +kernel
theorem dX3_init_17 : decode cX3_init 17 = .ok (.return_, 1) := by decide +kernel
theorem dX3_inspect_0 : decode cX3_inspect 0 = .ok (.aload_n 0, 1) := by decide +kernel
theorem dX3_inspect_1 : decode cX3_inspect 1 = .ok (.getfield 15, 3) := by decide +kernel
theorem dX3_inspect_4 : decode cX3_inspect 4 = .ok (.invokevirtual 19, 3) := by decide +kernel
theorem dX3_inspect_7 : decode cX3_inspect 7 = .ok (.istore_n 1, 1) := by decide +kernel
theorem dX3_inspect_8 : decode cX3_inspect 8 = .ok (.iconst 0, 1) := by decide +kernel
theorem dX3_inspect_9 : decode cX3_inspect 9 = .ok (.istore_n 2, 1) := by decide +kernel
theorem dX3_inspect_10 : decode cX3_inspect 10 = .ok (.iload_n 2, 1) := by decide +kernel
theorem dX3_inspect_11 : decode cX3_inspect 11 = .ok (.iload_n 1, 1) := by decide +kernel
theorem dX3_inspect_12 : decode cX3_inspect 12 = .ok (.if_icmp .ge 22, 3) := by decide +kernel
theorem dX3_inspect_15 : decode cX3_inspect 15 = .ok (.aload_n 0, 1) := by decide +kernel
theorem dX3_inspect_16 : decode cX3_inspect 16 = .ok (.iload_n 2, 1) := by decide +kernel
theorem dX3_inspect_17 : decode cX3_inspect 17 = .ok (.invokevirtual 25, 3) := by decide +kernel
theorem dX3_inspect_20 : decode cX3_inspect 20 = .ok (.ifCond .eq 8, 3) := by decide +kernel
theorem dX3_inspect_23 : decode cX3_inspect 23 = .ok (.bipush 16, 2) := by decide +kernel
theorem dX3_inspect_25 : decode cX3_inspect 25 = .ok (.iload_n 2, 1) := by decide +kernel
theorem dX3_inspect_26 : decode cX3_inspect 26 = .ok (.iadd, 1) := by decide +kernel
theorem dX3_inspect_27 : decode cX3_inspect 27 = .ok (.ireturn, 1) := by decide +kernel
theorem dX3_inspect_28 : decode cX3_inspect 28 = .ok (.iinc 2 1, 3) := by decide +kernel
theorem dX3_inspect_31 : decode cX3_inspect 31 = .ok (.goto (-21), 3) := by decide +kernel
theorem dX3_inspect_34 : decode cX3_inspect 34 = .ok (.aload_n 0, 1) := by decide +kernel
theorem dX3_inspect_35 : decode cX3_inspect 35 = .ok (.invokevirtual 29, 3) := by decide +kernel
theorem dX3_inspect_38 : decode cX3_inspect 38 = .ok (.iconst 0, 1) := by decide +kernel
theorem dX3_inspect_39 : decode cX3_inspect 39 = .ok (.istore_n 2, 1) := by decide +kernel
theorem dX3_inspect_40 : decode cX3_inspect 40 = .ok (.iload_n 2, 1) := by decide +kernel
theorem dX3_inspect_41 : decode cX3_inspect 41 = .ok (.iload_n 1, 1) := by decide +kernel
theorem dX3_inspect_42 : decode cX3_inspect 42 = .ok (.if_icmp .ge 22, 3) := by decide +kernel
theorem dX3_inspect_45 : decode cX3_inspect 45 = .ok (.aload_n 0, 1) := by decide +kernel
theorem dX3_inspect_46 : decode cX3_inspect 46 = .ok (.iload_n 2, 1) := by decide +kernel
theorem dX3_inspect_47 : decode cX3_inspect 47 = .ok (.invokevirtual 32, 3) := by decide +kernel
theorem dX3_inspect_50 : decode cX3_inspect 50 = .ok (.ifCond .eq 8, 3) := by decide +kernel
theorem dX3_inspect_53 : decode cX3_inspect 53 = .ok (.bipush 32, 2) := by decide +kernel
theorem dX3_inspect_55 : decode cX3_inspect 55 = .ok (.iload_n 2, 1) := by decide +kernel
theorem dX3_inspect_56 : decode cX3_inspect 56 = .ok (.iadd, 1) := by decide +kernel
theorem dX3_inspect_57 : decode cX3_inspect 57 = .ok (.ireturn, 1) := by decide +kernel
theorem dX3_inspect_58 : decode cX3_inspect 58 = .ok (.iinc 2 1, 3) := by decide +kernel
theorem dX3_inspect_61 : decode cX3_inspect 61 = .ok (.goto (-21), 3) := by decide +kernel
theorem dX3_inspect_64 : decode cX3_inspect 64 = .ok (.aload_n 0, 1) := by decide +kernel
theorem dX3_inspect_65 : decode cX3_inspect 65 = .ok (.invokevirtual 35, 3) := by decide +kernel
theorem dX3_inspect_68 : decode cX3_inspect 68 = .ok (.iconst 0, 1) := by decide +kernel
theorem dX3_inspect_69 : decode cX3_inspect 69 = .ok (.istore_n 2, 1) := by decide +kernel
theorem dX3_inspect_70 : decode cX3_inspect 70 = .ok (.iload_n 2, 1) := by decide +kernel
theorem dX3_inspect_71 : decode cX3_inspect 71 = .ok (.iload_n 1, 1) := by decide +kernel
theorem dX3_inspect_72 : decode cX3_inspect 72 = .ok (.if_icmp .ge 29, 3) := by decide +kernel
theorem dX3_inspect_75 : decode cX3_inspect 75 = .ok (.aload_n 0, 1) := by decide +kernel
theorem dX3_inspect_76 : decode cX3_inspect 76 = .ok (.getfield 9, 3) := by decide +kernel
theorem dX3_inspect_79 : decode cX3_inspect 79 = .ok (.iload_n 2, 1) := by decide +kernel
theorem dX3_inspect_80 : decode cX3_inspect 80 = .ok (.invokestatic 38, 3) := by decide +kernel
theorem dX3_inspect_83 : decode cX3_inspect 83 = .ok (.iload_n 2, 1) := by decide +kernel
theorem dX3_inspect_84 : decode cX3_inspect 84 = .ok (.invokestatic 44, 3) := by decide +kernel
theorem dX3_inspect_87 : decode cX3_inspect 87 = .ok (.ifCond .eq 8, 3) := by decide +kernel
theorem dX3_inspect_90 : decode cX3_inspect 90 = .ok (.bipush 48, 2) := by decide +kernel
theorem dX3_inspect_92 : decode cX3_inspect 92 = .ok (.iload_n 2, 1) := by decide +kernel
theorem dX3_inspect_93 : decode cX3_inspect 93 = .ok (.iadd, 1) := by decide +kernel
theorem dX3_inspect_94 : decode cX3_inspect 94 = .ok (.ireturn, 1) := by decide +kernel
theorem dX3_inspect_95 : decode cX3_inspect 95 = .ok (.iinc 2 1, 3) := by decide +kernel
theorem dX3_inspect_98 : decode cX3_inspect 98 = .ok (.goto (-28), 3) := by decide +kernel
theorem dX3_inspect_101 : decode cX3_inspect 101 = .ok (.iconst 0, 1) := by decide +kernel
theorem dX3_inspect_102 : decode cX3_inspect 102 = .ok (.ireturn, 1) := by decide +kernel
theorem dX3_needCount_0 : decode cX3_needCount 0 = .ok (.aload_n 0, 1) := by decide +kernel
theorem dX3_needCount_1 : decode cX3_needCount 1 = .ok (.getfield 9, 3) := by decide +kernel
theorem dX3_needCount_4 : decode cX3_needCount 4 = .ok (.iload_n 1, 1) := by decide +kernel
theorem dX3_needCount_5 : decode cX3_needCount 5 = .ok (.invokestatic 38, 3) := by decide +kernel
theorem dX3_needCount_8 : decode cX3_needCount 8 = .ok (.invokestatic 48, 3) := by decide +kernel
theorem dX3_needCount_11 : decode cX3_needCount 11 = .ok (.ireturn, 1) := by decide +kernel
theorem dX3_isIn_0 : decode cX3_isIn 0 = .ok (.iload_n 1, 1) := by decide +kernel
theorem dX3_isIn_1 : decode cX3_isIn 1 = .ok (.ifCond .lt 21, 3) := by decide +kernel
theorem dX3_isIn_4 : decode cX3_isIn 4 = .ok (.iload_n 1, 1) := by decide +kernel
theorem dX3_isIn_5 : decode cX3_isIn 5 = .ok (.bipush 16, 2) := by decide +kernel
theorem dX3_isIn_7 : decode cX3_isIn 7 = .ok (.if_icmp .ge 15, 3) := by decide +kernel
theorem dX3_isIn_10 : decode cX3_isIn 10 = .ok (.iload_n 0, 1) := by decide +kernel
theorem dX3_isIn_11 : decode cX3_isIn 11 = .ok (.iload_n 1, 1) := by decide +kernel
theorem dX3_isIn_12 : decode cX3_isIn 12 = .ok (.ishr, 1) := by decide +kernel
theorem dX3_isIn_13 : decode cX3_isIn 13 = .ok (.iconst 1, 1) := by decide +kernel
theorem dX3_isIn_14 : decode cX3_isIn 14 = .ok (.iand, 1) := by decide +kernel
theorem dX3_isIn_15 : decode cX3_isIn 15 = .ok (.ifCond .eq 7, 3) := by decide +kernel
theorem dX3_isIn_18 : decode cX3_isIn 18 = .ok (.iconst 1, 1) := by decide +kernel
theorem dX3_isIn_19 : decode cX3_isIn 19 = .ok (.goto 4, 3) := by decide +kernel
theorem dX3_isIn_22 : decode cX3_isIn 22 = .ok (.iconst 0, 1) := by decide +kernel
theorem dX3_isIn_23 : decode cX3_isIn 23 = .ok (.ireturn, 1) := by decide +kernel
theorem dX3_lacksPart_0 : decode cX3_lacksPart 0 = .ok (.aload_n 0, 1) := by decide +kernel
theorem dX3_lacksPart_1 : decode cX3_lacksPart 1 = .ok (.getfield 15, 3) := by decide +kernel
theorem dX3_lacksPart_4 : decode cX3_lacksPart 4 = .ok (.iload_n 1, 1) := by decide +kernel
theorem dX3_lacksPart_5 : decode cX3_lacksPart 5 = .ok (.invokevirtual 54, 3) := by decide +kernel
theorem dX3_lacksPart_8 : decode cX3_lacksPart 8 = .ok (.tableswitch 106 2 7 #[40, 40, 82, 82, 82, 82], 40) := by decide +kernel
theorem dX3_lacksPart_48 : decode cX3_lacksPart 48 = .ok (.aload_n 0, 1) := by decide +kernel
theorem dX3_lacksPart_49 : decode cX3_lacksPart 49 = .ok (.getfield 15, 3) := by decide +kernel
theorem dX3_lacksPart_52 : decode cX3_lacksPart 52 = .ok (.aload_n 0, 1) := by decide +kernel
theorem dX3_lacksPart_53 : decode cX3_lacksPart 53 = .ok (.getfield 15, 3) := by decide +kernel
theorem dX3_lacksPart_56 : decode cX3_lacksPart 56 = .ok (.iload_n 1, 1) := by decide +kernel
theorem dX3_lacksPart_57 : decode cX3_lacksPart 57 = .ok (.invokevirtual 57, 3) := by decide +kernel
theorem dX3_lacksPart_60 : decode cX3_lacksPart 60 = .ok (.invokevirtual 60, 3) := by decide +kernel
theorem dX3_lacksPart_63 : decode cX3_lacksPart 63 = .ok (.ifCond .eq 21, 3) := by decide +kernel
theorem dX3_lacksPart_66 : decode cX3_lacksPart 66 = .ok (.aload_n 0, 1) := by decide +kernel
theorem dX3_lacksPart_67 : decode cX3_lacksPart 67 = .ok (.getfield 15, 3) := by decide +kernel
theorem dX3_lacksPart_70 : decode cX3_lacksPart 70 = .ok (.aload_n 0, 1) := by decide +kernel
theorem dX3_lacksPart_71 : decode cX3_lacksPart 71 = .ok (.getfield 15, 3) := by decide +kernel
theorem dX3_lacksPart_74 : decode cX3_lacksPart 74 = .ok (.iload_n 1, 1) := by decide +kernel
theorem dX3_lacksPart_75 : decode cX3_lacksPart 75 = .ok (.invokevirtual 63, 3) := by decide +kernel
theorem dX3_lacksPart_78 : decode cX3_lacksPart 78 = .ok (.invokevirtual 60, 3) := by decide +kernel
theorem dX3_lacksPart_81 : decode cX3_lacksPart 81 = .ok (.ifCond .ne 7, 3) := by decide +kernel
theorem dX3_lacksPart_84 : decode cX3_lacksPart 84 = .ok (.iconst 1, 1) := by decide +kernel
theorem dX3_lacksPart_85 : decode cX3_lacksPart 85 = .ok (.goto 4, 3) := by decide +kernel
theorem dX3_lacksPart_88 : decode cX3_lacksPart 88 = .ok (.iconst 0, 1) := by decide +kernel
theorem dX3_lacksPart_89 : decode cX3_lacksPart 89 = .ok (.ireturn, 1) := by decide +kernel
theorem dX3_lacksPart_90 : decode cX3_lacksPart 90 = .ok (.aload_n 0, 1) := by decide +kernel
theorem dX3_lacksPart_91 : decode cX3_lacksPart 91 = .ok (.getfield 15, 3) := by decide +kernel
theorem dX3_lacksPart_94 : decode cX3_lacksPart 94 = .ok (.aload_n 0, 1) := by decide +kernel
theorem dX3_lacksPart_95 : decode cX3_lacksPart 95 = .ok (.getfield 15, 3) := by decide +kernel
theorem dX3_lacksPart_98 : decode cX3_lacksPart 98 = .ok (.iload_n 1, 1) := by decide +kernel
theorem dX3_lacksPart_99 : decode cX3_lacksPart 99 = .ok (.invokevirtual 57, 3) := by decide +kernel
theorem dX3_lacksPart_102 : decode cX3_lacksPart 102 = .ok (.invokevirtual 60, 3) := by decide +kernel
theorem dX3_lacksPart_105 : decode cX3_lacksPart 105 = .ok (.ifCond .ne 7, 3) := by decide +kernel
theorem dX3_lacksPart_108 : decode cX3_lacksPart 108 = .ok (.iconst 1, 1) := by decide +kernel
theorem dX3_lacksPart_109 : decode cX3_lacksPart 109 = .ok (.goto 4, 3) := by decide +kernel
theorem dX3_lacksPart_112 : decode cX3_lacksPart 112 = .ok (.iconst 0, 1) := by decide +kernel
theorem dX3_lacksPart_113 : decode cX3_lacksPart 113 = .ok (.ireturn, 1) := by decide +kernel
theorem dX3_lacksPart_114 : decode cX3_lacksPart 114 = .ok (.iconst 0, 1) := by decide +kernel
theorem dX3_lacksPart_115 : decode cX3_lacksPart 115 = .ok (.ireturn, 1) := by decide +kernel
theorem dX3_findEmpties_0 : decode cX3_findEmpties 0 = .ok (.aload_n 0, 1) := by decide +kernel
theorem dX3_findEmpties_1 : decode cX3_findEmpties 1 = .ok (.iconst 0, 1) := by decide +kernel
theorem dX3_findEmpties_2 : decode cX3_findEmpties 2 = .ok (.putfield 66, 3) := by decide +kernel
theorem dX3_findEmpties_5 : decode cX3_findEmpties 5 = .ok (.iconst 0, 1) := by decide +kernel
theorem dX3_findEmpties_6 : decode cX3_findEmpties 6 = .ok (.istore_n 1, 1) := by decide +kernel
theorem dX3_findEmpties_7 : decode cX3_findEmpties 7 = .ok (.iload_n 1, 1) := by decide +kernel
theorem dX3_findEmpties_8 : decode cX3_findEmpties 8 = .ok (.bipush 16, 2) := by decide +kernel
theorem dX3_findEmpties_10 : decode cX3_findEmpties 10 = .ok (.if_icmp .ge 48, 3) := by decide +kernel
theorem dX3_findEmpties_13 : decode cX3_findEmpties 13 = .ok (.iconst 0, 1) := by decide +kernel
theorem dX3_findEmpties_14 : decode cX3_findEmpties 14 = .ok (.istore_n 2, 1) := by decide +kernel
theorem dX3_findEmpties_15 : decode cX3_findEmpties 15 = .ok (.iload_n 2, 1) := by decide +kernel
theorem dX3_findEmpties_16 : decode cX3_findEmpties 16 = .ok (.aload_n 0, 1) := by decide +kernel
theorem dX3_findEmpties_17 : decode cX3_findEmpties 17 = .ok (.getfield 15, 3) := by decide +kernel
theorem dX3_findEmpties_20 : decode cX3_findEmpties 20 = .ok (.invokevirtual 19, 3) := by decide +kernel
theorem dX3_findEmpties_23 : decode cX3_findEmpties 23 = .ok (.if_icmp .ge 29, 3) := by decide +kernel
theorem dX3_findEmpties_26 : decode cX3_findEmpties 26 = .ok (.aload_n 0, 1) := by decide +kernel
theorem dX3_findEmpties_27 : decode cX3_findEmpties 27 = .ok (.iload_n 2, 1) := by decide +kernel
theorem dX3_findEmpties_28 : decode cX3_findEmpties 28 = .ok (.invokevirtual 70, 3) := by decide +kernel
theorem dX3_findEmpties_31 : decode cX3_findEmpties 31 = .ok (.ifCond .eq 15, 3) := by decide +kernel
theorem dX3_findEmpties_34 : decode cX3_findEmpties 34 = .ok (.aload_n 0, 1) := by decide +kernel
theorem dX3_findEmpties_35 : decode cX3_findEmpties 35 = .ok (.dup, 1) := by decide +kernel
theorem dX3_findEmpties_36 : decode cX3_findEmpties 36 = .ok (.getfield 66, 3) := by decide +kernel
theorem dX3_findEmpties_39 : decode cX3_findEmpties 39 = .ok (.iconst 1, 1) := by decide +kernel
theorem dX3_findEmpties_40 : decode cX3_findEmpties 40 = .ok (.iload_n 2, 1) := by decide +kernel
theorem dX3_findEmpties_41 : decode cX3_findEmpties 41 = .ok (.ishl, 1) := by decide +kernel
theorem dX3_findEmpties_42 : decode cX3_findEmpties 42 = .ok (.ior, 1) := by decide +kernel
theorem dX3_findEmpties_43 : decode cX3_findEmpties 43 = .ok (.putfield 66, 3) := by decide +kernel
theorem dX3_findEmpties_46 : decode cX3_findEmpties 46 = .ok (.iinc 2 1, 3) := by decide +kernel
theorem dX3_findEmpties_49 : decode cX3_findEmpties 49 = .ok (.goto (-34), 3) := by decide +kernel
theorem dX3_findEmpties_52 : decode cX3_findEmpties 52 = .ok (.iinc 1 1, 3) := by decide +kernel
theorem dX3_findEmpties_55 : decode cX3_findEmpties 55 = .ok (.goto (-48), 3) := by decide +kernel
theorem dX3_findEmpties_58 : decode cX3_findEmpties 58 = .ok (.return_, 1) := by decide +kernel
theorem dX3_canBeEmpty_0 : decode cX3_canBeEmpty 0 = .ok (.aload_n 0, 1) := by decide +kernel
theorem dX3_canBeEmpty_1 : decode cX3_canBeEmpty 1 = .ok (.getfield 66, 3) := by decide +kernel
theorem dX3_canBeEmpty_4 : decode cX3_canBeEmpty 4 = .ok (.aload_n 0, 1) := by decide +kernel
theorem dX3_canBeEmpty_5 : decode cX3_canBeEmpty 5 = .ok (.getfield 15, 3) := by decide +kernel
theorem dX3_canBeEmpty_8 : decode cX3_canBeEmpty 8 = .ok (.iload_n 1, 1) := by decide +kernel
theorem dX3_canBeEmpty_9 : decode cX3_canBeEmpty 9 = .ok (.invokevirtual 57, 3) := by decide +kernel
theorem dX3_canBeEmpty_12 : decode cX3_canBeEmpty 12 = .ok (.invokestatic 44, 3) := by decide +kernel
theorem dX3_canBeEmpty_15 : decode cX3_canBeEmpty 15 = .ok (.istore_n 2, 1) := by decide +kernel
theorem dX3_canBeEmpty_16 : decode cX3_canBeEmpty 16 = .ok (.aload_n 0, 1) := by decide +kernel
theorem dX3_canBeEmpty_17 : decode cX3_canBeEmpty 17 = .ok (.getfield 66, 3) := by decide +kernel
theorem dX3_canBeEmpty_20 : decode cX3_canBeEmpty 20 = .ok (.aload_n 0, 1) := by decide +kernel
theorem dX3_canBeEmpty_21 : decode cX3_canBeEmpty 21 = .ok (.getfield 15, 3) := by decide +kernel
theorem dX3_canBeEmpty_24 : decode cX3_canBeEmpty 24 = .ok (.iload_n 1, 1) := by decide +kernel
theorem dX3_canBeEmpty_25 : decode cX3_canBeEmpty 25 = .ok (.invokevirtual 63, 3) := by decide +kernel
theorem dX3_canBeEmpty_28 : decode cX3_canBeEmpty 28 = .ok (.invokestatic 44, 3) := by decide +kernel
theorem dX3_canBeEmpty_31 : decode cX3_canBeEmpty 31 = .ok (.istore_n 3, 1) := by decide +kernel
theorem dX3_canBeEmpty_32 : decode cX3_canBeEmpty 32 = .ok (.aload_n 0, 1) := by decide +kernel
theorem dX3_canBeEmpty_33 : decode cX3_canBeEmpty 33 = .ok (.getfield 15, 3) := by decide +kernel
theorem dX3_canBeEmpty_36 : decode cX3_canBeEmpty 36 = .ok (.iload_n 1, 1) := by decide +kernel
theorem dX3_canBeEmpty_37 : decode cX3_canBeEmpty 37 = .ok (.invokevirtual 54, 3) := by decide +kernel
theorem dX3_canBeEmpty_40 : decode cX3_canBeEmpty 40 = .ok (.tableswitch 95 1 7 #[44, 46, 60, 44, 44, 44, 74], 44) := by decide +kernel
theorem dX3_canBeEmpty_84 : decode cX3_canBeEmpty 84 = .ok (.iconst 1, 1) := by decide +kernel
theorem dX3_canBeEmpty_85 : decode cX3_canBeEmpty 85 = .ok (.ireturn, 1) := by decide +kernel
theorem dX3_canBeEmpty_86 : decode cX3_canBeEmpty 86 = .ok (.iload_n 2, 1) := by decide +kernel
theorem dX3_canBeEmpty_87 : decode cX3_canBeEmpty 87 = .ok (.ifCond .eq 11, 3) := by decide +kernel
theorem dX3_canBeEmpty_90 : decode cX3_canBeEmpty 90 = .ok (.iload_n 3, 1) := by decide +kernel
theorem dX3_canBeEmpty_91 : decode cX3_canBeEmpty 91 = .ok (.ifCond .eq 7, 3) := by decide +kernel
theorem dX3_canBeEmpty_94 : decode cX3_canBeEmpty 94 = .ok (.iconst 1, 1) := by decide +kernel
theorem dX3_canBeEmpty_95 : decode cX3_canBeEmpty 95 = .ok (.goto 4, 3) := by decide +kernel
theorem dX3_canBeEmpty_98 : decode cX3_canBeEmpty 98 = .ok (.iconst 0, 1) := by decide +kernel
theorem dX3_canBeEmpty_99 : decode cX3_canBeEmpty 99 = .ok (.ireturn, 1) := by decide +kernel
theorem dX3_canBeEmpty_100 : decode cX3_canBeEmpty 100 = .ok (.iload_n 2, 1) := by decide +kernel
theorem dX3_canBeEmpty_101 : decode cX3_canBeEmpty 101 = .ok (.ifCond .ne 7, 3) := by decide +kernel
theorem dX3_canBeEmpty_104 : decode cX3_canBeEmpty 104 = .ok (.iload_n 3, 1) := by decide +kernel
theorem dX3_canBeEmpty_105 : decode cX3_canBeEmpty 105 = .ok (.ifCond .eq 7, 3) := by decide +kernel
theorem dX3_canBeEmpty_108 : decode cX3_canBeEmpty 108 = .ok (.iconst 1, 1) := by decide +kernel
theorem dX3_canBeEmpty_109 : decode cX3_canBeEmpty 109 = .ok (.goto 4, 3) := by decide +kernel
theorem dX3_canBeEmpty_112 : decode cX3_canBeEmpty 112 = .ok (.iconst 0, 1) := by decide +kernel
theorem dX3_canBeEmpty_113 : decode cX3_canBeEmpty 113 = .ok (.ireturn, 1) := by decide +kernel
theorem dX3_canBeEmpty_114 : decode cX3_canBeEmpty 114 = .ok (.aload_n 0, 1) := by decide +kernel
theorem dX3_canBeEmpty_115 : decode cX3_canBeEmpty 115 = .ok (.getfield 15, 3) := by decide +kernel
theorem dX3_canBeEmpty_118 : decode cX3_canBeEmpty 118 = .ok (.iload_n 1, 1) := by decide +kernel
theorem dX3_canBeEmpty_119 : decode cX3_canBeEmpty 119 = .ok (.invokevirtual 73, 3) := by decide +kernel
theorem dX3_canBeEmpty_122 : decode cX3_canBeEmpty 122 = .ok (.ifCond .ne 11, 3) := by decide +kernel
theorem dX3_canBeEmpty_125 : decode cX3_canBeEmpty 125 = .ok (.iload_n 2, 1) := by decide +kernel
theorem dX3_canBeEmpty_126 : decode cX3_canBeEmpty 126 = .ok (.ifCond .eq 7, 3) := by decide +kernel
theorem dX3_canBeEmpty_129 : decode cX3_canBeEmpty 129 = .ok (.iconst 1, 1) := by decide +kernel
theorem dX3_canBeEmpty_130 : decode cX3_canBeEmpty 130 = .ok (.goto 4, 3) := by decide +kernel
theorem dX3_canBeEmpty_133 : decode cX3_canBeEmpty 133 = .ok (.iconst 0, 1) := by decide +kernel
theorem dX3_canBeEmpty_134 : decode cX3_canBeEmpty 134 = .ok (.ireturn, 1) := by decide +kernel
theorem dX3_canBeEmpty_135 : decode cX3_canBeEmpty 135 = .ok (.iconst 0, 1) := by decide +kernel
theorem dX3_canBeEmpty_136 : decode cX3_canBeEmpty 136 = .ok (.ireturn, 1) := by decide +kernel
theorem dX3_repeatsEmpty_0 : decode cX3_repeatsEmpty 0 = .ok (.aload_n 0, 1) := by decide +kernel
theorem dX3_repeatsEmpty_1 : decode cX3_repeatsEmpty 1 = .ok (.getfield 15, 3) := by decide +kernel
theorem dX3_repeatsEmpty_4 : decode cX3_repeatsEmpty 4 = .ok (.iload_n 1, 1) := by decide +kernel
theorem dX3_repeatsEmpty_5 : decode cX3_repeatsEmpty 5 = .ok (.invokevirtual 54, 3) := by decide +kernel
theorem dX3_repeatsEmpty_8 : decode cX3_repeatsEmpty 8 = .ok (.iconst 4, 1) := by decide +kernel
theorem dX3_repeatsEmpty_9 : decode cX3_repeatsEmpty 9 = .ok (.if_icmp .eq 14, 3) := by decide +kernel
theorem dX3_repeatsEmpty_12 : decode cX3_repeatsEmpty 12 = .ok (.aload_n 0, 1) := by decide +kernel
theorem dX3_repeatsEmpty_13 : decode cX3_repeatsEmpty 13 = .ok (.getfield 15, 3) := by decide +kernel
theorem dX3_repeatsEmpty_16 : decode cX3_repeatsEmpty 16 = .ok (.iload_n 1, 1) := by decide +kernel
theorem dX3_repeatsEmpty_17 : decode cX3_repeatsEmpty 17 = .ok (.invokevirtual 76, 3) := by decide +kernel
theorem dX3_repeatsEmpty_20 : decode cX3_repeatsEmpty 20 = .ok (.ifCond .eq 7, 3) := by decide +kernel
theorem dX3_repeatsEmpty_23 : decode cX3_repeatsEmpty 23 = .ok (.iconst 1, 1) := by decide +kernel
theorem dX3_repeatsEmpty_24 : decode cX3_repeatsEmpty 24 = .ok (.goto 4, 3) := by decide +kernel
theorem dX3_repeatsEmpty_27 : decode cX3_repeatsEmpty 27 = .ok (.iconst 0, 1) := by decide +kernel
theorem dX3_repeatsEmpty_28 : decode cX3_repeatsEmpty 28 = .ok (.istore_n 2, 1) := by decide +kernel
theorem dX3_repeatsEmpty_29 : decode cX3_repeatsEmpty 29 = .ok (.iload_n 2, 1) := by decide +kernel
theorem dX3_repeatsEmpty_30 : decode cX3_repeatsEmpty 30 = .ok (.ifCond .eq 25, 3) := by decide +kernel
theorem dX3_repeatsEmpty_33 : decode cX3_repeatsEmpty 33 = .ok (.aload_n 0, 1) := by decide +kernel
theorem dX3_repeatsEmpty_34 : decode cX3_repeatsEmpty 34 = .ok (.getfield 66, 3) := by decide +kernel
theorem dX3_repeatsEmpty_37 : decode cX3_repeatsEmpty 37 = .ok (.aload_n 0, 1) := by decide +kernel
theorem dX3_repeatsEmpty_38 : decode cX3_repeatsEmpty 38 = .ok (.getfield 15, 3) := by decide +kernel
theorem dX3_repeatsEmpty_41 : decode cX3_repeatsEmpty 41 = .ok (.iload_n 1, 1) := by decide +kernel
theorem dX3_repeatsEmpty_42 : decode cX3_repeatsEmpty 42 = .ok (.invokevirtual 57, 3) := by decide +kernel
theorem dX3_repeatsEmpty_45 : decode cX3_repeatsEmpty 45 = .ok (.invokestatic 44, 3) := by decide +kernel
theorem dX3_repeatsEmpty_48 : decode cX3_repeatsEmpty 48 = .ok (.ifCond .eq 7, 3) := by decide +kernel
theorem dX3_repeatsEmpty_51 : decode cX3_repeatsEmpty 51 = .ok (.iconst 1, 1) := by decide +kernel
theorem dX3_repeatsEmpty_52 : decode cX3_repeatsEmpty 52 = .ok (.goto 4, 3) := by decide +kernel
theorem dX3_repeatsEmpty_55 : decode cX3_repeatsEmpty 55 = .ok (.iconst 0, 1) := by decide +kernel
theorem dX3_repeatsEmpty_56 : decode cX3_repeatsEmpty 56 = .ok (.ireturn, 1) := by decide +kernel
theorem dX3_findNeeds_0 : decode cX3_findNeeds 0 = .ok (.iconst 0, 1) := by decide +kernel
theorem dX3_findNeeds_1 : decode cX3_findNeeds 1 = .ok (.istore_n 1, 1) := by decide +kernel
theorem dX3_findNeeds_2 : decode cX3_findNeeds 2 = .ok (.iload_n 1, 1) := by decide +kernel
theorem dX3_findNeeds_3 : decode cX3_findNeeds 3 = .ok (.bipush 16, 2) := by decide +kernel
theorem dX3_findNeeds_5 : decode cX3_findNeeds 5 = .ok (.if_icmp .ge 35, 3) := by decide +kernel
theorem dX3_findNeeds_8 : decode cX3_findNeeds 8 = .ok (.aload_n 0, 1) := by decide +kernel
theorem dX3_findNeeds_9 : decode cX3_findNeeds 9 = .ok (.getfield 9, 3) := by decide +kernel
theorem dX3_findNeeds_12 : decode cX3_findNeeds 12 = .ok (.iload_n 1, 1) := by decide +kernel
theorem dX3_findNeeds_13 : decode cX3_findNeeds 13 = .ok (.aload_n 0, 1) := by decide +kernel
theorem dX3_findNeeds_14 : decode cX3_findNeeds 14 = .ok (.getfield 15, 3) := by decide +kernel
theorem dX3_findNeeds_17 : decode cX3_findNeeds 17 = .ok (.iload_n 1, 1) := by decide +kernel
theorem dX3_findNeeds_18 : decode cX3_findNeeds 18 = .ok (.invokevirtual 60, 3) := by decide +kernel
theorem dX3_findNeeds_21 : decode cX3_findNeeds 21 = .ok (.ifCond .eq 11, 3) := by decide +kernel
theorem dX3_findNeeds_24 : decode cX3_findNeeds 24 = .ok (.aload_n 0, 1) := by decide +kernel
theorem dX3_findNeeds_25 : decode cX3_findNeeds 25 = .ok (.iload_n 1, 1) := by decide +kernel
theorem dX3_findNeeds_26 : decode cX3_findNeeds 26 = .ok (.invokevirtual 79, 3) := by decide +kernel
theorem dX3_findNeeds_29 : decode cX3_findNeeds 29 = .ok (.goto 4, 3) := by decide +kernel
theorem dX3_findNeeds_32 : decode cX3_findNeeds 32 = .ok (.iconst 0, 1) := by decide +kernel
theorem dX3_findNeeds_33 : decode cX3_findNeeds 33 = .ok (.iastore, 1) := by decide +kernel
theorem dX3_findNeeds_34 : decode cX3_findNeeds 34 = .ok (.iinc 1 1, 3) := by decide +kernel
theorem dX3_findNeeds_37 : decode cX3_findNeeds 37 = .ok (.goto (-35), 3) := by decide +kernel
theorem dX3_findNeeds_40 : decode cX3_findNeeds 40 = .ok (.iconst 0, 1) := by decide +kernel
theorem dX3_findNeeds_41 : decode cX3_findNeeds 41 = .ok (.istore_n 1, 1) := by decide +kernel
theorem dX3_findNeeds_42 : decode cX3_findNeeds 42 = .ok (.iload_n 1, 1) := by decide +kernel
theorem dX3_findNeeds_43 : decode cX3_findNeeds 43 = .ok (.bipush 16, 2) := by decide +kernel
theorem dX3_findNeeds_45 : decode cX3_findNeeds 45 = .ok (.if_icmp .ge 51, 3) := by decide +kernel
theorem dX3_findNeeds_48 : decode cX3_findNeeds 48 = .ok (.iconst 0, 1) := by decide +kernel
theorem dX3_findNeeds_49 : decode cX3_findNeeds 49 = .ok (.istore_n 2, 1) := by decide +kernel
theorem dX3_findNeeds_50 : decode cX3_findNeeds 50 = .ok (.iload_n 2, 1) := by decide +kernel
theorem dX3_findNeeds_51 : decode cX3_findNeeds 51 = .ok (.bipush 16, 2) := by decide +kernel
theorem dX3_findNeeds_53 : decode cX3_findNeeds 53 = .ok (.if_icmp .ge 37, 3) := by decide +kernel
theorem dX3_findNeeds_56 : decode cX3_findNeeds 56 = .ok (.aload_n 0, 1) := by decide +kernel
theorem dX3_findNeeds_57 : decode cX3_findNeeds 57 = .ok (.getfield 9, 3) := by decide +kernel
theorem dX3_findNeeds_60 : decode cX3_findNeeds 60 = .ok (.iload_n 2, 1) := by decide +kernel
theorem dX3_findNeeds_61 : decode cX3_findNeeds 61 = .ok (.iaload, 1) := by decide +kernel
theorem dX3_findNeeds_62 : decode cX3_findNeeds 62 = .ok (.iload_n 1, 1) := by decide +kernel
theorem dX3_findNeeds_63 : decode cX3_findNeeds 63 = .ok (.invokestatic 44, 3) := by decide +kernel
theorem dX3_findNeeds_66 : decode cX3_findNeeds 66 = .ok (.ifCond .eq 18, 3) := by decide +kernel
theorem dX3_findNeeds_69 : decode cX3_findNeeds 69 = .ok (.aload_n 0, 1) := by decide +kernel
theorem dX3_findNeeds_70 : decode cX3_findNeeds 70 = .ok (.getfield 9, 3) := by decide +kernel
theorem dX3_findNeeds_73 : decode cX3_findNeeds 73 = .ok (.iload_n 2, 1) := by decide +kernel
theorem dX3_findNeeds_74 : decode cX3_findNeeds 74 = .ok (.dup2, 1) := by decide +kernel
theorem dX3_findNeeds_75 : decode cX3_findNeeds 75 = .ok (.iaload, 1) := by decide +kernel
theorem dX3_findNeeds_76 : decode cX3_findNeeds 76 = .ok (.aload_n 0, 1) := by decide +kernel
theorem dX3_findNeeds_77 : decode cX3_findNeeds 77 = .ok (.getfield 9, 3) := by decide +kernel
theorem dX3_findNeeds_80 : decode cX3_findNeeds 80 = .ok (.iload_n 1, 1) := by decide +kernel
theorem dX3_findNeeds_81 : decode cX3_findNeeds 81 = .ok (.iaload, 1) := by decide +kernel
theorem dX3_findNeeds_82 : decode cX3_findNeeds 82 = .ok (.ior, 1) := by decide +kernel
theorem dX3_findNeeds_83 : decode cX3_findNeeds 83 = .ok (.iastore, 1) := by decide +kernel
theorem dX3_findNeeds_84 : decode cX3_findNeeds 84 = .ok (.iinc 2 1, 3) := by decide +kernel
theorem dX3_findNeeds_87 : decode cX3_findNeeds 87 = .ok (.goto (-37), 3) := by decide +kernel
theorem dX3_findNeeds_90 : decode cX3_findNeeds 90 = .ok (.iinc 1 1, 3) := by decide +kernel
theorem dX3_findNeeds_93 : decode cX3_findNeeds 93 = .ok (.goto (-51), 3) := by decide +kernel
theorem dX3_findNeeds_96 : decode cX3_findNeeds 96 = .ok (.return_, 1) := by decide +kernel
theorem dX3_directNeeds_0 : decode cX3_directNeeds 0 = .ok (.aload_n 0, 1) := by decide +kernel
theorem dX3_directNeeds_1 : decode cX3_directNeeds 1 = .ok (.getfield 15, 3) := by decide +kernel
theorem dX3_directNeeds_4 : decode cX3_directNeeds 4 = .ok (.iload_n 1, 1) := by decide +kernel
theorem dX3_directNeeds_5 : decode cX3_directNeeds 5 = .ok (.invokevirtual 57, 3) := by decide +kernel
theorem dX3_directNeeds_8 : decode cX3_directNeeds 8 = .ok (.istore_n 2, 1) := by decide +kernel
theorem dX3_directNeeds_9 : decode cX3_directNeeds 9 = .ok (.aload_n 0, 1) := by decide +kernel
theorem dX3_directNeeds_10 : decode cX3_directNeeds 10 = .ok (.getfield 15, 3) := by decide +kernel
theorem dX3_directNeeds_13 : decode cX3_directNeeds 13 = .ok (.iload_n 1, 1) := by decide +kernel
theorem dX3_directNeeds_14 : decode cX3_directNeeds 14 = .ok (.invokevirtual 63, 3) := by decide +kernel
theorem dX3_directNeeds_17 : decode cX3_directNeeds 17 = .ok (.istore_n 3, 1) := by decide +kernel
theorem dX3_directNeeds_18 : decode cX3_directNeeds 18 = .ok (.aload_n 0, 1) := by decide +kernel
theorem dX3_directNeeds_19 : decode cX3_directNeeds 19 = .ok (.getfield 15, 3) := by decide +kernel
theorem dX3_directNeeds_22 : decode cX3_directNeeds 22 = .ok (.iload_n 1, 1) := by decide +kernel
theorem dX3_directNeeds_23 : decode cX3_directNeeds 23 = .ok (.invokevirtual 54, 3) := by decide +kernel
theorem dX3_directNeeds_26 : decode cX3_directNeeds 26 = .ok (.tableswitch 88 2 7 #[38, 76, 84, 84, 84, 84], 38) := by decide +kernel
theorem dX3_directNeeds_64 : decode cX3_directNeeds 64 = .ok (.aload_n 0, 1) := by decide +kernel
theorem dX3_directNeeds_65 : decode cX3_directNeeds 65 = .ok (.getfield 66, 3) := by decide +kernel
theorem dX3_directNeeds_68 : decode cX3_directNeeds 68 = .ok (.iload_n 3, 1) := by decide +kernel
theorem dX3_directNeeds_69 : decode cX3_directNeeds 69 = .ok (.invokestatic 44, 3) := by decide +kernel
theorem dX3_directNeeds_72 : decode cX3_directNeeds 72 = .ok (.ifCond .eq 9, 3) := by decide +kernel
theorem dX3_directNeeds_75 : decode cX3_directNeeds 75 = .ok (.iconst 1, 1) := by decide +kernel
theorem dX3_directNeeds_76 : decode cX3_directNeeds 76 = .ok (.iload_n 2, 1) := by decide +kernel
theorem dX3_directNeeds_77 : decode cX3_directNeeds 77 = .ok (.ishl, 1) := by decide +kernel
theorem dX3_directNeeds_78 : decode cX3_directNeeds 78 = .ok (.goto 4, 3) := by decide +kernel
theorem dX3_directNeeds_81 : decode cX3_directNeeds 81 = .ok (.iconst 0, 1) := by decide +kernel
theorem dX3_directNeeds_82 : decode cX3_directNeeds 82 = .ok (.aload_n 0, 1) := by decide +kernel
theorem dX3_directNeeds_83 : decode cX3_directNeeds 83 = .ok (.getfield 66, 3) := by decide +kernel
theorem dX3_directNeeds_86 : decode cX3_directNeeds 86 = .ok (.iload_n 2, 1) := by decide +kernel
theorem dX3_directNeeds_87 : decode cX3_directNeeds 87 = .ok (.invokestatic 44, 3) := by decide +kernel
theorem dX3_directNeeds_90 : decode cX3_directNeeds 90 = .ok (.ifCond .eq 9, 3) := by decide +kernel
theorem dX3_directNeeds_93 : decode cX3_directNeeds 93 = .ok (.iconst 1, 1) := by decide +kernel
theorem dX3_directNeeds_94 : decode cX3_directNeeds 94 = .ok (.iload_n 3, 1) := by decide +kernel
theorem dX3_directNeeds_95 : decode cX3_directNeeds 95 = .ok (.ishl, 1) := by decide +kernel
theorem dX3_directNeeds_96 : decode cX3_directNeeds 96 = .ok (.goto 4, 3) := by decide +kernel
theorem dX3_directNeeds_99 : decode cX3_directNeeds 99 = .ok (.iconst 0, 1) := by decide +kernel
theorem dX3_directNeeds_100 : decode cX3_directNeeds 100 = .ok (.ior, 1) := by decide +kernel
theorem dX3_directNeeds_101 : decode cX3_directNeeds 101 = .ok (.ireturn, 1) := by decide +kernel
theorem dX3_directNeeds_102 : decode cX3_directNeeds 102 = .ok (.iconst 1, 1) := by decide +kernel
theorem dX3_directNeeds_103 : decode cX3_directNeeds 103 = .ok (.iload_n 2, 1) := by decide +kernel
theorem dX3_directNeeds_104 : decode cX3_directNeeds 104 = .ok (.ishl, 1) := by decide +kernel
theorem dX3_directNeeds_105 : decode cX3_directNeeds 105 = .ok (.iconst 1, 1) := by decide +kernel
theorem dX3_directNeeds_106 : decode cX3_directNeeds 106 = .ok (.iload_n 3, 1) := by decide +kernel
theorem dX3_directNeeds_107 : decode cX3_directNeeds 107 = .ok (.ishl, 1) := by decide +kernel
theorem dX3_directNeeds_108 : decode cX3_directNeeds 108 = .ok (.ior, 1) := by decide +kernel
theorem dX3_directNeeds_109 : decode cX3_directNeeds 109 = .ok (.ireturn, 1) := by decide +kernel
theorem dX3_directNeeds_110 : decode cX3_directNeeds 110 = .ok (.iconst 1, 1) := by decide +kernel
theorem dX3_directNeeds_111 : decode cX3_directNeeds 111 = .ok (.iload_n 2, 1) := by decide +kernel
theorem dX3_directNeeds_112 : decode cX3_directNeeds 112 = .ok (.ishl, 1) := by decide +kernel
theorem dX3_directNeeds_113 : decode cX3_directNeeds 113 = .ok (.ireturn, 1) := by decide +kernel
theorem dX3_directNeeds_114 : decode cX3_directNeeds 114 = .ok (.iconst 0, 1) := by decide +kernel
theorem dX3_directNeeds_115 : decode cX3_directNeeds 115 = .ok (.ireturn, 1) := by decide +kernel
theorem dX4_init_0 : decode cX4_init 0 = .ok (.aload_n 0, 1) := by decide +kernel
theorem dX4_init_1 : decode cX4_init 1 = .ok (.invokespecial 3, 3) := by decide +kernel
theorem dX4_init_4 : decode cX4_init 4 = .ok (.aload_n 0, 1) := by decide +kernel
theorem dX4_init_5 : decode cX4_init 5 = .ok (.sipush 300, 3) := by decide +kernel
theorem dX4_init_8 : decode cX4_init 8 = .ok (.newarray .long, 2) := by decide +kernel
theorem dX4_init_10 : decode cX4_init 10 = .ok (.putfield 9, 3) := by decide +kernel
theorem dX4_init_13 : decode cX4_init 13 = .ok (.aload_n 0, 1) := by decide +kernel
theorem dX4_init_14 : decode cX4_init 14 = .ok (.sipush 300, 3) := by decide +kernel
theorem dX4_init_17 : decode cX4_init 17 = .ok (.newarray .int, 2) := by decide +kernel
theorem dX4_init_19 : decode cX4_init 19 = .ok (.putfield 15, 3) := by decide +kernel
theorem dX4_init_22 : decode cX4_init 22 = .ok (.aload_n 0, 1) := by decide +kernel
theorem dX4_init_23 : decode cX4_init 23 = .ok (.sipush 300, 3) := by decide +kernel
theorem dX4_init_26 : decode cX4_init 26 = .ok (.newarray .int, 2) := by decide +kernel
theorem dX4_init_28 : decode cX4_init 28 = .ok (.putfield 19, 3) := by decide +kernel
theorem dX4_init_31 : decode cX4_init 31 = .ok (.aload_n 0, 1) := by decide +kernel
theorem dX4_init_32 : decode cX4_init 32 = .ok (.sipush 300, 3) := by decide +kernel
theorem dX4_init_35 : decode cX4_init 35 = .ok (.newarray .long, 2) := by decide +kernel
theorem dX4_init_37 : decode cX4_init 37 = .ok (.putfield 22, 3) := by decide +kernel
theorem dX4_init_40 : decode cX4_init 40 = .ok (.aload_n 0, 1) := by decide +kernel
theorem dX4_init_41 : decode cX4_init 41 = .ok (.aload_n 1, 1) := by decide +kernel
theorem dX4_init_42 : decode cX4_init 42 = .ok (.putfield 25, 3) := by decide +kernel
theorem dX4_init_45 : decode cX4_init 45 = .ok (.aload_n 0, 1) := by decide +kernel
theorem dX4_init_46 : decode cX4_init 46 = .ok (.aload_n 2, 1) := by decide +kernel
theorem dX4_init_47 : decode cX4_init 47 = .ok (.putfield 29, 3) := by decide +kernel
theorem dX4_init_50 : decode cX4_init 50 = .ok (.aload_n 0, 1) := by decide +kernel
theorem dX4_init_51 : decode cX4_init 51 = .ok (.aload_n 3, 1) := by decide +kernel
theorem dX4_init_52 : decode cX4_init 52 = .ok (.putfield 33, 3) := by decide +kernel
theorem dX4_init_55 : decode cX4_init 55 = .ok (.aload_n 0, 1) := by decide +kernel
theorem dX4_init_56 : decode cX4_init 56 = .ok (.aload 4, 2) := by decide +kernel
theorem dX4_init_58 : decode cX4_init 58 = .ok (.putfield 37, 3) := by decide +kernel
theorem dX4_init_61 : decode cX4_init 61 = .ok (.return_, 1) := by decide +kernel
theorem dX4_hasManyPart_0 : decode cX4_hasManyPart 0 = .ok (.aload_n 0, 1) := by decide +kernel
theorem dX4_hasManyPart_1 : decode cX4_hasManyPart 1 = .ok (.getfield 41, 3) := by decide +kernel
theorem dX4_hasManyPart_4 : decode cX4_hasManyPart 4 = .ok (.ireturn, 1) := by decide +kernel
theorem dX4_hasTwin_0 : decode cX4_hasTwin 0 = .ok (.aload_n 0, 1) := by decide +kernel
theorem dX4_hasTwin_1 : decode cX4_hasTwin 1 = .ok (.getfield 45, 3) := by decide +kernel
theorem dX4_hasTwin_4 : decode cX4_hasTwin 4 = .ok (.iconst (-1), 1) := by decide +kernel
theorem dX4_hasTwin_5 : decode cX4_hasTwin 5 = .ok (.if_icmp .eq 7, 3) := by decide +kernel
theorem dX4_hasTwin_8 : decode cX4_hasTwin 8 = .ok (.iconst 1, 1) := by decide +kernel
theorem dX4_hasTwin_9 : decode cX4_hasTwin 9 = .ok (.goto 4, 3) := by decide +kernel
theorem dX4_hasTwin_12 : decode cX4_hasTwin 12 = .ok (.iconst 0, 1) := by decide +kernel
theorem dX4_hasTwin_13 : decode cX4_hasTwin 13 = .ok (.ireturn, 1) := by decide +kernel
theorem dX4_twinPlace_0 : decode cX4_twinPlace 0 = .ok (.aload_n 0, 1) := by decide +kernel
theorem dX4_twinPlace_1 : decode cX4_twinPlace 1 = .ok (.getfield 45, 3) := by decide +kernel
theorem dX4_twinPlace_4 : decode cX4_twinPlace 4 = .ok (.ireturn, 1) := by decide +kernel
theorem dX4_wholeNumber_0 : decode cX4_wholeNumber 0 = .ok (.aload_n 0, 1) := by decide +kernel
theorem dX4_wholeNumber_1 : decode cX4_wholeNumber 1 = .ok (.iconst 0, 1) := by decide +kernel
theorem dX4_wholeNumber_2 : decode cX4_wholeNumber 2 = .ok (.invokevirtual 49, 3) := by decide +kernel
theorem dX4_wholeNumber_5 : decode cX4_wholeNumber 5 = .ok (.lreturn, 1) := by decide +kernel
theorem dX4_rank_0 : decode cX4_rank 0 = .ok (.aload_n 0, 1) := by decide +kernel
theorem dX4_rank_1 : decode cX4_rank 1 = .ok (.iconst 0, 1) := by decide +kernel
theorem dX4_rank_2 : decode cX4_rank 2 = .ok (.putfield 41, 3) := by decide +kernel
theorem dX4_rank_5 : decode cX4_rank 5 = .ok (.aload_n 0, 1) := by decide +kernel
theorem dX4_rank_6 : decode cX4_rank 6 = .ok (.iconst (-1), 1) := by decide +kernel
theorem dX4_rank_7 : decode cX4_rank 7 = .ok (.putfield 45, 3) := by decide +kernel
theorem dX4_rank_10 : decode cX4_rank 10 = .ok (.aload_n 0, 1) := by decide +kernel
theorem dX4_rank_11 : decode cX4_rank 11 = .ok (.getfield 33, 3) := by decide +kernel
theorem dX4_rank_14 : decode cX4_rank 14 = .ok (.invokevirtual 53, 3) := by decide +kernel
theorem dX4_rank_17 : decode cX4_rank 17 = .ok (.iconst 1, 1) := by decide +kernel
theorem dX4_rank_18 : decode cX4_rank 18 = .ok (.isub, 1) := by decide +kernel
theorem dX4_rank_19 : decode cX4_rank 19 = .ok (.istore_n 1, 1) := by decide +kernel
theorem dX4_rank_20 : decode cX4_rank 20 = .ok (.iload_n 1, 1) := by decide +kernel
theorem dX4_rank_21 : decode cX4_rank 21 = .ok (.ifCond .lt 78, 3) := by decide +kernel
theorem dX4_rank_24 : decode cX4_rank 24 = .ok (.aload_n 0, 1) := by decide +kernel
theorem dX4_rank_25 : decode cX4_rank 25 = .ok (.getfield 9, 3) := by decide +kernel
theorem dX4_rank_28 : decode cX4_rank 28 = .ok (.iload_n 1, 1) := by decide +kernel
theorem dX4_rank_29 : decode cX4_rank 29 = .ok (.aload_n 0, 1) := by decide +kernel
theorem dX4_rank_30 : decode cX4_rank 30 = .ok (.iload_n 1, 1) := by decide +kernel
theorem dX4_rank_31 : decode cX4_rank 31 = .ok (.invokevirtual 59, 3) := by decide +kernel
theorem dX4_rank_34 : decode cX4_rank 34 = .ok (.invokestatic 62, 3) := by decide +kernel
theorem dX4_rank_37 : decode cX4_rank 37 = .ok (.iload_n 1, 1) := by decide +kernel
theorem dX4_rank_38 : decode cX4_rank 38 = .ok (.ifCond .le 32, 3) := by decide +kernel
theorem dX4_rank_41 : decode cX4_rank 41 = .ok (.aload_n 0, 1) := by decide +kernel
theorem dX4_rank_42 : decode cX4_rank 42 = .ok (.getfield 25, 3) := by decide +kernel
theorem dX4_rank_45 : decode cX4_rank 45 = .ok (.aload_n 0, 1) := by decide +kernel
theorem dX4_rank_46 : decode cX4_rank 46 = .ok (.getfield 33, 3) := by decide +kernel
theorem dX4_rank_49 : decode cX4_rank 49 = .ok (.aload_n 0, 1) := by decide +kernel
theorem dX4_rank_50 : decode cX4_rank 50 = .ok (.getfield 33, 3) := by decide +kernel
theorem dX4_rank_53 : decode cX4_rank 53 = .ok (.iload_n 1, 1) := by decide +kernel
theorem dX4_rank_54 : decode cX4_rank 54 = .ok (.invokevirtual 68, 3) := by decide +kernel
theorem dX4_rank_57 : decode cX4_rank 57 = .ok (.invokevirtual 72, 3) := by decide +kernel
theorem dX4_rank_60 : decode cX4_rank 60 = .ok (.invokevirtual 75, 3) := by decide +kernel
theorem dX4_rank_63 : decode cX4_rank 63 = .ok (.ifCond .eq 7, 3) := by decide +kernel
theorem dX4_rank_66 : decode cX4_rank 66 = .ok (.iconst 1, 1) := by decide +kernel
theorem dX4_rank_67 : decode cX4_rank 67 = .ok (.goto 4, 3) := by decide +kernel
theorem dX4_rank_70 : decode cX4_rank 70 = .ok (.iconst 0, 1) := by decide +kernel
theorem dX4_rank_71 : decode cX4_rank 71 = .ok (.istore_n 2, 1) := by decide +kernel
theorem dX4_rank_72 : decode cX4_rank 72 = .ok (.iload_n 2, 1) := by decide +kernel
theorem dX4_rank_73 : decode cX4_rank 73 = .ok (.ifCond .eq 20, 3) := by decide +kernel
theorem dX4_rank_76 : decode cX4_rank 76 = .ok (.aload_n 0, 1) := by decide +kernel
theorem dX4_rank_77 : decode cX4_rank 77 = .ok (.iload_n 1, 1) := by decide +kernel
theorem dX4_rank_78 : decode cX4_rank 78 = .ok (.invokevirtual 49, 3) := by decide +kernel
theorem dX4_rank_81 : decode cX4_rank 81 = .ok (.ldc2_w 81, 3) := by decide +kernel
theorem dX4_rank_84 : decode cX4_rank 84 = .ok (.lcmp, 1) := by decide +kernel
theorem dX4_rank_85 : decode cX4_rank 85 = .ok (.ifCond .lt 8, 3) := by decide +kernel
theorem dX4_rank_88 : decode cX4_rank 88 = .ok (.aload_n 0, 1) := by decide +kernel
theorem dX4_rank_89 : decode cX4_rank 89 = .ok (.iconst 1, 1) := by decide +kernel
theorem dX4_rank_90 : decode cX4_rank 90 = .ok (.putfield 41, 3) := by decide +kernel
theorem dX4_rank_93 : decode cX4_rank 93 = .ok (.iinc 1 (-1), 3) := by decide +kernel
theorem dX4_rank_96 : decode cX4_rank 96 = .ok (.goto (-76), 3) := by decide +kernel
theorem dX4_rank_99 : decode cX4_rank 99 = .ok (.return_, 1) := by decide +kernel
theorem dX4_numberAt_0 : decode cX4_numberAt 0 = .ok (.aload_n 0, 1) := by decide +kernel
theorem dX4_numberAt_1 : decode cX4_numberAt 1 = .ok (.getfield 9, 3) := by decide +kernel
theorem dX4_numberAt_4 : decode cX4_numberAt 4 = .ok (.iload_n 1, 1) := by decide +kernel
theorem dX4_numberAt_5 : decode cX4_numberAt 5 = .ok (.invokestatic 83, 3) := by decide +kernel
theorem dX4_numberAt_8 : decode cX4_numberAt 8 = .ok (.lreturn, 1) := by decide +kernel
theorem dX4_numberOf_0 : decode cX4_numberOf 0 = .ok (.aload_n 0, 1) := by decide +kernel
theorem dX4_numberOf_1 : decode cX4_numberOf 1 = .ok (.getfield 33, 3) := by decide +kernel
theorem dX4_numberOf_4 : decode cX4_numberOf 4 = .ok (.iload_n 1, 1) := by decide +kernel
theorem dX4_numberOf_5 : decode cX4_numberOf 5 = .ok (.invokevirtual 72, 3) := by decide +kernel
theorem dX4_numberOf_8 : decode cX4_numberOf 8 = .ok (.istore_n 2, 1) := by decide +kernel
theorem dX4_numberOf_9 : decode cX4_numberOf 9 = .ok (.aload_n 0, 1) := by decide +kernel
theorem dX4_numberOf_10 : decode cX4_numberOf 10 = .ok (.getfield 25, 3) := by decide +kernel
theorem dX4_numberOf_13 : decode cX4_numberOf 13 = .ok (.iload_n 2, 1) := by decide +kernel
theorem dX4_numberOf_14 : decode cX4_numberOf 14 = .ok (.invokevirtual 87, 3) := by decide +kernel
theorem dX4_numberOf_17 : decode cX4_numberOf 17 = .ok (.istore_n 3, 1) := by decide +kernel
theorem dX4_numberOf_18 : decode cX4_numberOf 18 = .ok (.aload_n 0, 1) := by decide +kernel
theorem dX4_numberOf_19 : decode cX4_numberOf 19 = .ok (.iload_n 1, 1) := by decide +kernel
theorem dX4_numberOf_20 : decode cX4_numberOf 20 = .ok (.invokevirtual 90, 3) := by decide +kernel
theorem dX4_numberOf_23 : decode cX4_numberOf 23 = .ok (.iload_n 3, 1) := by decide +kernel
theorem dX4_numberOf_24 : decode cX4_numberOf 24 = .ok (.bipush 6, 2) := by decide +kernel
theorem dX4_numberOf_26 : decode cX4_numberOf 26 = .ok (.if_icmp .ne 14, 3) := by decide +kernel
theorem dX4_numberOf_29 : decode cX4_numberOf 29 = .ok (.aload_n 0, 1) := by decide +kernel
theorem dX4_numberOf_30 : decode cX4_numberOf 30 = .ok (.invokevirtual 94, 3) := by decide +kernel
theorem dX4_numberOf_33 : decode cX4_numberOf 33 = .ok (.ifCond .eq 7, 3) := by decide +kernel
theorem dX4_numberOf_36 : decode cX4_numberOf 36 = .ok (.iconst 1, 1) := by decide +kernel
theorem dX4_numberOf_37 : decode cX4_numberOf 37 = .ok (.goto 4, 3) := by decide +kernel
theorem dX4_numberOf_40 : decode cX4_numberOf 40 = .ok (.iconst 0, 1) := by decide +kernel
theorem dX4_numberOf_41 : decode cX4_numberOf 41 = .ok (.istore 4, 2) := by decide +kernel
theorem dX4_numberOf_43 : decode cX4_numberOf 43 = .ok (.iload 4, 2) := by decide +kernel
theorem dX4_numberOf_45 : decode cX4_numberOf 45 = .ok (.ifCond .ne 10, 3) := by decide +kernel
theorem dX4_numberOf_48 : decode cX4_numberOf 48 = .ok (.aload_n 0, 1) := by decide +kernel
theorem dX4_numberOf_49 : decode cX4_numberOf 49 = .ok (.invokevirtual 98, 3) := by decide +kernel
theorem dX4_numberOf_52 : decode cX4_numberOf 52 = .ok (.ifCond .eq 7, 3) := by decide +kernel
theorem dX4_numberOf_55 : decode cX4_numberOf 55 = .ok (.ldc2_w 101, 3) := by decide +kernel
theorem dX4_numberOf_58 : decode cX4_numberOf 58 = .ok (.lreturn, 1) := by decide +kernel
theorem dX4_numberOf_59 : decode cX4_numberOf 59 = .ok (.iload_n 3, 1) := by decide +kernel
theorem dX4_numberOf_60 : decode cX4_numberOf 60 = .ok (.tableswitch 161 2 8 #[44, 51, 125, 132, 132, 139, 147], 44) := by decide +kernel
theorem dX4_numberOf_104 : decode cX4_numberOf 104 = .ok (.aload_n 0, 1) := by decide +kernel
theorem dX4_numberOf_105 : decode cX4_numberOf 105 = .ok (.iload_n 1, 1) := by decide +kernel
theorem dX4_numberOf_106 : decode cX4_numberOf 106 = .ok (.iload_n 2, 1) := by decide +kernel
theorem dX4_numberOf_107 : decode cX4_numberOf 107 = .ok (.invokevirtual 103, 3) := by decide +kernel
theorem dX4_numberOf_110 : decode cX4_numberOf 110 = .ok (.lreturn, 1) := by decide +kernel
theorem dX4_numberOf_111 : decode cX4_numberOf 111 = .ok (.aload_n 0, 1) := by decide +kernel
theorem dX4_numberOf_112 : decode cX4_numberOf 112 = .ok (.getfield 37, 3) := by decide +kernel
theorem dX4_numberOf_115 : decode cX4_numberOf 115 = .ok (.aload_n 0, 1) := by decide +kernel
theorem dX4_numberOf_116 : decode cX4_numberOf 116 = .ok (.getfield 33, 3) := by decide +kernel
theorem dX4_numberOf_119 : decode cX4_numberOf 119 = .ok (.iload_n 1, 1) := by decide +kernel
theorem dX4_numberOf_120 : decode cX4_numberOf 120 = .ok (.invokevirtual 107, 3) := by decide +kernel
theorem dX4_numberOf_123 : decode cX4_numberOf 123 = .ok (.invokevirtual 110, 3) := by decide +kernel
theorem dX4_numberOf_126 : decode cX4_numberOf 126 = .ok (.bipush 49, 2) := by decide +kernel
theorem dX4_numberOf_128 : decode cX4_numberOf 128 = .ok (.if_icmp .ne 7, 3) := by decide +kernel
theorem dX4_numberOf_131 : decode cX4_numberOf 131 = .ok (.iconst 1, 1) := by decide +kernel
theorem dX4_numberOf_132 : decode cX4_numberOf 132 = .ok (.goto 4, 3) := by decide +kernel
theorem dX4_numberOf_135 : decode cX4_numberOf 135 = .ok (.iconst 0, 1) := by decide +kernel
theorem dX4_numberOf_136 : decode cX4_numberOf 136 = .ok (.istore 5, 2) := by decide +kernel
theorem dX4_numberOf_138 : decode cX4_numberOf 138 = .ok (.iload 5, 2) := by decide +kernel
theorem dX4_numberOf_140 : decode cX4_numberOf 140 = .ok (.ifCond .eq 7, 3) := by decide +kernel
theorem dX4_numberOf_143 : decode cX4_numberOf 143 = .ok (.lconst 0, 1) := by decide +kernel
theorem dX4_numberOf_144 : decode cX4_numberOf 144 = .ok (.goto 26, 3) := by decide +kernel
theorem dX4_numberOf_147 : decode cX4_numberOf 147 = .ok (.aload_n 0, 1) := by decide +kernel
theorem dX4_numberOf_148 : decode cX4_numberOf 148 = .ok (.getfield 29, 3) := by decide +kernel
theorem dX4_numberOf_151 : decode cX4_numberOf 151 = .ok (.aload_n 0, 1) := by decide +kernel
theorem dX4_numberOf_152 : decode cX4_numberOf 152 = .ok (.getfield 25, 3) := by decide +kernel
theorem dX4_numberOf_155 : decode cX4_numberOf 155 = .ok (.iload_n 2, 1) := by decide +kernel
theorem dX4_numberOf_156 : decode cX4_numberOf 156 = .ok (.invokevirtual 114, 3) := by decide +kernel
theorem dX4_numberOf_159 : decode cX4_numberOf 159 = .ok (.aload_n 0, 1) := by decide +kernel
theorem dX4_numberOf_160 : decode cX4_numberOf 160 = .ok (.getfield 33, 3) := by decide +kernel
theorem dX4_numberOf_163 : decode cX4_numberOf 163 = .ok (.iload_n 1, 1) := by decide +kernel
theorem dX4_numberOf_164 : decode cX4_numberOf 164 = .ok (.invokevirtual 117, 3) := by decide +kernel
theorem dX4_numberOf_167 : decode cX4_numberOf 167 = .ok (.invokevirtual 120, 3) := by decide +kernel
theorem dX4_numberOf_170 : decode cX4_numberOf 170 = .ok (.lstore 6, 2) := by decide +kernel
theorem dX4_numberOf_172 : decode cX4_numberOf 172 = .ok (.lload 6, 2) := by decide +kernel
theorem dX4_numberOf_174 : decode cX4_numberOf 174 = .ok (.aload_n 0, 1) := by decide +kernel
theorem dX4_numberOf_175 : decode cX4_numberOf 175 = .ok (.iload_n 1, 1) := by decide +kernel
theorem dX4_numberOf_176 : decode cX4_numberOf 176 = .ok (.iconst 1, 1) := by decide +kernel
theorem dX4_numberOf_177 : decode cX4_numberOf 177 = .ok (.iadd, 1) := by decide +kernel
theorem dX4_numberOf_178 : decode cX4_numberOf 178 = .ok (.invokevirtual 49, 3) := by decide +kernel
theorem dX4_numberOf_181 : decode cX4_numberOf 181 = .ok (.invokestatic 125, 3) := by decide +kernel
theorem dX4_numberOf_184 : decode cX4_numberOf 184 = .ok (.lreturn, 1) := by decide +kernel
theorem dX4_numberOf_185 : decode cX4_numberOf 185 = .ok (.aload_n 0, 1) := by decide +kernel
theorem dX4_numberOf_186 : decode cX4_numberOf 186 = .ok (.iload_n 1, 1) := by decide +kernel
theorem dX4_numberOf_187 : decode cX4_numberOf 187 = .ok (.iload_n 2, 1) := by decide +kernel
theorem dX4_numberOf_188 : decode cX4_numberOf 188 = .ok (.invokevirtual 131, 3) := by decide +kernel
theorem dX4_numberOf_191 : decode cX4_numberOf 191 = .ok (.lreturn, 1) := by decide +kernel
theorem dX4_numberOf_192 : decode cX4_numberOf 192 = .ok (.aload_n 0, 1) := by decide +kernel
theorem dX4_numberOf_193 : decode cX4_numberOf 193 = .ok (.iload_n 1, 1) := by decide +kernel
theorem dX4_numberOf_194 : decode cX4_numberOf 194 = .ok (.iload_n 2, 1) := by decide +kernel
theorem dX4_numberOf_195 : decode cX4_numberOf 195 = .ok (.invokevirtual 134, 3) := by decide +kernel
theorem dX4_numberOf_198 : decode cX4_numberOf 198 = .ok (.lreturn, 1) := by decide +kernel
theorem dX4_numberOf_199 : decode cX4_numberOf 199 = .ok (.aload_n 0, 1) := by decide +kernel
theorem dX4_numberOf_200 : decode cX4_numberOf 200 = .ok (.iload_n 1, 1) := by decide +kernel
theorem dX4_numberOf_201 : decode cX4_numberOf 201 = .ok (.iconst 1, 1) := by decide +kernel
theorem dX4_numberOf_202 : decode cX4_numberOf 202 = .ok (.iadd, 1) := by decide +kernel
theorem dX4_numberOf_203 : decode cX4_numberOf 203 = .ok (.invokevirtual 49, 3) := by decide +kernel
theorem dX4_numberOf_206 : decode cX4_numberOf 206 = .ok (.lreturn, 1) := by decide +kernel
theorem dX4_numberOf_207 : decode cX4_numberOf 207 = .ok (.aload_n 0, 1) := by decide +kernel
theorem dX4_numberOf_208 : decode cX4_numberOf 208 = .ok (.iload_n 1, 1) := by decide +kernel
theorem dX4_numberOf_209 : decode cX4_numberOf 209 = .ok (.aload_n 0, 1) := by decide +kernel
theorem dX4_numberOf_210 : decode cX4_numberOf 210 = .ok (.getfield 25, 3) := by decide +kernel
theorem dX4_numberOf_213 : decode cX4_numberOf 213 = .ok (.iload_n 2, 1) := by decide +kernel
theorem dX4_numberOf_214 : decode cX4_numberOf 214 = .ok (.invokevirtual 114, 3) := by decide +kernel
theorem dX4_numberOf_217 : decode cX4_numberOf 217 = .ok (.invokevirtual 137, 3) := by decide +kernel
theorem dX4_numberOf_220 : decode cX4_numberOf 220 = .ok (.lreturn, 1) := by decide +kernel
theorem dX4_numberOf_221 : decode cX4_numberOf 221 = .ok (.lconst 0, 1) := by decide +kernel
theorem dX4_numberOf_222 : decode cX4_numberOf 222 = .ok (.lreturn, 1) := by decide +kernel
theorem dX4_gatherParts_0 : decode cX4_gatherParts 0 = .ok (.aload_n 0, 1) := by decide +kernel
theorem dX4_gatherParts_1 : decode cX4_gatherParts 1 = .ok (.getfield 33, 3) := by decide +kernel
theorem dX4_gatherParts_4 : decode cX4_gatherParts 4 = .ok (.iload_n 1, 1) := by decide +kernel
theorem dX4_gatherParts_5 : decode cX4_gatherParts 5 = .ok (.invokevirtual 140, 3) := by decide +kernel
theorem dX4_gatherParts_8 : decode cX4_gatherParts 8 = .ok (.istore_n 2, 1) := by decide +kernel
theorem dX4_gatherParts_9 : decode cX4_gatherParts 9 = .ok (.aload_n 0, 1) := by decide +kernel
theorem dX4_gatherParts_10 : decode cX4_gatherParts 10 = .ok (.iconst 0, 1) := by decide +kernel
theorem dX4_gatherParts_11 : decode cX4_gatherParts 11 = .ok (.putfield 143, 3) := by decide +kernel
theorem dX4_gatherParts_14 : decode cX4_gatherParts 14 = .ok (.iload_n 1, 1) := by decide +kernel
theorem dX4_gatherParts_15 : decode cX4_gatherParts 15 = .ok (.iconst 1, 1) := by decide +kernel
theorem dX4_gatherParts_16 : decode cX4_gatherParts 16 = .ok (.iadd, 1) := by decide +kernel
theorem dX4_gatherParts_17 : decode cX4_gatherParts 17 = .ok (.istore_n 3, 1) := by decide +kernel
theorem dX4_gatherParts_18 : decode cX4_gatherParts 18 = .ok (.iload_n 3, 1) := by decide +kernel
theorem dX4_gatherParts_19 : decode cX4_gatherParts 19 = .ok (.iload_n 2, 1) := by decide +kernel
theorem dX4_gatherParts_20 : decode cX4_gatherParts 20 = .ok (.if_icmp .ge 53, 3) := by decide +kernel
theorem dX4_gatherParts_23 : decode cX4_gatherParts 23 = .ok (.aload_n 0, 1) := by decide +kernel
theorem dX4_gatherParts_24 : decode cX4_gatherParts 24 = .ok (.getfield 143, 3) := by decide +kernel
theorem dX4_gatherParts_27 : decode cX4_gatherParts 27 = .ok (.sipush 300, 3) := by decide +kernel
theorem dX4_gatherParts_30 : decode cX4_gatherParts 30 = .ok (.if_icmp .ge 43, 3) := by decide +kernel
theorem dX4_gatherParts_33 : decode cX4_gatherParts 33 = .ok (.aload_n 0, 1) := by decide +kernel
theorem dX4_gatherParts_34 : decode cX4_gatherParts 34 = .ok (.getfield 15, 3) := by decide +kernel
theorem dX4_gatherParts_37 : decode cX4_gatherParts 37 = .ok (.aload_n 0, 1) := by decide +kernel
theorem dX4_gatherParts_38 : decode cX4_gatherParts 38 = .ok (.getfield 143, 3) := by decide +kernel
theorem dX4_gatherParts_41 : decode cX4_gatherParts 41 = .ok (.iload_n 3, 1) := by decide +kernel
theorem dX4_gatherParts_42 : decode cX4_gatherParts 42 = .ok (.invokestatic 146, 3) := by decide +kernel
theorem dX4_gatherParts_45 : decode cX4_gatherParts 45 = .ok (.aload_n 0, 1) := by decide +kernel
theorem dX4_gatherParts_46 : decode cX4_gatherParts 46 = .ok (.dup, 1) := by decide +kernel
theorem dX4_gatherParts_47 : decode cX4_gatherParts 47 = .ok (.getfield 143, 3) := by decide +kernel
theorem dX4_gatherParts_50 : decode cX4_gatherParts 50 = .ok (.iconst 1, 1) := by decide +kernel
theorem dX4_gatherParts_51 : decode cX4_gatherParts 51 = .ok (.iadd, 1) := by decide +kernel
theorem dX4_gatherParts_52 : decode cX4_gatherParts 52 = .ok (.putfield 143, 3) := by decide +kernel
theorem dX4_gatherParts_55 : decode cX4_gatherParts 55 = .ok (.iload_n 3, 1) := by decide +kernel
theorem dX4_gatherParts_56 : decode cX4_gatherParts 56 = .ok (.iconst 1, 1) := by decide +kernel
theorem dX4_gatherParts_57 : decode cX4_gatherParts 57 = .ok (.iadd, 1) := by decide +kernel
theorem dX4_gatherParts_58 : decode cX4_gatherParts 58 = .ok (.aload_n 0, 1) := by decide +kernel
theorem dX4_gatherParts_59 : decode cX4_gatherParts 59 = .ok (.getfield 33, 3) := by decide +kernel
theorem dX4_gatherParts_62 : decode cX4_gatherParts 62 = .ok (.iload_n 3, 1) := by decide +kernel
theorem dX4_gatherParts_63 : decode cX4_gatherParts 63 = .ok (.invokevirtual 140, 3) := by decide +kernel
theorem dX4_gatherParts_66 : decode cX4_gatherParts 66 = .ok (.invokestatic 149, 3) := by decide +kernel
theorem dX4_gatherParts_69 : decode cX4_gatherParts 69 = .ok (.istore_n 3, 1) := by decide +kernel
theorem dX4_gatherParts_70 : decode cX4_gatherParts 70 = .ok (.goto (-52), 3) := by decide +kernel
theorem dX4_gatherParts_73 : decode cX4_gatherParts 73 = .ok (.return_, 1) := by decide +kernel
theorem dX4_part_0 : decode cX4_part 0 = .ok (.aload_n 0, 1) := by decide +kernel
theorem dX4_part_1 : decode cX4_part 1 = .ok (.getfield 15, 3) := by decide +kernel
theorem dX4_part_4 : decode cX4_part 4 = .ok (.iload_n 1, 1) := by decide +kernel
theorem dX4_part_5 : decode cX4_part 5 = .ok (.invokestatic 155, 3) := by decide +kernel
theorem dX4_part_8 : decode cX4_part 8 = .ok (.ireturn, 1) := by decide +kernel
theorem dX4_hasUnknownPart_0 : decode cX4_hasUnknownPart 0 = .ok (.iconst 0, 1) := by decide +kernel
theorem dX4_hasUnknownPart_1 : decode cX4_hasUnknownPart 1 = .ok (.istore_n 1, 1) := by decide +kernel
theorem dX4_hasUnknownPart_2 : decode cX4_hasUnknownPart 2 = .ok (.iload_n 1, 1) := by decide +kernel
theorem dX4_hasUnknownPart_3 : decode cX4_hasUnknownPart 3 = .ok (.aload_n 0, 1) := by decide +kernel
theorem dX4_hasUnknownPart_4 : decode cX4_hasUnknownPart 4 = .ok (.getfield 143, 3) := by decide +kernel
theorem dX4_hasUnknownPart_7 : decode cX4_hasUnknownPart 7 = .ok (.if_icmp .ge 27, 3) := by decide +kernel
theorem dX4_hasUnknownPart_10 : decode cX4_hasUnknownPart 10 = .ok (.aload_n 0, 1) := by decide +kernel
theorem dX4_hasUnknownPart_11 : decode cX4_hasUnknownPart 11 = .ok (.aload_n 0, 1) := by decide +kernel
theorem dX4_hasUnknownPart_12 : decode cX4_hasUnknownPart 12 = .ok (.iload_n 1, 1) := by decide +kernel
theorem dX4_hasUnknownPart_13 : decode cX4_hasUnknownPart 13 = .ok (.invokevirtual 158, 3) := by decide +kernel
theorem dX4_hasUnknownPart_16 : decode cX4_hasUnknownPart 16 = .ok (.invokevirtual 49, 3) := by decide +kernel
theorem dX4_hasUnknownPart_19 : decode cX4_hasUnknownPart 19 = .ok (.ldc2_w 101, 3) := by decide +kernel
theorem dX4_hasUnknownPart_22 : decode cX4_hasUnknownPart 22 = .ok (.lcmp, 1) := by decide +kernel
theorem dX4_hasUnknownPart_23 : decode cX4_hasUnknownPart 23 = .ok (.ifCond .ne 5, 3) := by decide +kernel
theorem dX4_hasUnknownPart_26 : decode cX4_hasUnknownPart 26 = .ok (.iconst 1, 1) := by decide +kernel
theorem dX4_hasUnknownPart_27 : decode cX4_hasUnknownPart 27 = .ok (.ireturn, 1) := by decide +kernel
theorem dX4_hasUnknownPart_28 : decode cX4_hasUnknownPart 28 = .ok (.iinc 1 1, 3) := by decide +kernel
theorem dX4_hasUnknownPart_31 : decode cX4_hasUnknownPart 31 = .ok (.goto (-29), 3) := by decide +kernel
theorem dX4_hasUnknownPart_34 : decode cX4_hasUnknownPart 34 = .ok (.iconst 0, 1) := by decide +kernel
theorem dX4_hasUnknownPart_35 : decode cX4_hasUnknownPart 35 = .ok (.ireturn, 1) := by decide +kernel
theorem dX4_findsTwin_0 : decode cX4_findsTwin 0 = .ok (.iconst 0, 1) := by decide +kernel
theorem dX4_findsTwin_1 : decode cX4_findsTwin 1 = .ok (.istore_n 1, 1) := by decide +kernel
theorem dX4_findsTwin_2 : decode cX4_findsTwin 2 = .ok (.iload_n 1, 1) := by decide +kernel
theorem dX4_findsTwin_3 : decode cX4_findsTwin 3 = .ok (.aload_n 0, 1) := by decide +kernel
theorem dX4_findsTwin_4 : decode cX4_findsTwin 4 = .ok (.getfield 143, 3) := by decide +kernel
theorem dX4_findsTwin_7 : decode cX4_findsTwin 7 = .ok (.if_icmp .ge 55, 3) := by decide +kernel
theorem dX4_findsTwin_10 : decode cX4_findsTwin 10 = .ok (.aload_n 0, 1) := by decide +kernel
theorem dX4_findsTwin_11 : decode cX4_findsTwin 11 = .ok (.iload_n 1, 1) := by decide +kernel
theorem dX4_findsTwin_12 : decode cX4_findsTwin 12 = .ok (.invokevirtual 161, 3) := by decide +kernel
theorem dX4_findsTwin_15 : decode cX4_findsTwin 15 = .ok (.ifCond .eq 41, 3) := by decide +kernel
theorem dX4_findsTwin_18 : decode cX4_findsTwin 18 = .ok (.aload_n 0, 1) := by decide +kernel
theorem dX4_findsTwin_19 : decode cX4_findsTwin 19 = .ok (.getfield 33, 3) := by decide +kernel
theorem dX4_findsTwin_22 : decode cX4_findsTwin 22 = .ok (.aload_n 0, 1) := by decide +kernel
theorem dX4_findsTwin_23 : decode cX4_findsTwin 23 = .ok (.iload_n 1, 1) := by decide +kernel
theorem dX4_findsTwin_24 : decode cX4_findsTwin 24 = .ok (.invokevirtual 158, 3) := by decide +kernel
theorem dX4_findsTwin_27 : decode cX4_findsTwin 27 = .ok (.invokevirtual 107, 3) := by decide +kernel
theorem dX4_findsTwin_30 : decode cX4_findsTwin 30 = .ok (.istore_n 2, 1) := by decide +kernel
theorem dX4_findsTwin_31 : decode cX4_findsTwin 31 = .ok (.aload_n 0, 1) := by decide +kernel
theorem dX4_findsTwin_32 : decode cX4_findsTwin 32 = .ok (.aload_n 0, 1) := by decide +kernel
theorem dX4_findsTwin_33 : decode cX4_findsTwin 33 = .ok (.invokevirtual 164, 3) := by decide +kernel
theorem dX4_findsTwin_36 : decode cX4_findsTwin 36 = .ok (.ifCond .eq 14, 3) := by decide +kernel
theorem dX4_findsTwin_39 : decode cX4_findsTwin 39 = .ok (.aload_n 0, 1) := by decide +kernel
theorem dX4_findsTwin_40 : decode cX4_findsTwin 40 = .ok (.getfield 45, 3) := by decide +kernel
theorem dX4_findsTwin_43 : decode cX4_findsTwin 43 = .ok (.iload_n 2, 1) := by decide +kernel
theorem dX4_findsTwin_44 : decode cX4_findsTwin 44 = .ok (.invokestatic 167, 3) := by decide +kernel
theorem dX4_findsTwin_47 : decode cX4_findsTwin 47 = .ok (.goto 4, 3) := by decide +kernel
theorem dX4_findsTwin_50 : decode cX4_findsTwin 50 = .ok (.iload_n 2, 1) := by decide +kernel
theorem dX4_findsTwin_51 : decode cX4_findsTwin 51 = .ok (.putfield 45, 3) := by decide +kernel
theorem dX4_findsTwin_54 : decode cX4_findsTwin 54 = .ok (.iconst 1, 1) := by decide +kernel
theorem dX4_findsTwin_55 : decode cX4_findsTwin 55 = .ok (.ireturn, 1) := by decide +kernel
theorem dX4_findsTwin_56 : decode cX4_findsTwin 56 = .ok (.iinc 1 1, 3) := by decide +kernel
theorem dX4_findsTwin_59 : decode cX4_findsTwin 59 = .ok (.goto (-57), 3) := by decide +kernel
theorem dX4_findsTwin_62 : decode cX4_findsTwin 62 = .ok (.iconst 0, 1) := by decide +kernel
theorem dX4_findsTwin_63 : decode cX4_findsTwin 63 = .ok (.ireturn, 1) := by decide +kernel
theorem dX4_hasTwinAhead_0 : decode cX4_hasTwinAhead 0 = .ok (.aload_n 0, 1) := by decide +kernel
theorem dX4_hasTwinAhead_1 : decode cX4_hasTwinAhead 1 = .ok (.aload_n 0, 1) := by decide +kernel
theorem dX4_hasTwinAhead_2 : decode cX4_hasTwinAhead 2 = .ok (.iload_n 1, 1) := by decide +kernel
theorem dX4_hasTwinAhead_3 : decode cX4_hasTwinAhead 3 = .ok (.invokevirtual 158, 3) := by decide +kernel
theorem dX4_hasTwinAhead_6 : decode cX4_hasTwinAhead 6 = .ok (.invokevirtual 49, 3) := by decide +kernel
theorem dX4_hasTwinAhead_9 : decode cX4_hasTwinAhead 9 = .ok (.lstore_n 2, 1) := by decide +kernel
theorem dX4_hasTwinAhead_10 : decode cX4_hasTwinAhead 10 = .ok (.aload_n 0, 1) := by decide +kernel
theorem dX4_hasTwinAhead_11 : decode cX4_hasTwinAhead 11 = .ok (.getfield 33, 3) := by decide +kernel
theorem dX4_hasTwinAhead_14 : decode cX4_hasTwinAhead 14 = .ok (.aload_n 0, 1) := by decide +kernel
theorem dX4_hasTwinAhead_15 : decode cX4_hasTwinAhead 15 = .ok (.iload_n 1, 1) := by decide +kernel
theorem dX4_hasTwinAhead_16 : decode cX4_hasTwinAhead 16 = .ok (.invokevirtual 158, 3) := by decide +kernel
theorem dX4_hasTwinAhead_19 : decode cX4_hasTwinAhead 19 = .ok (.invokevirtual 117, 3) := by decide +kernel
theorem dX4_hasTwinAhead_22 : decode cX4_hasTwinAhead 22 = .ok (.istore 4, 2) := by decide +kernel
theorem dX4_hasTwinAhead_24 : decode cX4_hasTwinAhead 24 = .ok (.iconst 0, 1) := by decide +kernel
theorem dX4_hasTwinAhead_25 : decode cX4_hasTwinAhead 25 = .ok (.istore 5, 2) := by decide +kernel
theorem dX4_hasTwinAhead_27 : decode cX4_hasTwinAhead 27 = .ok (.iload 5, 2) := by decide +kernel
theorem dX4_hasTwinAhead_29 : decode cX4_hasTwinAhead 29 = .ok (.iload_n 1, 1) := by decide +kernel
theorem dX4_hasTwinAhead_30 : decode cX4_hasTwinAhead 30 = .ok (.if_icmp .ge 52, 3) := by decide +kernel
theorem dX4_hasTwinAhead_33 : decode cX4_hasTwinAhead 33 = .ok (.lload_n 2, 1) := by decide +kernel
theorem dX4_hasTwinAhead_34 : decode cX4_hasTwinAhead 34 = .ok (.ldc2_w 101, 3) := by decide +kernel
theorem dX4_hasTwinAhead_37 : decode cX4_hasTwinAhead 37 = .ok (.lcmp, 1) := by decide +kernel
theorem dX4_hasTwinAhead_38 : decode cX4_hasTwinAhead 38 = .ok (.ifCond .eq 44, 3) := by decide +kernel
theorem dX4_hasTwinAhead_41 : decode cX4_hasTwinAhead 41 = .ok (.aload_n 0, 1) := by decide +kernel
theorem dX4_hasTwinAhead_42 : decode cX4_hasTwinAhead 42 = .ok (.aload_n 0, 1) := by decide +kernel
theorem dX4_hasTwinAhead_43 : decode cX4_hasTwinAhead 43 = .ok (.iload 5, 2) := by decide +kernel
theorem dX4_hasTwinAhead_45 : decode cX4_hasTwinAhead 45 = .ok (.invokevirtual 158, 3) := by decide +kernel
theorem dX4_hasTwinAhead_48 : decode cX4_hasTwinAhead 48 = .ok (.invokevirtual 49, 3) := by decide +kernel
theorem dX4_hasTwinAhead_51 : decode cX4_hasTwinAhead 51 = .ok (.lload_n 2, 1) := by decide +kernel
theorem dX4_hasTwinAhead_52 : decode cX4_hasTwinAhead 52 = .ok (.lcmp, 1) := by decide +kernel
theorem dX4_hasTwinAhead_53 : decode cX4_hasTwinAhead 53 = .ok (.ifCond .ne 23, 3) := by decide +kernel
theorem dX4_hasTwinAhead_56 : decode cX4_hasTwinAhead 56 = .ok (.aload_n 0, 1) := by decide +kernel
theorem dX4_hasTwinAhead_57 : decode cX4_hasTwinAhead 57 = .ok (.getfield 33, 3) := by decide +kernel
theorem dX4_hasTwinAhead_60 : decode cX4_hasTwinAhead 60 = .ok (.aload_n 0, 1) := by decide +kernel
theorem dX4_hasTwinAhead_61 : decode cX4_hasTwinAhead 61 = .ok (.iload 5, 2) := by decide +kernel
theorem dX4_hasTwinAhead_63 : decode cX4_hasTwinAhead 63 = .ok (.invokevirtual 158, 3) := by decide +kernel
theorem dX4_hasTwinAhead_66 : decode cX4_hasTwinAhead 66 = .ok (.invokevirtual 117, 3) := by decide +kernel
theorem dX4_hasTwinAhead_69 : decode cX4_hasTwinAhead 69 = .ok (.iload 4, 2) := by decide +kernel
theorem dX4_hasTwinAhead_71 : decode cX4_hasTwinAhead 71 = .ok (.if_icmp .ne 5, 3) := by decide +kernel
theorem dX4_hasTwinAhead_74 : decode cX4_hasTwinAhead 74 = .ok (.iconst 1, 1) := by decide +kernel
theorem dX4_hasTwinAhead_75 : decode cX4_hasTwinAhead 75 = .ok (.ireturn, 1) := by decide +kernel
theorem dX4_hasTwinAhead_76 : decode cX4_hasTwinAhead 76 = .ok (.iinc 5 1, 3) := by decide +kernel
theorem dX4_hasTwinAhead_79 : decode cX4_hasTwinAhead 79 = .ok (.goto (-52), 3) := by decide +kernel
theorem dX4_hasTwinAhead_82 : decode cX4_hasTwinAhead 82 = .ok (.iconst 0, 1) := by decide +kernel
theorem dX4_hasTwinAhead_83 : decode cX4_hasTwinAhead 83 = .ok (.ireturn, 1) := by decide +kernel
theorem dX4_numberOfBoth_0 : decode cX4_numberOfBoth 0 = .ok (.aload_n 0, 1) := by decide +kernel
theorem dX4_numberOfBoth_1 : decode cX4_numberOfBoth 1 = .ok (.iconst 0, 1) := by decide +kernel
theorem dX4_numberOfBoth_2 : decode cX4_numberOfBoth 2 = .ok (.invokevirtual 158, 3) := by decide +kernel
theorem dX4_numberOfBoth_5 : decode cX4_numberOfBoth 5 = .ok (.istore_n 3, 1) := by decide +kernel
theorem dX4_numberOfBoth_6 : decode cX4_numberOfBoth 6 = .ok (.aload_n 0, 1) := by decide +kernel
theorem dX4_numberOfBoth_7 : decode cX4_numberOfBoth 7 = .ok (.getfield 29, 3) := by decide +kernel
theorem dX4_numberOfBoth_10 : decode cX4_numberOfBoth 10 = .ok (.iload_n 2, 1) := by decide +kernel
theorem dX4_numberOfBoth_11 : decode cX4_numberOfBoth 11 = .ok (.aload_n 0, 1) := by decide +kernel
theorem dX4_numberOfBoth_12 : decode cX4_numberOfBoth 12 = .ok (.getfield 33, 3) := by decide +kernel
theorem dX4_numberOfBoth_15 : decode cX4_numberOfBoth 15 = .ok (.iload_n 1, 1) := by decide +kernel
theorem dX4_numberOfBoth_16 : decode cX4_numberOfBoth 16 = .ok (.invokevirtual 117, 3) := by decide +kernel
theorem dX4_numberOfBoth_19 : decode cX4_numberOfBoth 19 = .ok (.aload_n 0, 1) := by decide +kernel
theorem dX4_numberOfBoth_20 : decode cX4_numberOfBoth 20 = .ok (.getfield 33, 3) := by decide +kernel
theorem dX4_numberOfBoth_23 : decode cX4_numberOfBoth 23 = .ok (.iload_n 3, 1) := by decide +kernel
theorem dX4_numberOfBoth_24 : decode cX4_numberOfBoth 24 = .ok (.invokevirtual 117, 3) := by decide +kernel
theorem dX4_numberOfBoth_27 : decode cX4_numberOfBoth 27 = .ok (.aload_n 0, 1) := by decide +kernel
theorem dX4_numberOfBoth_28 : decode cX4_numberOfBoth 28 = .ok (.iload_n 3, 1) := by decide +kernel
theorem dX4_numberOfBoth_29 : decode cX4_numberOfBoth 29 = .ok (.invokevirtual 49, 3) := by decide +kernel
theorem dX4_numberOfBoth_32 : decode cX4_numberOfBoth 32 = .ok (.invokevirtual 170, 3) := by decide +kernel
theorem dX4_numberOfBoth_35 : decode cX4_numberOfBoth 35 = .ok (.lstore 4, 2) := by decide +kernel
theorem dX4_numberOfBoth_37 : decode cX4_numberOfBoth 37 = .ok (.lload 4, 2) := by decide +kernel
theorem dX4_numberOfBoth_39 : decode cX4_numberOfBoth 39 = .ok (.aload_n 0, 1) := by decide +kernel
theorem dX4_numberOfBoth_40 : decode cX4_numberOfBoth 40 = .ok (.aload_n 0, 1) := by decide +kernel
theorem dX4_numberOfBoth_41 : decode cX4_numberOfBoth 41 = .ok (.iconst 1, 1) := by decide +kernel
theorem dX4_numberOfBoth_42 : decode cX4_numberOfBoth 42 = .ok (.invokevirtual 158, 3) := by decide +kernel
theorem dX4_numberOfBoth_45 : decode cX4_numberOfBoth 45 = .ok (.invokevirtual 49, 3) := by decide +kernel
theorem dX4_numberOfBoth_48 : decode cX4_numberOfBoth 48 = .ok (.invokestatic 125, 3) := by decide +kernel
theorem dX4_numberOfBoth_51 : decode cX4_numberOfBoth 51 = .ok (.lreturn, 1) := by decide +kernel
theorem dX4_numberOfRow_0 : decode cX4_numberOfRow 0 = .ok (.aload_n 0, 1) := by decide +kernel
theorem dX4_numberOfRow_1 : decode cX4_numberOfRow 1 = .ok (.getfield 33, 3) := by decide +kernel
theorem dX4_numberOfRow_4 : decode cX4_numberOfRow 4 = .ok (.iload_n 1, 1) := by decide +kernel
theorem dX4_numberOfRow_5 : decode cX4_numberOfRow 5 = .ok (.invokevirtual 117, 3) := by decide +kernel
theorem dX4_numberOfRow_8 : decode cX4_numberOfRow 8 = .ok (.istore_n 3, 1) := by decide +kernel
theorem dX4_numberOfRow_9 : decode cX4_numberOfRow 9 = .ok (.lconst 0, 1) := by decide +kernel
theorem dX4_numberOfRow_10 : decode cX4_numberOfRow 10 = .ok (.lstore 4, 2) := by decide +kernel
theorem dX4_numberOfRow_12 : decode cX4_numberOfRow 12 = .ok (.iconst 0, 1) := by decide +kernel
theorem dX4_numberOfRow_13 : decode cX4_numberOfRow 13 = .ok (.istore 6, 2) := by decide +kernel
theorem dX4_numberOfRow_15 : decode cX4_numberOfRow 15 = .ok (.iload 6, 2) := by decide +kernel
theorem dX4_numberOfRow_17 : decode cX4_numberOfRow 17 = .ok (.aload_n 0, 1) := by decide +kernel
theorem dX4_numberOfRow_18 : decode cX4_numberOfRow 18 = .ok (.getfield 143, 3) := by decide +kernel
theorem dX4_numberOfRow_21 : decode cX4_numberOfRow 21 = .ok (.if_icmp .ge 57, 3) := by decide +kernel
theorem dX4_numberOfRow_24 : decode cX4_numberOfRow 24 = .ok (.aload_n 0, 1) := by decide +kernel
theorem dX4_numberOfRow_25 : decode cX4_numberOfRow 25 = .ok (.getfield 33, 3) := by decide +kernel
theorem dX4_numberOfRow_28 : decode cX4_numberOfRow 28 = .ok (.aload_n 0, 1) := by decide +kernel
theorem dX4_numberOfRow_29 : decode cX4_numberOfRow 29 = .ok (.iload 6, 2) := by decide +kernel
theorem dX4_numberOfRow_31 : decode cX4_numberOfRow 31 = .ok (.invokevirtual 158, 3) := by decide +kernel
theorem dX4_numberOfRow_34 : decode cX4_numberOfRow 34 = .ok (.invokevirtual 117, 3) := by decide +kernel
theorem dX4_numberOfRow_37 : decode cX4_numberOfRow 37 = .ok (.istore 7, 2) := by decide +kernel
theorem dX4_numberOfRow_39 : decode cX4_numberOfRow 39 = .ok (.lload 4, 2) := by decide +kernel
theorem dX4_numberOfRow_41 : decode cX4_numberOfRow 41 = .ok (.aload_n 0, 1) := by decide +kernel
theorem dX4_numberOfRow_42 : decode cX4_numberOfRow 42 = .ok (.getfield 29, 3) := by decide +kernel
theorem dX4_numberOfRow_45 : decode cX4_numberOfRow 45 = .ok (.iload_n 2, 1) := by decide +kernel
theorem dX4_numberOfRow_46 : decode cX4_numberOfRow 46 = .ok (.iload_n 3, 1) := by decide +kernel
theorem dX4_numberOfRow_47 : decode cX4_numberOfRow 47 = .ok (.iload 7, 2) := by decide +kernel
theorem dX4_numberOfRow_49 : decode cX4_numberOfRow 49 = .ok (.aload_n 0, 1) := by decide +kernel
theorem dX4_numberOfRow_50 : decode cX4_numberOfRow 50 = .ok (.aload_n 0, 1) := by decide +kernel
theorem dX4_numberOfRow_51 : decode cX4_numberOfRow 51 = .ok (.iload 6, 2) := by decide +kernel
theorem dX4_numberOfRow_53 : decode cX4_numberOfRow 53 = .ok (.invokevirtual 158, 3) := by decide +kernel
theorem dX4_numberOfRow_56 : decode cX4_numberOfRow 56 = .ok (.invokevirtual 49, 3) := by decide +kernel
theorem dX4_numberOfRow_59 : decode cX4_numberOfRow 59 = .ok (.invokevirtual 170, 3) := by decide +kernel
theorem dX4_numberOfRow_62 : decode cX4_numberOfRow 62 = .ok (.invokestatic 125, 3) := by decide +kernel
theorem dX4_numberOfRow_65 : decode cX4_numberOfRow 65 = .ok (.lstore 4, 2) := by decide +kernel
theorem dX4_numberOfRow_67 : decode cX4_numberOfRow 67 = .ok (.iload_n 3, 1) := by decide +kernel
theorem dX4_numberOfRow_68 : decode cX4_numberOfRow 68 = .ok (.iload 7, 2) := by decide +kernel
theorem dX4_numberOfRow_70 : decode cX4_numberOfRow 70 = .ok (.isub, 1) := by decide +kernel
theorem dX4_numberOfRow_71 : decode cX4_numberOfRow 71 = .ok (.istore_n 3, 1) := by decide +kernel
theorem dX4_numberOfRow_72 : decode cX4_numberOfRow 72 = .ok (.iinc 6 1, 3) := by decide +kernel
theorem dX4_numberOfRow_75 : decode cX4_numberOfRow 75 = .ok (.goto (-60), 3) := by decide +kernel
theorem dX4_numberOfRow_78 : decode cX4_numberOfRow 78 = .ok (.lload 4, 2) := by decide +kernel
theorem dX4_numberOfRow_80 : decode cX4_numberOfRow 80 = .ok (.lreturn, 1) := by decide +kernel
theorem dX4_numberOfBag_0 : decode cX4_numberOfBag 0 = .ok (.aload_n 0, 1) := by decide +kernel
theorem dX4_numberOfBag_1 : decode cX4_numberOfBag 1 = .ok (.iconst 0, 1) := by decide +kernel
theorem dX4_numberOfBag_2 : decode cX4_numberOfBag 2 = .ok (.putfield 174, 3) := by decide +kernel
theorem dX4_numberOfBag_5 : decode cX4_numberOfBag 5 = .ok (.iconst 0, 1) := by decide +kernel
theorem dX4_numberOfBag_6 : decode cX4_numberOfBag 6 = .ok (.istore_n 3, 1) := by decide +kernel
theorem dX4_numberOfBag_7 : decode cX4_numberOfBag 7 = .ok (.iload_n 3, 1) := by decide +kernel
theorem dX4_numberOfBag_8 : decode cX4_numberOfBag 8 = .ok (.aload_n 0, 1) := by decide +kernel
theorem dX4_numberOfBag_9 : decode cX4_numberOfBag 9 = .ok (.getfield 143, 3) := by decide +kernel
theorem dX4_numberOfBag_12 : decode cX4_numberOfBag 12 = .ok (.if_icmp .ge 34, 3) := by decide +kernel
theorem dX4_numberOfBag_15 : decode cX4_numberOfBag 15 = .ok (.aload_n 0, 1) := by decide +kernel
theorem dX4_numberOfBag_16 : decode cX4_numberOfBag 16 = .ok (.aload_n 0, 1) := by decide +kernel
theorem dX4_numberOfBag_17 : decode cX4_numberOfBag 17 = .ok (.getfield 33, 3) := by decide +kernel
theorem dX4_numberOfBag_20 : decode cX4_numberOfBag 20 = .ok (.aload_n 0, 1) := by decide +kernel
theorem dX4_numberOfBag_21 : decode cX4_numberOfBag 21 = .ok (.iload_n 3, 1) := by decide +kernel
theorem dX4_numberOfBag_22 : decode cX4_numberOfBag 22 = .ok (.invokevirtual 158, 3) := by decide +kernel
theorem dX4_numberOfBag_25 : decode cX4_numberOfBag 25 = .ok (.invokevirtual 117, 3) := by decide +kernel
theorem dX4_numberOfBag_28 : decode cX4_numberOfBag 28 = .ok (.aload_n 0, 1) := by decide +kernel
theorem dX4_numberOfBag_29 : decode cX4_numberOfBag 29 = .ok (.aload_n 0, 1) := by decide +kernel
theorem dX4_numberOfBag_30 : decode cX4_numberOfBag 30 = .ok (.iload_n 3, 1) := by decide +kernel
theorem dX4_numberOfBag_31 : decode cX4_numberOfBag 31 = .ok (.invokevirtual 158, 3) := by decide +kernel
theorem dX4_numberOfBag_34 : decode cX4_numberOfBag 34 = .ok (.invokevirtual 49, 3) := by decide +kernel
theorem dX4_numberOfBag_37 : decode cX4_numberOfBag 37 = .ok (.invokevirtual 177, 3) := by decide +kernel
theorem dX4_numberOfBag_40 : decode cX4_numberOfBag 40 = .ok (.iinc 3 1, 3) := by decide +kernel
theorem dX4_numberOfBag_43 : decode cX4_numberOfBag 43 = .ok (.goto (-36), 3) := by decide +kernel
theorem dX4_numberOfBag_46 : decode cX4_numberOfBag 46 = .ok (.aload_n 0, 1) := by decide +kernel
theorem dX4_numberOfBag_47 : decode cX4_numberOfBag 47 = .ok (.getfield 33, 3) := by decide +kernel
theorem dX4_numberOfBag_50 : decode cX4_numberOfBag 50 = .ok (.iload_n 1, 1) := by decide +kernel
theorem dX4_numberOfBag_51 : decode cX4_numberOfBag 51 = .ok (.invokevirtual 117, 3) := by decide +kernel
theorem dX4_numberOfBag_54 : decode cX4_numberOfBag 54 = .ok (.istore_n 3, 1) := by decide +kernel
theorem dX4_numberOfBag_55 : decode cX4_numberOfBag 55 = .ok (.lconst 0, 1) := by decide +kernel
theorem dX4_numberOfBag_56 : decode cX4_numberOfBag 56 = .ok (.lstore 4, 2) := by decide +kernel
theorem dX4_numberOfBag_58 : decode cX4_numberOfBag 58 = .ok (.iconst 0, 1) := by decide +kernel
theorem dX4_numberOfBag_59 : decode cX4_numberOfBag 59 = .ok (.istore 6, 2) := by decide +kernel
theorem dX4_numberOfBag_61 : decode cX4_numberOfBag 61 = .ok (.iload 6, 2) := by decide +kernel
theorem dX4_numberOfBag_63 : decode cX4_numberOfBag 63 = .ok (.aload_n 0, 1) := by decide +kernel
theorem dX4_numberOfBag_64 : decode cX4_numberOfBag 64 = .ok (.getfield 174, 3) := by decide +kernel
theorem dX4_numberOfBag_67 : decode cX4_numberOfBag 67 = .ok (.if_icmp .ge 57, 3) := by decide +kernel
theorem dX4_numberOfBag_70 : decode cX4_numberOfBag 70 = .ok (.iload 6, 2) := by decide +kernel
theorem dX4_numberOfBag_72 : decode cX4_numberOfBag 72 = .ok (.sipush 300, 3) := by decide +kernel
theorem dX4_numberOfBag_75 : decode cX4_numberOfBag 75 = .ok (.if_icmp .ge 49, 3) := by decide +kernel
theorem dX4_numberOfBag_78 : decode cX4_numberOfBag 78 = .ok (.lload 4, 2) := by decide +kernel
theorem dX4_numberOfBag_80 : decode cX4_numberOfBag 80 = .ok (.aload_n 0, 1) := by decide +kernel
theorem dX4_numberOfBag_81 : decode cX4_numberOfBag 81 = .ok (.getfield 29, 3) := by decide +kernel
theorem dX4_numberOfBag_84 : decode cX4_numberOfBag 84 = .ok (.iload_n 2, 1) := by decide +kernel
theorem dX4_numberOfBag_85 : decode cX4_numberOfBag 85 = .ok (.iload_n 3, 1) := by decide +kernel
theorem dX4_numberOfBag_86 : decode cX4_numberOfBag 86 = .ok (.aload_n 0, 1) := by decide +kernel
theorem dX4_numberOfBag_87 : decode cX4_numberOfBag 87 = .ok (.getfield 19, 3) := by decide +kernel
theorem dX4_numberOfBag_90 : decode cX4_numberOfBag 90 = .ok (.iload 6, 2) := by decide +kernel
theorem dX4_numberOfBag_92 : decode cX4_numberOfBag 92 = .ok (.iaload, 1) := by decide +kernel
theorem dX4_numberOfBag_93 : decode cX4_numberOfBag 93 = .ok (.aload_n 0, 1) := by decide +kernel
theorem dX4_numberOfBag_94 : decode cX4_numberOfBag 94 = .ok (.getfield 22, 3) := by decide +kernel
theorem dX4_numberOfBag_97 : decode cX4_numberOfBag 97 = .ok (.iload 6, 2) := by decide +kernel
theorem dX4_numberOfBag_99 : decode cX4_numberOfBag 99 = .ok (.laload, 1) := by decide +kernel
theorem dX4_numberOfBag_100 : decode cX4_numberOfBag 100 = .ok (.invokevirtual 181, 3) := by decide +kernel
theorem dX4_numberOfBag_103 : decode cX4_numberOfBag 103 = .ok (.invokestatic 125, 3) := by decide +kernel
theorem dX4_numberOfBag_106 : decode cX4_numberOfBag 106 = .ok (.lstore 4, 2) := by decide +kernel
theorem dX4_numberOfBag_108 : decode cX4_numberOfBag 108 = .ok (.iload_n 3, 1) := by decide +kernel
theorem dX4_numberOfBag_109 : decode cX4_numberOfBag 109 = .ok (.aload_n 0, 1) := by decide +kernel
theorem dX4_numberOfBag_110 : decode cX4_numberOfBag 110 = .ok (.getfield 19, 3) := by decide +kernel
theorem dX4_numberOfBag_113 : decode cX4_numberOfBag 113 = .ok (.iload 6, 2) := by decide +kernel
theorem dX4_numberOfBag_115 : decode cX4_numberOfBag 115 = .ok (.iaload, 1) := by decide +kernel
theorem dX4_numberOfBag_116 : decode cX4_numberOfBag 116 = .ok (.isub, 1) := by decide +kernel
theorem dX4_numberOfBag_117 : decode cX4_numberOfBag 117 = .ok (.istore_n 3, 1) := by decide +kernel
theorem dX4_numberOfBag_118 : decode cX4_numberOfBag 118 = .ok (.iinc 6 1, 3) := by decide +kernel
theorem dX4_numberOfBag_121 : decode cX4_numberOfBag 121 = .ok (.goto (-60), 3) := by decide +kernel
theorem dX4_numberOfBag_124 : decode cX4_numberOfBag 124 = .ok (.lload 4, 2) := by decide +kernel
theorem dX4_numberOfBag_126 : decode cX4_numberOfBag 126 = .ok (.lreturn, 1) := by decide +kernel
theorem dX4_insert_0 : decode cX4_insert 0 = .ok (.aload_n 0, 1) := by decide +kernel
theorem dX4_insert_1 : decode cX4_insert 1 = .ok (.getfield 174, 3) := by decide +kernel
theorem dX4_insert_4 : decode cX4_insert 4 = .ok (.sipush 300, 3) := by decide +kernel
theorem dX4_insert_7 : decode cX4_insert 7 = .ok (.if_icmp .lt 4, 3) := by decide +kernel
theorem dX4_insert_10 : decode cX4_insert 10 = .ok (.return_, 1) := by decide +kernel
theorem dX4_insert_11 : decode cX4_insert 11 = .ok (.aload_n 0, 1) := by decide +kernel
theorem dX4_insert_12 : decode cX4_insert 12 = .ok (.getfield 174, 3) := by decide +kernel
theorem dX4_insert_15 : decode cX4_insert 15 = .ok (.istore 4, 2) := by decide +kernel
theorem dX4_insert_17 : decode cX4_insert 17 = .ok (.aload_n 0, 1) := by decide +kernel
theorem dX4_insert_18 : decode cX4_insert 18 = .ok (.dup, 1) := by decide +kernel
theorem dX4_insert_19 : decode cX4_insert 19 = .ok (.getfield 174, 3) := by decide +kernel
theorem dX4_insert_22 : decode cX4_insert 22 = .ok (.iconst 1, 1) := by decide +kernel
theorem dX4_insert_23 : decode cX4_insert 23 = .ok (.iadd, 1) := by decide +kernel
theorem dX4_insert_24 : decode cX4_insert 24 = .ok (.putfield 174, 3) := by decide +kernel
theorem dX4_insert_27 : decode cX4_insert 27 = .ok (.iload 4, 2) := by decide +kernel
theorem dX4_insert_29 : decode cX4_insert 29 = .ok (.ifCond .le 81, 3) := by decide +kernel
theorem dX4_insert_32 : decode cX4_insert 32 = .ok (.aload_n 0, 1) := by decide +kernel
theorem dX4_insert_33 : decode cX4_insert 33 = .ok (.getfield 19, 3) := by decide +kernel
theorem dX4_insert_36 : decode cX4_insert 36 = .ok (.iload 4, 2) := by decide +kernel
theorem dX4_insert_38 : decode cX4_insert 38 = .ok (.iconst 1, 1) := by decide +kernel
theorem dX4_insert_39 : decode cX4_insert 39 = .ok (.isub, 1) := by decide +kernel
theorem dX4_insert_40 : decode cX4_insert 40 = .ok (.iaload, 1) := by decide +kernel
theorem dX4_insert_41 : decode cX4_insert 41 = .ok (.iload_n 1, 1) := by decide +kernel
theorem dX4_insert_42 : decode cX4_insert 42 = .ok (.if_icmp .lt 30, 3) := by decide +kernel
theorem dX4_insert_45 : decode cX4_insert 45 = .ok (.aload_n 0, 1) := by decide +kernel
theorem dX4_insert_46 : decode cX4_insert 46 = .ok (.getfield 19, 3) := by decide +kernel
theorem dX4_insert_49 : decode cX4_insert 49 = .ok (.iload 4, 2) := by decide +kernel
theorem dX4_insert_51 : decode cX4_insert 51 = .ok (.iconst 1, 1) := by decide +kernel
theorem dX4_insert_52 : decode cX4_insert 52 = .ok (.isub, 1) := by decide +kernel
theorem dX4_insert_53 : decode cX4_insert 53 = .ok (.iaload, 1) := by decide +kernel
theorem dX4_insert_54 : decode cX4_insert 54 = .ok (.iload_n 1, 1) := by decide +kernel
theorem dX4_insert_55 : decode cX4_insert 55 = .ok (.if_icmp .ne 55, 3) := by decide +kernel
theorem dX4_insert_58 : decode cX4_insert 58 = .ok (.aload_n 0, 1) := by decide +kernel
theorem dX4_insert_59 : decode cX4_insert 59 = .ok (.getfield 22, 3) := by decide +kernel
theorem dX4_insert_62 : decode cX4_insert 62 = .ok (.iload 4, 2) := by decide +kernel
theorem dX4_insert_64 : decode cX4_insert 64 = .ok (.iconst 1, 1) := by decide +kernel
theorem dX4_insert_65 : decode cX4_insert 65 = .ok (.isub, 1) := by decide +kernel
theorem dX4_insert_66 : decode cX4_insert 66 = .ok (.laload, 1) := by decide +kernel
theorem dX4_insert_67 : decode cX4_insert 67 = .ok (.lload_n 2, 1) := by decide +kernel
theorem dX4_insert_68 : decode cX4_insert 68 = .ok (.lcmp, 1) := by decide +kernel
theorem dX4_insert_69 : decode cX4_insert 69 = .ok (.ifCond .ge 41, 3) := by decide +kernel
theorem dX4_insert_72 : decode cX4_insert 72 = .ok (.aload_n 0, 1) := by decide +kernel
theorem dX4_insert_73 : decode cX4_insert 73 = .ok (.getfield 19, 3) := by decide +kernel
theorem dX4_insert_76 : decode cX4_insert 76 = .ok (.iload 4, 2) := by decide +kernel
theorem dX4_insert_78 : decode cX4_insert 78 = .ok (.aload_n 0, 1) := by decide +kernel
theorem dX4_insert_79 : decode cX4_insert 79 = .ok (.getfield 19, 3) := by decide +kernel
theorem dX4_insert_82 : decode cX4_insert 82 = .ok (.iload 4, 2) := by decide +kernel
theorem dX4_insert_84 : decode cX4_insert 84 = .ok (.iconst 1, 1) := by decide +kernel
theorem dX4_insert_85 : decode cX4_insert 85 = .ok (.isub, 1) := by decide +kernel
theorem dX4_insert_86 : decode cX4_insert 86 = .ok (.iaload, 1) := by decide +kernel
theorem dX4_insert_87 : decode cX4_insert 87 = .ok (.iastore, 1) := by decide +kernel
theorem dX4_insert_88 : decode cX4_insert 88 = .ok (.aload_n 0, 1) := by decide +kernel
theorem dX4_insert_89 : decode cX4_insert 89 = .ok (.getfield 22, 3) := by decide +kernel
theorem dX4_insert_92 : decode cX4_insert 92 = .ok (.iload 4, 2) := by decide +kernel
theorem dX4_insert_94 : decode cX4_insert 94 = .ok (.aload_n 0, 1) := by decide +kernel
theorem dX4_insert_95 : decode cX4_insert 95 = .ok (.getfield 22, 3) := by decide +kernel
theorem dX4_insert_98 : decode cX4_insert 98 = .ok (.iload 4, 2) := by decide +kernel
theorem dX4_insert_100 : decode cX4_insert 100 = .ok (.iconst 1, 1) := by decide +kernel
theorem dX4_insert_101 : decode cX4_insert 101 = .ok (.isub, 1) := by decide +kernel
theorem dX4_insert_102 : decode cX4_insert 102 = .ok (.laload, 1) := by decide +kernel
theorem dX4_insert_103 : decode cX4_insert 103 = .ok (.lastore, 1) := by decide +kernel
theorem dX4_insert_104 : decode cX4_insert 104 = .ok (.iinc 4 (-1), 3) := by decide +kernel
theorem dX4_insert_107 : decode cX4_insert 107 = .ok (.goto (-80), 3) := by decide +kernel
theorem dX4_insert_110 : decode cX4_insert 110 = .ok (.aload_n 0, 1) := by decide +kernel
theorem dX4_insert_111 : decode cX4_insert 111 = .ok (.getfield 19, 3) := by decide +kernel
theorem dX4_insert_114 : decode cX4_insert 114 = .ok (.iload 4, 2) := by decide +kernel
theorem dX4_insert_116 : decode cX4_insert 116 = .ok (.iload_n 1, 1) := by decide +kernel
theorem dX4_insert_117 : decode cX4_insert 117 = .ok (.invokestatic 146, 3) := by decide +kernel
theorem dX4_insert_120 : decode cX4_insert 120 = .ok (.aload_n 0, 1) := by decide +kernel
theorem dX4_insert_121 : decode cX4_insert 121 = .ok (.getfield 22, 3) := by decide +kernel
theorem dX4_insert_124 : decode cX4_insert 124 = .ok (.iload 4, 2) := by decide +kernel
theorem dX4_insert_126 : decode cX4_insert 126 = .ok (.lload_n 2, 1) := by decide +kernel
theorem dX4_insert_127 : decode cX4_insert 127 = .ok (.invokestatic 62, 3) := by decide +kernel
theorem dX4_insert_130 : decode cX4_insert 130 = .ok (.return_, 1) := by decide +kernel
theorem dX4_numberOfLetters_0 : decode cX4_numberOfLetters 0 = .ok (.aload_n 0, 1) := by decide +kernel
theorem dX4_numberOfLetters_1 : decode cX4_numberOfLetters 1 = .ok (.getfield 33, 3) := by decide +kernel
theorem dX4_numberOfLetters_4 : decode cX4_numberOfLetters 4 = .ok (.iload_n 1, 1) := by decide +kernel
