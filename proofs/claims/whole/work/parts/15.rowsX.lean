theorem dX0_init_0 : decode cX0_init 0 = .ok (.aload_n 0, 1) := by decide +kernel
theorem dX0_init_1 : decode cX0_init 1 = .ok (.iload_n 1, 1) := by decide +kernel
theorem dX0_init_2 : decode cX0_init 2 = .ok (.iload_n 2, 1) := by decide +kernel
theorem dX0_init_3 : decode cX0_init 3 = .ok (.iload_n 3, 1) := by decide +kernel
theorem dX0_init_4 : decode cX0_init 4 = .ok (.invokespecial 1, 3) := by decide +kernel
theorem dX0_init_7 : decode cX0_init 7 = .ok (.return_, 1) := by decide +kernel
theorem dX0_credit_0 : decode cX0_credit 0 = .ok (.iconst 5, 1) := by decide +kernel
theorem dX0_credit_1 : decode cX0_credit 1 = .ok (.iload_n 1, 1) := by decide +kernel
theorem dX0_credit_2 : decode cX0_credit 2 = .ok (.invokestatic 7, 3) := by decide +kernel
theorem dX0_credit_5 : decode cX0_credit 5 = .ok (.ireturn, 1) := by decide +kernel
theorem dX0_says_0 : decode cX0_says 0 = .ok (.aload_n 1, 1) := by decide +kernel
theorem dX0_says_1 : decode cX0_says 1 = .ok (.bipush 20, 2) := by decide +kernel
theorem dX0_says_3 : decode cX0_says 3 = .ok (.invokevirtual 13, 3) := by decide +kernel
theorem dX0_says_6 : decode cX0_says 6 = .ok (.aload_n 0, 1) := by decide +kernel
theorem dX0_says_7 : decode cX0_says 7 = .ok (.aload_n 1, 1) := by decide +kernel
theorem dX0_says_8 : decode cX0_says 8 = .ok (.iload_n 2, 1) := by decide +kernel
theorem dX0_says_9 : decode cX0_says 9 = .ok (.invokespecial 19, 3) := by decide +kernel
theorem dX0_says_12 : decode cX0_says 12 = .ok (.iconst 3, 1) := by decide +kernel
theorem dX0_says_13 : decode cX0_says 13 = .ok (.imul, 1) := by decide +kernel
theorem dX0_says_14 : decode cX0_says 14 = .ok (.ireturn, 1) := by decide +kernel
theorem dX1_init_0 : decode cX1_init 0 = .ok (.aload_n 0, 1) := by decide +kernel
theorem dX1_init_1 : decode cX1_init 1 = .ok (.iload_n 1, 1) := by decide +kernel
theorem dX1_init_2 : decode cX1_init 2 = .ok (.iload_n 2, 1) := by decide +kernel
theorem dX1_init_3 : decode cX1_init 3 = .ok (.iload_n 3, 1) := by decide +kernel
theorem dX1_init_4 : decode cX1_init 4 = .ok (.invokespecial 1, 3) := by decide +kernel
theorem dX1_init_7 : decode cX1_init 7 = .ok (.return_, 1) := by decide +kernel
theorem dX1_credit_0 : decode cX1_credit 0 = .ok (.aload_n 0, 1) := by decide +kernel
theorem dX1_credit_1 : decode cX1_credit 1 = .ok (.iload_n 1, 1) := by decide +kernel
theorem dX1_credit_2 : decode cX1_credit 2 = .ok (.iload_n 2, 1) := by decide +kernel
theorem dX1_credit_3 : decode cX1_credit 3 = .ok (.iload_n 3, 1) := by decide +kernel
theorem dX1_credit_4 : decode cX1_credit 4 = .ok (.iload 4, 2) := by decide +kernel
theorem dX1_credit_6 : decode cX1_credit 6 = .ok (.invokespecial 7, 3) := by decide +kernel
theorem dX1_credit_9 : decode cX1_credit 9 = .ok (.aload_n 0, 1) := by decide +kernel
theorem dX1_credit_10 : decode cX1_credit 10 = .ok (.getfield 11, 3) := by decide +kernel
theorem dX1_credit_13 : decode cX1_credit 13 = .ok (.iadd, 1) := by decide +kernel
theorem dX1_credit_14 : decode cX1_credit 14 = .ok (.ireturn, 1) := by decide +kernel
theorem dX1_tells_0 : decode cX1_tells 0 = .ok (.aload_n 1, 1) := by decide +kernel
theorem dX1_tells_1 : decode cX1_tells 1 = .ok (.bipush 50, 2) := by decide +kernel
theorem dX1_tells_3 : decode cX1_tells 3 = .ok (.invokevirtual 17, 3) := by decide +kernel
theorem dX1_tells_6 : decode cX1_tells 6 = .ok (.aload_n 0, 1) := by decide +kernel
theorem dX1_tells_7 : decode cX1_tells 7 = .ok (.aload_n 1, 1) := by decide +kernel
theorem dX1_tells_8 : decode cX1_tells 8 = .ok (.iload_n 2, 1) := by decide +kernel
theorem dX1_tells_9 : decode cX1_tells 9 = .ok (.invokespecial 23, 3) := by decide +kernel
theorem dX1_tells_12 : decode cX1_tells 12 = .ok (.aload_n 0, 1) := by decide +kernel
theorem dX1_tells_13 : decode cX1_tells 13 = .ok (.aload_n 1, 1) := by decide +kernel
theorem dX1_tells_14 : decode cX1_tells 14 = .ok (.iconst 2, 1) := by decide +kernel
theorem dX1_tells_15 : decode cX1_tells 15 = .ok (.invokevirtual 27, 3) := by decide +kernel
theorem dX1_tells_18 : decode cX1_tells 18 = .ok (.isub, 1) := by decide +kernel
theorem dX1_tells_19 : decode cX1_tells 19 = .ok (.ireturn, 1) := by decide +kernel
theorem dX2_init_0 : decode cX2_init 0 = .ok (.aload_n 0, 1) := by decide +kernel
theorem dX2_init_1 : decode cX2_init 1 = .ok (.invokespecial 3, 3) := by decide +kernel
theorem dX2_init_4 : decode cX2_init 4 = .ok (.aload_n 0, 1) := by decide +kernel
theorem dX2_init_5 : decode cX2_init 5 = .ok (.bipush 50, 2) := by decide +kernel
theorem dX2_init_7 : decode cX2_init 7 = .ok (.newarray .byte, 2) := by decide +kernel
theorem dX2_init_9 : decode cX2_init 9 = .ok (.putfield 9, 3) := by decide +kernel
theorem dX2_init_12 : decode cX2_init 12 = .ok (.aload_n 0, 1) := by decide +kernel
theorem dX2_init_13 : decode cX2_init 13 = .ok (.iconst 0, 1) := by decide +kernel
theorem dX2_init_14 : decode cX2_init 14 = .ok (.putfield 15, 3) := by decide +kernel
theorem dX2_init_17 : decode cX2_init 17 = .ok (.aload_n 0, 1) := by decide +kernel
theorem dX2_init_18 : decode cX2_init 18 = .ok (.aload_n 0, 1) := by decide +kernel
theorem dX2_init_19 : decode cX2_init 19 = .ok (.getfield 9, 3) := by decide +kernel
theorem dX2_init_22 : decode cX2_init 22 = .ok (.putfield 19, 3) := by decide +kernel
theorem dX2_init_25 : decode cX2_init 25 = .ok (.aload_n 0, 1) := by decide +kernel
theorem dX2_init_26 : decode cX2_init 26 = .ok (.iconst 0, 1) := by decide +kernel
theorem dX2_init_27 : decode cX2_init 27 = .ok (.putfield 22, 3) := by decide +kernel
theorem dX2_init_30 : decode cX2_init 30 = .ok (.aload_n 0, 1) := by decide +kernel
theorem dX2_init_31 : decode cX2_init 31 = .ok (.iconst 0, 1) := by decide +kernel
theorem dX2_init_32 : decode cX2_init 32 = .ok (.putfield 25, 3) := by decide +kernel
theorem dX2_init_35 : decode cX2_init 35 = .ok (.aload_n 0, 1) := by decide +kernel
theorem dX2_init_36 : decode cX2_init 36 = .ok (.iconst 0, 1) := by decide +kernel
theorem dX2_init_37 : decode cX2_init 37 = .ok (.putfield 28, 3) := by decide +kernel
theorem dX2_init_40 : decode cX2_init 40 = .ok (.aload_n 0, 1) := by decide +kernel
theorem dX2_init_41 : decode cX2_init 41 = .ok (.iconst 0, 1) := by decide +kernel
theorem dX2_init_42 : decode cX2_init 42 = .ok (.putfield 32, 3) := by decide +kernel
theorem dX2_init_45 : decode cX2_init 45 = .ok (.aload_n 0, 1) := by decide +kernel
theorem dX2_init_46 : decode cX2_init 46 = .ok (.iconst 0, 1) := by decide +kernel
theorem dX2_init_47 : decode cX2_init 47 = .ok (.putfield 35, 3) := by decide +kernel
theorem dX2_init_50 : decode cX2_init 50 = .ok (.aload_n 0, 1) := by decide +kernel
theorem dX2_init_51 : decode cX2_init 51 = .ok (.iconst 0, 1) := by decide +kernel
theorem dX2_init_52 : decode cX2_init 52 = .ok (.putfield 38, 3) := by decide +kernel
theorem dX2_init_55 : decode cX2_init 55 = .ok (.aload_n 0, 1) := by decide +kernel
theorem dX2_init_56 : decode cX2_init 56 = .ok (.aload_n 1, 1) := by decide +kernel
theorem dX2_init_57 : decode cX2_init 57 = .ok (.putfield 41, 3) := by decide +kernel
theorem dX2_init_60 : decode cX2_init 60 = .ok (.aload_n 0, 1) := by decide +kernel
theorem dX2_init_61 : decode cX2_init 61 = .ok (.aload_n 2, 1) := by decide +kernel
theorem dX2_init_62 : decode cX2_init 62 = .ok (.invokevirtual 45, 3) := by decide +kernel
theorem dX2_init_65 : decode cX2_init 65 = .ok (.bipush 50, 2) := by decide +kernel
theorem dX2_init_67 : decode cX2_init 67 = .ok (.invokestatic 50, 3) := by decide +kernel
theorem dX2_init_70 : decode cX2_init 70 = .ok (.putfield 15, 3) := by decide +kernel
theorem dX2_init_73 : decode cX2_init 73 = .ok (.iconst 0, 1) := by decide +kernel
theorem dX2_init_74 : decode cX2_init 74 = .ok (.istore_n 3, 1) := by decide +kernel
theorem dX2_init_75 : decode cX2_init 75 = .ok (.iload_n 3, 1) := by decide +kernel
theorem dX2_init_76 : decode cX2_init 76 = .ok (.aload_n 0, 1) := by decide +kernel
theorem dX2_init_77 : decode cX2_init 77 = .ok (.getfield 15, 3) := by decide +kernel
theorem dX2_init_80 : decode cX2_init 80 = .ok (.if_icmp .ge 21, 3) := by decide +kernel
theorem dX2_init_83 : decode cX2_init 83 = .ok (.aload_n 0, 1) := by decide +kernel
theorem dX2_init_84 : decode cX2_init 84 = .ok (.getfield 9, 3) := by decide +kernel
theorem dX2_init_87 : decode cX2_init 87 = .ok (.iload_n 3, 1) := by decide +kernel
theorem dX2_init_88 : decode cX2_init 88 = .ok (.aload_n 2, 1) := by decide +kernel
theorem dX2_init_89 : decode cX2_init 89 = .ok (.iload_n 3, 1) := by decide +kernel
theorem dX2_init_90 : decode cX2_init 90 = .ok (.invokevirtual 56, 3) := by decide +kernel
theorem dX2_init_93 : decode cX2_init 93 = .ok (.i2b, 1) := by decide +kernel
theorem dX2_init_94 : decode cX2_init 94 = .ok (.bastore, 1) := by decide +kernel
theorem dX2_init_95 : decode cX2_init 95 = .ok (.iinc 3 1, 3) := by decide +kernel
theorem dX2_init_98 : decode cX2_init 98 = .ok (.goto (-23), 3) := by decide +kernel
theorem dX2_init_101 : decode cX2_init 101 = .ok (.return_, 1) := by decide +kernel
theorem dX2_copy_0 : decode cX2_copy 0 = .ok (.aload_n 1, 1) := by decide +kernel
theorem dX2_copy_1 : decode cX2_copy 1 = .ok (.getfield 9, 3) := by decide +kernel
theorem dX2_copy_4 : decode cX2_copy 4 = .ok (.iconst 0, 1) := by decide +kernel
theorem dX2_copy_5 : decode cX2_copy 5 = .ok (.aload_n 0, 1) := by decide +kernel
theorem dX2_copy_6 : decode cX2_copy 6 = .ok (.getfield 9, 3) := by decide +kernel
theorem dX2_copy_9 : decode cX2_copy 9 = .ok (.iconst 0, 1) := by decide +kernel
theorem dX2_copy_10 : decode cX2_copy 10 = .ok (.bipush 50, 2) := by decide +kernel
theorem dX2_copy_12 : decode cX2_copy 12 = .ok (.invokestatic 60, 3) := by decide +kernel
theorem dX2_copy_15 : decode cX2_copy 15 = .ok (.aload_n 0, 1) := by decide +kernel
theorem dX2_copy_16 : decode cX2_copy 16 = .ok (.aload_n 1, 1) := by decide +kernel
theorem dX2_copy_17 : decode cX2_copy 17 = .ok (.getfield 15, 3) := by decide +kernel
theorem dX2_copy_20 : decode cX2_copy 20 = .ok (.putfield 15, 3) := by decide +kernel
theorem dX2_copy_23 : decode cX2_copy 23 = .ok (.return_, 1) := by decide +kernel
theorem dX2_gives_0 : decode cX2_gives 0 = .ok (.aload_n 0, 1) := by decide +kernel
theorem dX2_gives_1 : decode cX2_gives 1 = .ok (.iload_n 1, 1) := by decide +kernel
theorem dX2_gives_2 : decode cX2_gives 2 = .ok (.putfield 32, 3) := by decide +kernel
theorem dX2_gives_5 : decode cX2_gives 5 = .ok (.aload_n 0, 1) := by decide +kernel
theorem dX2_gives_6 : decode cX2_gives 6 = .ok (.iload_n 2, 1) := by decide +kernel
theorem dX2_gives_7 : decode cX2_gives 7 = .ok (.putfield 35, 3) := by decide +kernel
theorem dX2_gives_10 : decode cX2_gives 10 = .ok (.aload_n 0, 1) := by decide +kernel
theorem dX2_gives_11 : decode cX2_gives 11 = .ok (.iload_n 3, 1) := by decide +kernel
theorem dX2_gives_12 : decode cX2_gives 12 = .ok (.putfield 38, 3) := by decide +kernel
theorem dX2_gives_15 : decode cX2_gives 15 = .ok (.aload_n 0, 1) := by decide +kernel
theorem dX2_gives_16 : decode cX2_gives 16 = .ok (.aload_n 0, 1) := by decide +kernel
theorem dX2_gives_17 : decode cX2_gives 17 = .ok (.getfield 9, 3) := by decide +kernel
theorem dX2_gives_20 : decode cX2_gives 20 = .ok (.aload_n 0, 1) := by decide +kernel
theorem dX2_gives_21 : decode cX2_gives 21 = .ok (.getfield 15, 3) := by decide +kernel
theorem dX2_gives_24 : decode cX2_gives 24 = .ok (.invokevirtual 66, 3) := by decide +kernel
theorem dX2_gives_27 : decode cX2_gives 27 = .ok (.bipush (-99), 2) := by decide +kernel
theorem dX2_gives_29 : decode cX2_gives 29 = .ok (.bipush 99, 2) := by decide +kernel
theorem dX2_gives_31 : decode cX2_gives 31 = .ok (.invokestatic 70, 3) := by decide +kernel
theorem dX2_gives_34 : decode cX2_gives 34 = .ok (.ireturn, 1) := by decide +kernel
theorem dX2_take_0 : decode cX2_take 0 = .ok (.aload_n 0, 1) := by decide +kernel
theorem dX2_take_1 : decode cX2_take 1 = .ok (.aload_n 1, 1) := by decide +kernel
theorem dX2_take_2 : decode cX2_take 2 = .ok (.iload_n 2, 1) := by decide +kernel
theorem dX2_take_3 : decode cX2_take 3 = .ok (.invokevirtual 66, 3) := by decide +kernel
theorem dX2_take_6 : decode cX2_take 6 = .ok (.pop, 1) := by decide +kernel
theorem dX2_take_7 : decode cX2_take 7 = .ok (.aload_n 0, 1) := by decide +kernel
theorem dX2_take_8 : decode cX2_take 8 = .ok (.getfield 28, 3) := by decide +kernel
theorem dX2_take_11 : decode cX2_take 11 = .ok (.ifCond .eq 8, 3) := by decide +kernel
theorem dX2_take_14 : decode cX2_take 14 = .ok (.aload_n 0, 1) := by decide +kernel
theorem dX2_take_15 : decode cX2_take 15 = .ok (.getfield 25, 3) := by decide +kernel
theorem dX2_take_18 : decode cX2_take 18 = .ok (.ireturn, 1) := by decide +kernel
theorem dX2_take_19 : decode cX2_take 19 = .ok (.aload_n 0, 1) := by decide +kernel
theorem dX2_take_20 : decode cX2_take 20 = .ok (.aload_n 0, 1) := by decide +kernel
theorem dX2_take_21 : decode cX2_take 21 = .ok (.getfield 22, 3) := by decide +kernel
theorem dX2_take_24 : decode cX2_take 24 = .ok (.bipush 50, 2) := by decide +kernel
theorem dX2_take_26 : decode cX2_take 26 = .ok (.invokestatic 50, 3) := by decide +kernel
theorem dX2_take_29 : decode cX2_take 29 = .ok (.putfield 15, 3) := by decide +kernel
theorem dX2_take_32 : decode cX2_take 32 = .ok (.aload_n 1, 1) := by decide +kernel
theorem dX2_take_33 : decode cX2_take 33 = .ok (.iconst 0, 1) := by decide +kernel
theorem dX2_take_34 : decode cX2_take 34 = .ok (.aload_n 0, 1) := by decide +kernel
theorem dX2_take_35 : decode cX2_take 35 = .ok (.getfield 9, 3) := by decide +kernel
theorem dX2_take_38 : decode cX2_take 38 = .ok (.iconst 0, 1) := by decide +kernel
theorem dX2_take_39 : decode cX2_take 39 = .ok (.aload_n 0, 1) := by decide +kernel
theorem dX2_take_40 : decode cX2_take 40 = .ok (.getfield 15, 3) := by decide +kernel
theorem dX2_take_43 : decode cX2_take 43 = .ok (.invokestatic 60, 3) := by decide +kernel
theorem dX2_take_46 : decode cX2_take 46 = .ok (.iconst (-1), 1) := by decide +kernel
theorem dX2_take_47 : decode cX2_take 47 = .ok (.ireturn, 1) := by decide +kernel
theorem dX2_read_0 : decode cX2_read 0 = .ok (.aload_n 0, 1) := by decide +kernel
theorem dX2_read_1 : decode cX2_read 1 = .ok (.aload_n 1, 1) := by decide +kernel
theorem dX2_read_2 : decode cX2_read 2 = .ok (.putfield 19, 3) := by decide +kernel
theorem dX2_read_5 : decode cX2_read 5 = .ok (.aload_n 0, 1) := by decide +kernel
theorem dX2_read_6 : decode cX2_read 6 = .ok (.iload_n 2, 1) := by decide +kernel
theorem dX2_read_7 : decode cX2_read 7 = .ok (.aload_n 1, 1) := by decide +kernel
theorem dX2_read_8 : decode cX2_read 8 = .ok (.arraylength, 1) := by decide +kernel
theorem dX2_read_9 : decode cX2_read 9 = .ok (.invokestatic 50, 3) := by decide +kernel
theorem dX2_read_12 : decode cX2_read 12 = .ok (.putfield 22, 3) := by decide +kernel
theorem dX2_read_15 : decode cX2_read 15 = .ok (.aload_n 0, 1) := by decide +kernel
theorem dX2_read_16 : decode cX2_read 16 = .ok (.iconst 0, 1) := by decide +kernel
theorem dX2_read_17 : decode cX2_read 17 = .ok (.putfield 25, 3) := by decide +kernel
theorem dX2_read_20 : decode cX2_read 20 = .ok (.aload_n 0, 1) := by decide +kernel
theorem dX2_read_21 : decode cX2_read 21 = .ok (.iconst 0, 1) := by decide +kernel
theorem dX2_read_22 : decode cX2_read 22 = .ok (.putfield 28, 3) := by decide +kernel
theorem dX2_read_25 : decode cX2_read 25 = .ok (.aload_n 0, 1) := by decide +kernel
theorem dX2_read_26 : decode cX2_read 26 = .ok (.iconst 0, 1) := by decide +kernel
theorem dX2_read_27 : decode cX2_read 27 = .ok (.invokevirtual 74, 3) := by decide +kernel
theorem dX2_read_30 : decode cX2_read 30 = .ok (.istore_n 3, 1) := by decide +kernel
theorem dX2_read_31 : decode cX2_read 31 = .ok (.aload_n 0, 1) := by decide +kernel
theorem dX2_read_32 : decode cX2_read 32 = .ok (.getfield 25, 3) := by decide +kernel
theorem dX2_read_35 : decode cX2_read 35 = .ok (.aload_n 0, 1) := by decide +kernel
theorem dX2_read_36 : decode cX2_read 36 = .ok (.getfield 22, 3) := by decide +kernel
theorem dX2_read_39 : decode cX2_read 39 = .ok (.if_icmp .ge 10, 3) := by decide +kernel
theorem dX2_read_42 : decode cX2_read 42 = .ok (.aload_n 0, 1) := by decide +kernel
theorem dX2_read_43 : decode cX2_read 43 = .ok (.invokevirtual 78, 3) := by decide +kernel
theorem dX2_read_46 : decode cX2_read 46 = .ok (.goto 4, 3) := by decide +kernel
theorem dX2_read_49 : decode cX2_read 49 = .ok (.iload_n 3, 1) := by decide +kernel
theorem dX2_read_50 : decode cX2_read 50 = .ok (.ireturn, 1) := by decide +kernel
theorem dX2_fail_0 : decode cX2_fail 0 = .ok (.aload_n 0, 1) := by decide +kernel
theorem dX2_fail_1 : decode cX2_fail 1 = .ok (.iconst 1, 1) := by decide +kernel
theorem dX2_fail_2 : decode cX2_fail 2 = .ok (.putfield 28, 3) := by decide +kernel
theorem dX2_fail_5 : decode cX2_fail 5 = .ok (.aload_n 0, 1) := by decide +kernel
theorem dX2_fail_6 : decode cX2_fail 6 = .ok (.aload_n 0, 1) := by decide +kernel
theorem dX2_fail_7 : decode cX2_fail 7 = .ok (.getfield 25, 3) := by decide +kernel
theorem dX2_fail_10 : decode cX2_fail 10 = .ok (.putfield 22, 3) := by decide +kernel
theorem dX2_fail_13 : decode cX2_fail 13 = .ok (.iconst 0, 1) := by decide +kernel
theorem dX2_fail_14 : decode cX2_fail 14 = .ok (.ireturn, 1) := by decide +kernel
theorem dX2_either_0 : decode cX2_either 0 = .ok (.aload_n 0, 1) := by decide +kernel
theorem dX2_either_1 : decode cX2_either 1 = .ok (.iload_n 1, 1) := by decide +kernel
theorem dX2_either_2 : decode cX2_either 2 = .ok (.invokevirtual 81, 3) := by decide +kernel
theorem dX2_either_5 : decode cX2_either 5 = .ok (.istore_n 2, 1) := by decide +kernel
theorem dX2_either_6 : decode cX2_either 6 = .ok (.aload_n 0, 1) := by decide +kernel
theorem dX2_either_7 : decode cX2_either 7 = .ok (.getfield 25, 3) := by decide +kernel
theorem dX2_either_10 : decode cX2_either 10 = .ok (.aload_n 0, 1) := by decide +kernel
theorem dX2_either_11 : decode cX2_either 11 = .ok (.getfield 22, 3) := by decide +kernel
theorem dX2_either_14 : decode cX2_either 14 = .ok (.if_icmp .ge 50, 3) := by decide +kernel
theorem dX2_either_17 : decode cX2_either 17 = .ok (.aload_n 0, 1) := by decide +kernel
theorem dX2_either_18 : decode cX2_either 18 = .ok (.getfield 19, 3) := by decide +kernel
theorem dX2_either_21 : decode cX2_either 21 = .ok (.aload_n 0, 1) := by decide +kernel
theorem dX2_either_22 : decode cX2_either 22 = .ok (.getfield 25, 3) := by decide +kernel
theorem dX2_either_25 : decode cX2_either 25 = .ok (.baload, 1) := by decide +kernel
theorem dX2_either_26 : decode cX2_either 26 = .ok (.bipush 124, 2) := by decide +kernel
theorem dX2_either_28 : decode cX2_either 28 = .ok (.if_icmp .ne 36, 3) := by decide +kernel
theorem dX2_either_31 : decode cX2_either 31 = .ok (.aload_n 0, 1) := by decide +kernel
theorem dX2_either_32 : decode cX2_either 32 = .ok (.dup, 1) := by decide +kernel
theorem dX2_either_33 : decode cX2_either 33 = .ok (.getfield 25, 3) := by decide +kernel
theorem dX2_either_36 : decode cX2_either 36 = .ok (.iconst 1, 1) := by decide +kernel
theorem dX2_either_37 : decode cX2_either 37 = .ok (.iadd, 1) := by decide +kernel
theorem dX2_either_38 : decode cX2_either 38 = .ok (.putfield 25, 3) := by decide +kernel
theorem dX2_either_41 : decode cX2_either 41 = .ok (.aload_n 0, 1) := by decide +kernel
theorem dX2_either_42 : decode cX2_either 42 = .ok (.iload_n 1, 1) := by decide +kernel
theorem dX2_either_43 : decode cX2_either 43 = .ok (.invokevirtual 81, 3) := by decide +kernel
theorem dX2_either_46 : decode cX2_either 46 = .ok (.istore_n 3, 1) := by decide +kernel
theorem dX2_either_47 : decode cX2_either 47 = .ok (.iload_n 2, 1) := by decide +kernel
theorem dX2_either_48 : decode cX2_either 48 = .ok (.ifCond .ne 7, 3) := by decide +kernel
theorem dX2_either_51 : decode cX2_either 51 = .ok (.iload_n 3, 1) := by decide +kernel
theorem dX2_either_52 : decode cX2_either 52 = .ok (.ifCond .eq 7, 3) := by decide +kernel
theorem dX2_either_55 : decode cX2_either 55 = .ok (.iconst 1, 1) := by decide +kernel
theorem dX2_either_56 : decode cX2_either 56 = .ok (.goto 4, 3) := by decide +kernel
theorem dX2_either_59 : decode cX2_either 59 = .ok (.iconst 0, 1) := by decide +kernel
theorem dX2_either_60 : decode cX2_either 60 = .ok (.istore_n 2, 1) := by decide +kernel
theorem dX2_either_61 : decode cX2_either 61 = .ok (.goto (-55), 3) := by decide +kernel
theorem dX2_either_64 : decode cX2_either 64 = .ok (.iload_n 2, 1) := by decide +kernel
theorem dX2_either_65 : decode cX2_either 65 = .ok (.ireturn, 1) := by decide +kernel
theorem dX2_both_0 : decode cX2_both 0 = .ok (.aload_n 0, 1) := by decide +kernel
theorem dX2_both_1 : decode cX2_both 1 = .ok (.iload_n 1, 1) := by decide +kernel
theorem dX2_both_2 : decode cX2_both 2 = .ok (.invokevirtual 84, 3) := by decide +kernel
theorem dX2_both_5 : decode cX2_both 5 = .ok (.istore_n 2, 1) := by decide +kernel
theorem dX2_both_6 : decode cX2_both 6 = .ok (.aload_n 0, 1) := by decide +kernel
theorem dX2_both_7 : decode cX2_both 7 = .ok (.getfield 25, 3) := by decide +kernel
theorem dX2_both_10 : decode cX2_both 10 = .ok (.aload_n 0, 1) := by decide +kernel
theorem dX2_both_11 : decode cX2_both 11 = .ok (.getfield 22, 3) := by decide +kernel
theorem dX2_both_14 : decode cX2_both 14 = .ok (.if_icmp .ge 50, 3) := by decide +kernel
theorem dX2_both_17 : decode cX2_both 17 = .ok (.aload_n 0, 1) := by decide +kernel
theorem dX2_both_18 : decode cX2_both 18 = .ok (.getfield 19, 3) := by decide +kernel
theorem dX2_both_21 : decode cX2_both 21 = .ok (.aload_n 0, 1) := by decide +kernel
theorem dX2_both_22 : decode cX2_both 22 = .ok (.getfield 25, 3) := by decide +kernel
theorem dX2_both_25 : decode cX2_both 25 = .ok (.baload, 1) := by decide +kernel
theorem dX2_both_26 : decode cX2_both 26 = .ok (.bipush 38, 2) := by decide +kernel
theorem dX2_both_28 : decode cX2_both 28 = .ok (.if_icmp .ne 36, 3) := by decide +kernel
theorem dX2_both_31 : decode cX2_both 31 = .ok (.aload_n 0, 1) := by decide +kernel
theorem dX2_both_32 : decode cX2_both 32 = .ok (.dup, 1) := by decide +kernel
theorem dX2_both_33 : decode cX2_both 33 = .ok (.getfield 25, 3) := by decide +kernel
theorem dX2_both_36 : decode cX2_both 36 = .ok (.iconst 1, 1) := by decide +kernel
theorem dX2_both_37 : decode cX2_both 37 = .ok (.iadd, 1) := by decide +kernel
theorem dX2_both_38 : decode cX2_both 38 = .ok (.putfield 25, 3) := by decide +kernel
theorem dX2_both_41 : decode cX2_both 41 = .ok (.aload_n 0, 1) := by decide +kernel
theorem dX2_both_42 : decode cX2_both 42 = .ok (.iload_n 1, 1) := by decide +kernel
theorem dX2_both_43 : decode cX2_both 43 = .ok (.invokevirtual 84, 3) := by decide +kernel
theorem dX2_both_46 : decode cX2_both 46 = .ok (.istore_n 3, 1) := by decide +kernel
theorem dX2_both_47 : decode cX2_both 47 = .ok (.iload_n 2, 1) := by decide +kernel
theorem dX2_both_48 : decode cX2_both 48 = .ok (.ifCond .eq 11, 3) := by decide +kernel
theorem dX2_both_51 : decode cX2_both 51 = .ok (.iload_n 3, 1) := by decide +kernel
theorem dX2_both_52 : decode cX2_both 52 = .ok (.ifCond .eq 7, 3) := by decide +kernel
theorem dX2_both_55 : decode cX2_both 55 = .ok (.iconst 1, 1) := by decide +kernel
theorem dX2_both_56 : decode cX2_both 56 = .ok (.goto 4, 3) := by decide +kernel
theorem dX2_both_59 : decode cX2_both 59 = .ok (.iconst 0, 1) := by decide +kernel
theorem dX2_both_60 : decode cX2_both 60 = .ok (.istore_n 2, 1) := by decide +kernel
theorem dX2_both_61 : decode cX2_both 61 = .ok (.goto (-55), 3) := by decide +kernel
theorem dX2_both_64 : decode cX2_both 64 = .ok (.iload_n 2, 1) := by decide +kernel
theorem dX2_both_65 : decode cX2_both 65 = .ok (.ireturn, 1) := by decide +kernel
theorem dX2_compared_0 : decode cX2_compared 0 = .ok (.aload_n 0, 1) := by decide +kernel
theorem dX2_compared_1 : decode cX2_compared 1 = .ok (.iload_n 1, 1) := by decide +kernel
theorem dX2_compared_2 : decode cX2_compared 2 = .ok (.invokevirtual 87, 3) := by decide +kernel
theorem dX2_compared_5 : decode cX2_compared 5 = .ok (.istore_n 2, 1) := by decide +kernel
theorem dX2_compared_6 : decode cX2_compared 6 = .ok (.aload_n 0, 1) := by decide +kernel
theorem dX2_compared_7 : decode cX2_compared 7 = .ok (.getfield 25, 3) := by decide +kernel
theorem dX2_compared_10 : decode cX2_compared 10 = .ok (.aload_n 0, 1) := by decide +kernel
theorem dX2_compared_11 : decode cX2_compared 11 = .ok (.getfield 22, 3) := by decide +kernel
theorem dX2_compared_14 : decode cX2_compared 14 = .ok (.if_icmp .lt 5, 3) := by decide +kernel
theorem dX2_compared_17 : decode cX2_compared 17 = .ok (.iload_n 2, 1) := by decide +kernel
theorem dX2_compared_18 : decode cX2_compared 18 = .ok (.ireturn, 1) := by decide +kernel
theorem dX2_compared_19 : decode cX2_compared 19 = .ok (.aload_n 0, 1) := by decide +kernel
theorem dX2_compared_20 : decode cX2_compared 20 = .ok (.getfield 19, 3) := by decide +kernel
theorem dX2_compared_23 : decode cX2_compared 23 = .ok (.aload_n 0, 1) := by decide +kernel
theorem dX2_compared_24 : decode cX2_compared 24 = .ok (.getfield 25, 3) := by decide +kernel
theorem dX2_compared_27 : decode cX2_compared 27 = .ok (.baload, 1) := by decide +kernel
theorem dX2_compared_28 : decode cX2_compared 28 = .ok (.istore_n 3, 1) := by decide +kernel
theorem dX2_compared_29 : decode cX2_compared 29 = .ok (.iload_n 3, 1) := by decide +kernel
theorem dX2_compared_30 : decode cX2_compared 30 = .ok (.bipush 60, 2) := by decide +kernel
theorem dX2_compared_32 : decode cX2_compared 32 = .ok (.if_icmp .eq 17, 3) := by decide +kernel
theorem dX2_compared_35 : decode cX2_compared 35 = .ok (.iload_n 3, 1) := by decide +kernel
theorem dX2_compared_36 : decode cX2_compared 36 = .ok (.bipush 61, 2) := by decide +kernel
theorem dX2_compared_38 : decode cX2_compared 38 = .ok (.if_icmp .eq 11, 3) := by decide +kernel
theorem dX2_compared_41 : decode cX2_compared 41 = .ok (.iload_n 3, 1) := by decide +kernel
theorem dX2_compared_42 : decode cX2_compared 42 = .ok (.bipush 62, 2) := by decide +kernel
theorem dX2_compared_44 : decode cX2_compared 44 = .ok (.if_icmp .eq 5, 3) := by decide +kernel
theorem dX2_compared_47 : decode cX2_compared 47 = .ok (.iload_n 2, 1) := by decide +kernel
theorem dX2_compared_48 : decode cX2_compared 48 = .ok (.ireturn, 1) := by decide +kernel
theorem dX2_compared_49 : decode cX2_compared 49 = .ok (.aload_n 0, 1) := by decide +kernel
theorem dX2_compared_50 : decode cX2_compared 50 = .ok (.dup, 1) := by decide +kernel
theorem dX2_compared_51 : decode cX2_compared 51 = .ok (.getfield 25, 3) := by decide +kernel
theorem dX2_compared_54 : decode cX2_compared 54 = .ok (.iconst 1, 1) := by decide +kernel
theorem dX2_compared_55 : decode cX2_compared 55 = .ok (.iadd, 1) := by decide +kernel
theorem dX2_compared_56 : decode cX2_compared 56 = .ok (.putfield 25, 3) := by decide +kernel
theorem dX2_compared_59 : decode cX2_compared 59 = .ok (.aload_n 0, 1) := by decide +kernel
theorem dX2_compared_60 : decode cX2_compared 60 = .ok (.iload_n 1, 1) := by decide +kernel
theorem dX2_compared_61 : decode cX2_compared 61 = .ok (.invokevirtual 87, 3) := by decide +kernel
theorem dX2_compared_64 : decode cX2_compared 64 = .ok (.istore 4, 2) := by decide +kernel
theorem dX2_compared_66 : decode cX2_compared 66 = .ok (.iload_n 3, 1) := by decide +kernel
theorem dX2_compared_67 : decode cX2_compared 67 = .ok (.bipush 60, 2) := by decide +kernel
theorem dX2_compared_69 : decode cX2_compared 69 = .ok (.if_icmp .ne 17, 3) := by decide +kernel
theorem dX2_compared_72 : decode cX2_compared 72 = .ok (.iload_n 2, 1) := by decide +kernel
theorem dX2_compared_73 : decode cX2_compared 73 = .ok (.iload 4, 2) := by decide +kernel
theorem dX2_compared_75 : decode cX2_compared 75 = .ok (.if_icmp .ge 7, 3) := by decide +kernel
theorem dX2_compared_78 : decode cX2_compared 78 = .ok (.iconst 1, 1) := by decide +kernel
theorem dX2_compared_79 : decode cX2_compared 79 = .ok (.goto 38, 3) := by decide +kernel
theorem dX2_compared_82 : decode cX2_compared 82 = .ok (.iconst 0, 1) := by decide +kernel
theorem dX2_compared_83 : decode cX2_compared 83 = .ok (.goto 34, 3) := by decide +kernel
theorem dX2_compared_86 : decode cX2_compared 86 = .ok (.iload_n 3, 1) := by decide +kernel
theorem dX2_compared_87 : decode cX2_compared 87 = .ok (.bipush 61, 2) := by decide +kernel
theorem dX2_compared_89 : decode cX2_compared 89 = .ok (.if_icmp .ne 17, 3) := by decide +kernel
theorem dX2_compared_92 : decode cX2_compared 92 = .ok (.iload_n 2, 1) := by decide +kernel
theorem dX2_compared_93 : decode cX2_compared 93 = .ok (.iload 4, 2) := by decide +kernel
theorem dX2_compared_95 : decode cX2_compared 95 = .ok (.if_icmp .ne 7, 3) := by decide +kernel
theorem dX2_compared_98 : decode cX2_compared 98 = .ok (.iconst 1, 1) := by decide +kernel
theorem dX2_compared_99 : decode cX2_compared 99 = .ok (.goto 18, 3) := by decide +kernel
theorem dX2_compared_102 : decode cX2_compared 102 = .ok (.iconst 0, 1) := by decide +kernel
theorem dX2_compared_103 : decode cX2_compared 103 = .ok (.goto 14, 3) := by decide +kernel
theorem dX2_compared_106 : decode cX2_compared 106 = .ok (.iload_n 2, 1) := by decide +kernel
theorem dX2_compared_107 : decode cX2_compared 107 = .ok (.iload 4, 2) := by decide +kernel
theorem dX2_compared_109 : decode cX2_compared 109 = .ok (.if_icmp .le 7, 3) := by decide +kernel
theorem dX2_compared_112 : decode cX2_compared 112 = .ok (.iconst 1, 1) := by decide +kernel
theorem dX2_compared_113 : decode cX2_compared 113 = .ok (.goto 4, 3) := by decide +kernel
theorem dX2_compared_116 : decode cX2_compared 116 = .ok (.iconst 0, 1) := by decide +kernel
theorem dX2_compared_117 : decode cX2_compared 117 = .ok (.istore 5, 2) := by decide +kernel
theorem dX2_compared_119 : decode cX2_compared 119 = .ok (.iload 5, 2) := by decide +kernel
theorem dX2_compared_121 : decode cX2_compared 121 = .ok (.ifCond .eq 7, 3) := by decide +kernel
theorem dX2_compared_124 : decode cX2_compared 124 = .ok (.iconst 1, 1) := by decide +kernel
theorem dX2_compared_125 : decode cX2_compared 125 = .ok (.goto 4, 3) := by decide +kernel
theorem dX2_compared_128 : decode cX2_compared 128 = .ok (.iconst 0, 1) := by decide +kernel
theorem dX2_compared_129 : decode cX2_compared 129 = .ok (.ireturn, 1) := by decide +kernel
theorem dX2_sum_0 : decode cX2_sum 0 = .ok (.aload_n 0, 1) := by decide +kernel
theorem dX2_sum_1 : decode cX2_sum 1 = .ok (.iload_n 1, 1) := by decide +kernel
theorem dX2_sum_2 : decode cX2_sum 2 = .ok (.invokevirtual 90, 3) := by decide +kernel
theorem dX2_sum_5 : decode cX2_sum 5 = .ok (.istore_n 2, 1) := by decide +kernel
theorem dX2_sum_6 : decode cX2_sum 6 = .ok (.aload_n 0, 1) := by decide +kernel
theorem dX2_sum_7 : decode cX2_sum 7 = .ok (.getfield 25, 3) := by decide +kernel
theorem dX2_sum_10 : decode cX2_sum 10 = .ok (.aload_n 0, 1) := by decide +kernel
theorem dX2_sum_11 : decode cX2_sum 11 = .ok (.getfield 22, 3) := by decide +kernel
theorem dX2_sum_14 : decode cX2_sum 14 = .ok (.if_icmp .ge 79, 3) := by decide +kernel
theorem dX2_sum_17 : decode cX2_sum 17 = .ok (.aload_n 0, 1) := by decide +kernel
theorem dX2_sum_18 : decode cX2_sum 18 = .ok (.getfield 19, 3) := by decide +kernel
theorem dX2_sum_21 : decode cX2_sum 21 = .ok (.aload_n 0, 1) := by decide +kernel
theorem dX2_sum_22 : decode cX2_sum 22 = .ok (.getfield 25, 3) := by decide +kernel
theorem dX2_sum_25 : decode cX2_sum 25 = .ok (.baload, 1) := by decide +kernel
theorem dX2_sum_26 : decode cX2_sum 26 = .ok (.bipush 43, 2) := by decide +kernel
theorem dX2_sum_28 : decode cX2_sum 28 = .ok (.if_icmp .eq 17, 3) := by decide +kernel
theorem dX2_sum_31 : decode cX2_sum 31 = .ok (.aload_n 0, 1) := by decide +kernel
theorem dX2_sum_32 : decode cX2_sum 32 = .ok (.getfield 19, 3) := by decide +kernel
theorem dX2_sum_35 : decode cX2_sum 35 = .ok (.aload_n 0, 1) := by decide +kernel
theorem dX2_sum_36 : decode cX2_sum 36 = .ok (.getfield 25, 3) := by decide +kernel
theorem dX2_sum_39 : decode cX2_sum 39 = .ok (.baload, 1) := by decide +kernel
theorem dX2_sum_40 : decode cX2_sum 40 = .ok (.bipush 45, 2) := by decide +kernel
theorem dX2_sum_42 : decode cX2_sum 42 = .ok (.if_icmp .ne 51, 3) := by decide +kernel
theorem dX2_sum_45 : decode cX2_sum 45 = .ok (.aload_n 0, 1) := by decide +kernel
theorem dX2_sum_46 : decode cX2_sum 46 = .ok (.getfield 19, 3) := by decide +kernel
theorem dX2_sum_49 : decode cX2_sum 49 = .ok (.aload_n 0, 1) := by decide +kernel
theorem dX2_sum_50 : decode cX2_sum 50 = .ok (.getfield 25, 3) := by decide +kernel
theorem dX2_sum_53 : decode cX2_sum 53 = .ok (.baload, 1) := by decide +kernel
theorem dX2_sum_54 : decode cX2_sum 54 = .ok (.istore_n 3, 1) := by decide +kernel
theorem dX2_sum_55 : decode cX2_sum 55 = .ok (.aload_n 0, 1) := by decide +kernel
theorem dX2_sum_56 : decode cX2_sum 56 = .ok (.dup, 1) := by decide +kernel
theorem dX2_sum_57 : decode cX2_sum 57 = .ok (.getfield 25, 3) := by decide +kernel
theorem dX2_sum_60 : decode cX2_sum 60 = .ok (.iconst 1, 1) := by decide +kernel
theorem dX2_sum_61 : decode cX2_sum 61 = .ok (.iadd, 1) := by decide +kernel
theorem dX2_sum_62 : decode cX2_sum 62 = .ok (.putfield 25, 3) := by decide +kernel
theorem dX2_sum_65 : decode cX2_sum 65 = .ok (.aload_n 0, 1) := by decide +kernel
theorem dX2_sum_66 : decode cX2_sum 66 = .ok (.iload_n 1, 1) := by decide +kernel
theorem dX2_sum_67 : decode cX2_sum 67 = .ok (.invokevirtual 90, 3) := by decide +kernel
theorem dX2_sum_70 : decode cX2_sum 70 = .ok (.istore 4, 2) := by decide +kernel
theorem dX2_sum_72 : decode cX2_sum 72 = .ok (.iload_n 3, 1) := by decide +kernel
theorem dX2_sum_73 : decode cX2_sum 73 = .ok (.bipush 43, 2) := by decide +kernel
theorem dX2_sum_75 : decode cX2_sum 75 = .ok (.if_icmp .ne 10, 3) := by decide +kernel
theorem dX2_sum_78 : decode cX2_sum 78 = .ok (.iload_n 2, 1) := by decide +kernel
theorem dX2_sum_79 : decode cX2_sum 79 = .ok (.iload 4, 2) := by decide +kernel
theorem dX2_sum_81 : decode cX2_sum 81 = .ok (.iadd, 1) := by decide +kernel
theorem dX2_sum_82 : decode cX2_sum 82 = .ok (.goto 7, 3) := by decide +kernel
theorem dX2_sum_85 : decode cX2_sum 85 = .ok (.iload_n 2, 1) := by decide +kernel
theorem dX2_sum_86 : decode cX2_sum 86 = .ok (.iload 4, 2) := by decide +kernel
theorem dX2_sum_88 : decode cX2_sum 88 = .ok (.isub, 1) := by decide +kernel
theorem dX2_sum_89 : decode cX2_sum 89 = .ok (.istore_n 2, 1) := by decide +kernel
theorem dX2_sum_90 : decode cX2_sum 90 = .ok (.goto (-84), 3) := by decide +kernel
theorem dX2_sum_93 : decode cX2_sum 93 = .ok (.iload_n 2, 1) := by decide +kernel
theorem dX2_sum_94 : decode cX2_sum 94 = .ok (.ireturn, 1) := by decide +kernel
theorem dX2_product_0 : decode cX2_product 0 = .ok (.aload_n 0, 1) := by decide +kernel
theorem dX2_product_1 : decode cX2_product 1 = .ok (.iload_n 1, 1) := by decide +kernel
theorem dX2_product_2 : decode cX2_product 2 = .ok (.invokevirtual 93, 3) := by decide +kernel
theorem dX2_product_5 : decode cX2_product 5 = .ok (.istore_n 2, 1) := by decide +kernel
theorem dX2_product_6 : decode cX2_product 6 = .ok (.aload_n 0, 1) := by decide +kernel
theorem dX2_product_7 : decode cX2_product 7 = .ok (.getfield 25, 3) := by decide +kernel
theorem dX2_product_10 : decode cX2_product 10 = .ok (.aload_n 0, 1) := by decide +kernel
theorem dX2_product_11 : decode cX2_product 11 = .ok (.getfield 22, 3) := by decide +kernel
theorem dX2_product_14 : decode cX2_product 14 = .ok (.if_icmp .ge 117, 3) := by decide +kernel
theorem dX2_product_17 : decode cX2_product 17 = .ok (.aload_n 0, 1) := by decide +kernel
theorem dX2_product_18 : decode cX2_product 18 = .ok (.getfield 19, 3) := by decide +kernel
theorem dX2_product_21 : decode cX2_product 21 = .ok (.aload_n 0, 1) := by decide +kernel
theorem dX2_product_22 : decode cX2_product 22 = .ok (.getfield 25, 3) := by decide +kernel
theorem dX2_product_25 : decode cX2_product 25 = .ok (.baload, 1) := by decide +kernel
theorem dX2_product_26 : decode cX2_product 26 = .ok (.bipush 42, 2) := by decide +kernel
theorem dX2_product_28 : decode cX2_product 28 = .ok (.if_icmp .eq 31, 3) := by decide +kernel
theorem dX2_product_31 : decode cX2_product 31 = .ok (.aload_n 0, 1) := by decide +kernel
theorem dX2_product_32 : decode cX2_product 32 = .ok (.getfield 19, 3) := by decide +kernel
theorem dX2_product_35 : decode cX2_product 35 = .ok (.aload_n 0, 1) := by decide +kernel
theorem dX2_product_36 : decode cX2_product 36 = .ok (.getfield 25, 3) := by decide +kernel
theorem dX2_product_39 : decode cX2_product 39 = .ok (.baload, 1) := by decide +kernel
theorem dX2_product_40 : decode cX2_product 40 = .ok (.bipush 47, 2) := by decide +kernel
theorem dX2_product_42 : decode cX2_product 42 = .ok (.if_icmp .eq 17, 3) := by decide +kernel
theorem dX2_product_45 : decode cX2_product 45 = .ok (.aload_n 0, 1) := by decide +kernel
theorem dX2_product_46 : decode cX2_product 46 = .ok (.getfield 19, 3) := by decide +kernel
theorem dX2_product_49 : decode cX2_product 49 = .ok (.aload_n 0, 1) := by decide +kernel
theorem dX2_product_50 : decode cX2_product 50 = .ok (.getfield 25, 3) := by decide +kernel
theorem dX2_product_53 : decode cX2_product 53 = .ok (.baload, 1) := by decide +kernel
theorem dX2_product_54 : decode cX2_product 54 = .ok (.bipush 37, 2) := by decide +kernel
theorem dX2_product_56 : decode cX2_product 56 = .ok (.if_icmp .ne 75, 3) := by decide +kernel
theorem dX2_product_59 : decode cX2_product 59 = .ok (.aload_n 0, 1) := by decide +kernel
theorem dX2_product_60 : decode cX2_product 60 = .ok (.getfield 19, 3) := by decide +kernel
theorem dX2_product_63 : decode cX2_product 63 = .ok (.aload_n 0, 1) := by decide +kernel
theorem dX2_product_64 : decode cX2_product 64 = .ok (.getfield 25, 3) := by decide +kernel
theorem dX2_product_67 : decode cX2_product 67 = .ok (.baload, 1) := by decide +kernel
theorem dX2_product_68 : decode cX2_product 68 = .ok (.istore_n 3, 1) := by decide +kernel
theorem dX2_product_69 : decode cX2_product 69 = .ok (.aload_n 0, 1) := by decide +kernel
theorem dX2_product_70 : decode cX2_product 70 = .ok (.dup, 1) := by decide +kernel
theorem dX2_product_71 : decode cX2_product 71 = .ok (.getfield 25, 3) := by decide +kernel
theorem dX2_product_74 : decode cX2_product 74 = .ok (.iconst 1, 1) := by decide +kernel
theorem dX2_product_75 : decode cX2_product 75 = .ok (.iadd, 1) := by decide +kernel
theorem dX2_product_76 : decode cX2_product 76 = .ok (.putfield 25, 3) := by decide +kernel
theorem dX2_product_79 : decode cX2_product 79 = .ok (.aload_n 0, 1) := by decide +kernel
theorem dX2_product_80 : decode cX2_product 80 = .ok (.iload_n 1, 1) := by decide +kernel
theorem dX2_product_81 : decode cX2_product 81 = .ok (.invokevirtual 93, 3) := by decide +kernel
theorem dX2_product_84 : decode cX2_product 84 = .ok (.istore 4, 2) := by decide +kernel
theorem dX2_product_86 : decode cX2_product 86 = .ok (.iload_n 3, 1) := by decide +kernel
theorem dX2_product_87 : decode cX2_product 87 = .ok (.bipush 42, 2) := by decide +kernel
theorem dX2_product_89 : decode cX2_product 89 = .ok (.if_icmp .ne 11, 3) := by decide +kernel
theorem dX2_product_92 : decode cX2_product 92 = .ok (.iload_n 2, 1) := by decide +kernel
theorem dX2_product_93 : decode cX2_product 93 = .ok (.iload 4, 2) := by decide +kernel
theorem dX2_product_95 : decode cX2_product 95 = .ok (.imul, 1) := by decide +kernel
theorem dX2_product_96 : decode cX2_product 96 = .ok (.istore_n 2, 1) := by decide +kernel
theorem dX2_product_97 : decode cX2_product 97 = .ok (.goto 31, 3) := by decide +kernel
theorem dX2_product_100 : decode cX2_product 100 = .ok (.iload 4, 2) := by decide +kernel
theorem dX2_product_102 : decode cX2_product 102 = .ok (.ifCond .ne 8, 3) := by decide +kernel
theorem dX2_product_105 : decode cX2_product 105 = .ok (.iconst 0, 1) := by decide +kernel
theorem dX2_product_106 : decode cX2_product 106 = .ok (.istore_n 2, 1) := by decide +kernel
theorem dX2_product_107 : decode cX2_product 107 = .ok (.goto 21, 3) := by decide +kernel
theorem dX2_product_110 : decode cX2_product 110 = .ok (.iload_n 3, 1) := by decide +kernel
theorem dX2_product_111 : decode cX2_product 111 = .ok (.bipush 47, 2) := by decide +kernel
theorem dX2_product_113 : decode cX2_product 113 = .ok (.if_icmp .ne 10, 3) := by decide +kernel
theorem dX2_product_116 : decode cX2_product 116 = .ok (.iload_n 2, 1) := by decide +kernel
theorem dX2_product_117 : decode cX2_product 117 = .ok (.iload 4, 2) := by decide +kernel
theorem dX2_product_119 : decode cX2_product 119 = .ok (.idiv, 1) := by decide +kernel
theorem dX2_product_120 : decode cX2_product 120 = .ok (.goto 7, 3) := by decide +kernel
theorem dX2_product_123 : decode cX2_product 123 = .ok (.iload_n 2, 1) := by decide +kernel
theorem dX2_product_124 : decode cX2_product 124 = .ok (.iload 4, 2) := by decide +kernel
theorem dX2_product_126 : decode cX2_product 126 = .ok (.irem, 1) := by decide +kernel
theorem dX2_product_127 : decode cX2_product 127 = .ok (.istore_n 2, 1) := by decide +kernel
theorem dX2_product_128 : decode cX2_product 128 = .ok (.goto (-122), 3) := by decide +kernel
theorem dX2_product_131 : decode cX2_product 131 = .ok (.iload_n 2, 1) := by decide +kernel
theorem dX2_product_132 : decode cX2_product 132 = .ok (.ireturn, 1) := by decide +kernel
theorem dX2_part_0 : decode cX2_part 0 = .ok (.aload_n 0, 1) := by decide +kernel
theorem dX2_part_1 : decode cX2_part 1 = .ok (.getfield 25, 3) := by decide +kernel
theorem dX2_part_4 : decode cX2_part 4 = .ok (.aload_n 0, 1) := by decide +kernel
theorem dX2_part_5 : decode cX2_part 5 = .ok (.getfield 22, 3) := by decide +kernel
theorem dX2_part_8 : decode cX2_part 8 = .ok (.if_icmp .lt 8, 3) := by decide +kernel
theorem dX2_part_11 : decode cX2_part 11 = .ok (.aload_n 0, 1) := by decide +kernel
theorem dX2_part_12 : decode cX2_part 12 = .ok (.invokevirtual 78, 3) := by decide +kernel
theorem dX2_part_15 : decode cX2_part 15 = .ok (.ireturn, 1) := by decide +kernel
theorem dX2_part_16 : decode cX2_part 16 = .ok (.aload_n 0, 1) := by decide +kernel
theorem dX2_part_17 : decode cX2_part 17 = .ok (.getfield 19, 3) := by decide +kernel
theorem dX2_part_20 : decode cX2_part 20 = .ok (.aload_n 0, 1) := by decide +kernel
theorem dX2_part_21 : decode cX2_part 21 = .ok (.getfield 25, 3) := by decide +kernel
theorem dX2_part_24 : decode cX2_part 24 = .ok (.baload, 1) := by decide +kernel
theorem dX2_part_25 : decode cX2_part 25 = .ok (.istore_n 2, 1) := by decide +kernel
theorem dX2_part_26 : decode cX2_part 26 = .ok (.iload_n 2, 1) := by decide +kernel
theorem dX2_part_27 : decode cX2_part 27 = .ok (.invokestatic 96, 3) := by decide +kernel
theorem dX2_part_30 : decode cX2_part 30 = .ok (.ifCond .eq 8, 3) := by decide +kernel
theorem dX2_part_33 : decode cX2_part 33 = .ok (.aload_n 0, 1) := by decide +kernel
theorem dX2_part_34 : decode cX2_part 34 = .ok (.invokevirtual 100, 3) := by decide +kernel
theorem dX2_part_37 : decode cX2_part 37 = .ok (.ireturn, 1) := by decide +kernel
theorem dX2_part_38 : decode cX2_part 38 = .ok (.iload_n 2, 1) := by decide +kernel
theorem dX2_part_39 : decode cX2_part 39 = .ok (.bipush 33, 2) := by decide +kernel
theorem dX2_part_41 : decode cX2_part 41 = .ok (.if_icmp .eq 15, 3) := by decide +kernel
theorem dX2_part_44 : decode cX2_part 44 = .ok (.iload_n 2, 1) := by decide +kernel
theorem dX2_part_45 : decode cX2_part 45 = .ok (.bipush 40, 2) := by decide +kernel
theorem dX2_part_47 : decode cX2_part 47 = .ok (.if_icmp .eq 9, 3) := by decide +kernel
theorem dX2_part_50 : decode cX2_part 50 = .ok (.aload_n 0, 1) := by decide +kernel
theorem dX2_part_51 : decode cX2_part 51 = .ok (.iload_n 2, 1) := by decide +kernel
theorem dX2_part_52 : decode cX2_part 52 = .ok (.invokevirtual 103, 3) := by decide +kernel
theorem dX2_part_55 : decode cX2_part 55 = .ok (.ireturn, 1) := by decide +kernel
theorem dX2_part_56 : decode cX2_part 56 = .ok (.iload_n 1, 1) := by decide +kernel
theorem dX2_part_57 : decode cX2_part 57 = .ok (.iconst 5, 1) := by decide +kernel
theorem dX2_part_58 : decode cX2_part 58 = .ok (.if_icmp .lt 8, 3) := by decide +kernel
theorem dX2_part_61 : decode cX2_part 61 = .ok (.aload_n 0, 1) := by decide +kernel
theorem dX2_part_62 : decode cX2_part 62 = .ok (.invokevirtual 78, 3) := by decide +kernel
theorem dX2_part_65 : decode cX2_part 65 = .ok (.ireturn, 1) := by decide +kernel
theorem dX2_part_66 : decode cX2_part 66 = .ok (.aload_n 0, 1) := by decide +kernel
theorem dX2_part_67 : decode cX2_part 67 = .ok (.dup, 1) := by decide +kernel
theorem dX2_part_68 : decode cX2_part 68 = .ok (.getfield 25, 3) := by decide +kernel
theorem dX2_part_71 : decode cX2_part 71 = .ok (.iconst 1, 1) := by decide +kernel
theorem dX2_part_72 : decode cX2_part 72 = .ok (.iadd, 1) := by decide +kernel
theorem dX2_part_73 : decode cX2_part 73 = .ok (.putfield 25, 3) := by decide +kernel
theorem dX2_part_76 : decode cX2_part 76 = .ok (.iload_n 2, 1) := by decide +kernel
theorem dX2_part_77 : decode cX2_part 77 = .ok (.bipush 33, 2) := by decide +kernel
theorem dX2_part_79 : decode cX2_part 79 = .ok (.if_icmp .ne 19, 3) := by decide +kernel
theorem dX2_part_82 : decode cX2_part 82 = .ok (.aload_n 0, 1) := by decide +kernel
theorem dX2_part_83 : decode cX2_part 83 = .ok (.iload_n 1, 1) := by decide +kernel
theorem dX2_part_84 : decode cX2_part 84 = .ok (.iconst 1, 1) := by decide +kernel
theorem dX2_part_85 : decode cX2_part 85 = .ok (.iadd, 1) := by decide +kernel
theorem dX2_part_86 : decode cX2_part 86 = .ok (.invokevirtual 93, 3) := by decide +kernel
theorem dX2_part_89 : decode cX2_part 89 = .ok (.ifCond .ne 7, 3) := by decide +kernel
theorem dX2_part_92 : decode cX2_part 92 = .ok (.iconst 1, 1) := by decide +kernel
theorem dX2_part_93 : decode cX2_part 93 = .ok (.goto 4, 3) := by decide +kernel
theorem dX2_part_96 : decode cX2_part 96 = .ok (.iconst 0, 1) := by decide +kernel
theorem dX2_part_97 : decode cX2_part 97 = .ok (.ireturn, 1) := by decide +kernel
theorem dX2_part_98 : decode cX2_part 98 = .ok (.aload_n 0, 1) := by decide +kernel
theorem dX2_part_99 : decode cX2_part 99 = .ok (.iload_n 1, 1) := by decide +kernel
theorem dX2_part_100 : decode cX2_part 100 = .ok (.iconst 1, 1) := by decide +kernel
theorem dX2_part_101 : decode cX2_part 101 = .ok (.iadd, 1) := by decide +kernel
theorem dX2_part_102 : decode cX2_part 102 = .ok (.invokevirtual 74, 3) := by decide +kernel
theorem dX2_part_105 : decode cX2_part 105 = .ok (.istore_n 3, 1) := by decide +kernel
theorem dX2_part_106 : decode cX2_part 106 = .ok (.aload_n 0, 1) := by decide +kernel
theorem dX2_part_107 : decode cX2_part 107 = .ok (.getfield 25, 3) := by decide +kernel
theorem dX2_part_110 : decode cX2_part 110 = .ok (.aload_n 0, 1) := by decide +kernel
theorem dX2_part_111 : decode cX2_part 111 = .ok (.getfield 22, 3) := by decide +kernel
theorem dX2_part_114 : decode cX2_part 114 = .ok (.if_icmp .ge 17, 3) := by decide +kernel
theorem dX2_part_117 : decode cX2_part 117 = .ok (.aload_n 0, 1) := by decide +kernel
theorem dX2_part_118 : decode cX2_part 118 = .ok (.getfield 19, 3) := by decide +kernel
theorem dX2_part_121 : decode cX2_part 121 = .ok (.aload_n 0, 1) := by decide +kernel
theorem dX2_part_122 : decode cX2_part 122 = .ok (.getfield 25, 3) := by decide +kernel
theorem dX2_part_125 : decode cX2_part 125 = .ok (.baload, 1) := by decide +kernel
theorem dX2_part_126 : decode cX2_part 126 = .ok (.bipush 41, 2) := by decide +kernel
theorem dX2_part_128 : decode cX2_part 128 = .ok (.if_icmp .eq 8, 3) := by decide +kernel
theorem dX2_part_131 : decode cX2_part 131 = .ok (.aload_n 0, 1) := by decide +kernel
theorem dX2_part_132 : decode cX2_part 132 = .ok (.invokevirtual 78, 3) := by decide +kernel
theorem dX2_part_135 : decode cX2_part 135 = .ok (.ireturn, 1) := by decide +kernel
theorem dX2_part_136 : decode cX2_part 136 = .ok (.aload_n 0, 1) := by decide +kernel
theorem dX2_part_137 : decode cX2_part 137 = .ok (.dup, 1) := by decide +kernel
theorem dX2_part_138 : decode cX2_part 138 = .ok (.getfield 25, 3) := by decide +kernel
theorem dX2_part_141 : decode cX2_part 141 = .ok (.iconst 1, 1) := by decide +kernel
theorem dX2_part_142 : decode cX2_part 142 = .ok (.iadd, 1) := by decide +kernel
theorem dX2_part_143 : decode cX2_part 143 = .ok (.putfield 25, 3) := by decide +kernel
theorem dX2_part_146 : decode cX2_part 146 = .ok (.iload_n 3, 1) := by decide +kernel
theorem dX2_part_147 : decode cX2_part 147 = .ok (.ireturn, 1) := by decide +kernel
theorem dX2_number_0 : decode cX2_number 0 = .ok (.iconst 0, 1) := by decide +kernel
theorem dX2_number_1 : decode cX2_number 1 = .ok (.istore_n 1, 1) := by decide +kernel
theorem dX2_number_2 : decode cX2_number 2 = .ok (.iconst 0, 1) := by decide +kernel
theorem dX2_number_3 : decode cX2_number 3 = .ok (.istore_n 2, 1) := by decide +kernel
theorem dX2_number_4 : decode cX2_number 4 = .ok (.iload_n 2, 1) := by decide +kernel
theorem dX2_number_5 : decode cX2_number 5 = .ok (.iconst 4, 1) := by decide +kernel
theorem dX2_number_6 : decode cX2_number 6 = .ok (.if_icmp .ge 63, 3) := by decide +kernel
theorem dX2_number_9 : decode cX2_number 9 = .ok (.aload_n 0, 1) := by decide +kernel
theorem dX2_number_10 : decode cX2_number 10 = .ok (.getfield 25, 3) := by decide +kernel
theorem dX2_number_13 : decode cX2_number 13 = .ok (.aload_n 0, 1) := by decide +kernel
theorem dX2_number_14 : decode cX2_number 14 = .ok (.getfield 22, 3) := by decide +kernel
theorem dX2_number_17 : decode cX2_number 17 = .ok (.if_icmp .ge 52, 3) := by decide +kernel
theorem dX2_number_20 : decode cX2_number 20 = .ok (.aload_n 0, 1) := by decide +kernel
theorem dX2_number_21 : decode cX2_number 21 = .ok (.getfield 19, 3) := by decide +kernel
theorem dX2_number_24 : decode cX2_number 24 = .ok (.aload_n 0, 1) := by decide +kernel
theorem dX2_number_25 : decode cX2_number 25 = .ok (.getfield 25, 3) := by decide +kernel
theorem dX2_number_28 : decode cX2_number 28 = .ok (.baload, 1) := by decide +kernel
theorem dX2_number_29 : decode cX2_number 29 = .ok (.invokestatic 96, 3) := by decide +kernel
theorem dX2_number_32 : decode cX2_number 32 = .ok (.ifCond .eq 37, 3) := by decide +kernel
theorem dX2_number_35 : decode cX2_number 35 = .ok (.iload_n 1, 1) := by decide +kernel
theorem dX2_number_36 : decode cX2_number 36 = .ok (.bipush 10, 2) := by decide +kernel
theorem dX2_number_38 : decode cX2_number 38 = .ok (.imul, 1) := by decide +kernel
theorem dX2_number_39 : decode cX2_number 39 = .ok (.aload_n 0, 1) := by decide +kernel
theorem dX2_number_40 : decode cX2_number 40 = .ok (.getfield 19, 3) := by decide +kernel
theorem dX2_number_43 : decode cX2_number 43 = .ok (.aload_n 0, 1) := by decide +kernel
theorem dX2_number_44 : decode cX2_number 44 = .ok (.getfield 25, 3) := by decide +kernel
theorem dX2_number_47 : decode cX2_number 47 = .ok (.baload, 1) := by decide +kernel
theorem dX2_number_48 : decode cX2_number 48 = .ok (.iadd, 1) := by decide +kernel
theorem dX2_number_49 : decode cX2_number 49 = .ok (.bipush 48, 2) := by decide +kernel
theorem dX2_number_51 : decode cX2_number 51 = .ok (.isub, 1) := by decide +kernel
theorem dX2_number_52 : decode cX2_number 52 = .ok (.istore_n 1, 1) := by decide +kernel
theorem dX2_number_53 : decode cX2_number 53 = .ok (.aload_n 0, 1) := by decide +kernel
theorem dX2_number_54 : decode cX2_number 54 = .ok (.dup, 1) := by decide +kernel
theorem dX2_number_55 : decode cX2_number 55 = .ok (.getfield 25, 3) := by decide +kernel
theorem dX2_number_58 : decode cX2_number 58 = .ok (.iconst 1, 1) := by decide +kernel
theorem dX2_number_59 : decode cX2_number 59 = .ok (.iadd, 1) := by decide +kernel
theorem dX2_number_60 : decode cX2_number 60 = .ok (.putfield 25, 3) := by decide +kernel
theorem dX2_number_63 : decode cX2_number 63 = .ok (.iinc 2 1, 3) := by decide +kernel
theorem dX2_number_66 : decode cX2_number 66 = .ok (.goto (-62), 3) := by decide +kernel
theorem dX2_number_69 : decode cX2_number 69 = .ok (.iload_n 1, 1) := by decide +kernel
theorem dX2_number_70 : decode cX2_number 70 = .ok (.ireturn, 1) := by decide +kernel
theorem dX2_name_0 : decode cX2_name 0 = .ok (.aload_n 0, 1) := by decide +kernel
theorem dX2_name_1 : decode cX2_name 1 = .ok (.getfield 41, 3) := by decide +kernel
theorem dX2_name_4 : decode cX2_name 4 = .ok (.iload_n 1, 1) := by decide +kernel
theorem dX2_name_5 : decode cX2_name 5 = .ok (.sipush 255, 3) := by decide +kernel
theorem dX2_name_8 : decode cX2_name 8 = .ok (.iand, 1) := by decide +kernel
theorem dX2_name_9 : decode cX2_name 9 = .ok (.i2c, 1) := by decide +kernel
theorem dX2_name_10 : decode cX2_name 10 = .ok (.invokevirtual 106, 3) := by decide +kernel
theorem dX2_name_13 : decode cX2_name 13 = .ok (.istore_n 2, 1) := by decide +kernel
theorem dX2_name_14 : decode cX2_name 14 = .ok (.iload_n 2, 1) := by decide +kernel
theorem dX2_name_15 : decode cX2_name 15 = .ok (.ifCond .ge 8, 3) := by decide +kernel
theorem dX2_name_18 : decode cX2_name 18 = .ok (.aload_n 0, 1) := by decide +kernel
theorem dX2_name_19 : decode cX2_name 19 = .ok (.invokevirtual 78, 3) := by decide +kernel
theorem dX2_name_22 : decode cX2_name 22 = .ok (.ireturn, 1) := by decide +kernel
theorem dX2_name_23 : decode cX2_name 23 = .ok (.aload_n 0, 1) := by decide +kernel
theorem dX2_name_24 : decode cX2_name 24 = .ok (.dup, 1) := by decide +kernel
theorem dX2_name_25 : decode cX2_name 25 = .ok (.getfield 25, 3) := by decide +kernel
theorem dX2_name_28 : decode cX2_name 28 = .ok (.iconst 1, 1) := by decide +kernel
theorem dX2_name_29 : decode cX2_name 29 = .ok (.iadd, 1) := by decide +kernel
theorem dX2_name_30 : decode cX2_name 30 = .ok (.putfield 25, 3) := by decide +kernel
theorem dX2_name_33 : decode cX2_name 33 = .ok (.iload_n 2, 1) := by decide +kernel
theorem dX2_name_34 : decode cX2_name 34 = .ok (.ifCond .ne 10, 3) := by decide +kernel
theorem dX2_name_37 : decode cX2_name 37 = .ok (.aload_n 0, 1) := by decide +kernel
theorem dX2_name_38 : decode cX2_name 38 = .ok (.getfield 32, 3) := by decide +kernel
theorem dX2_name_41 : decode cX2_name 41 = .ok (.goto 19, 3) := by decide +kernel
theorem dX2_name_44 : decode cX2_name 44 = .ok (.iload_n 2, 1) := by decide +kernel
theorem dX2_name_45 : decode cX2_name 45 = .ok (.iconst 1, 1) := by decide +kernel
theorem dX2_name_46 : decode cX2_name 46 = .ok (.if_icmp .ne 10, 3) := by decide +kernel
theorem dX2_name_49 : decode cX2_name 49 = .ok (.aload_n 0, 1) := by decide +kernel
theorem dX2_name_50 : decode cX2_name 50 = .ok (.getfield 35, 3) := by decide +kernel
theorem dX2_name_53 : decode cX2_name 53 = .ok (.goto 7, 3) := by decide +kernel
theorem dX2_name_56 : decode cX2_name 56 = .ok (.aload_n 0, 1) := by decide +kernel
theorem dX2_name_57 : decode cX2_name 57 = .ok (.getfield 38, 3) := by decide +kernel
theorem dX2_name_60 : decode cX2_name 60 = .ok (.ireturn, 1) := by decide +kernel
theorem dX2_isDigit_0 : decode cX2_isDigit 0 = .ok (.iload_n 0, 1) := by decide +kernel
theorem dX2_isDigit_1 : decode cX2_isDigit 1 = .ok (.bipush 48, 2) := by decide +kernel
theorem dX2_isDigit_3 : decode cX2_isDigit 3 = .ok (.if_icmp .lt 13, 3) := by decide +kernel
theorem dX2_isDigit_6 : decode cX2_isDigit 6 = .ok (.iload_n 0, 1) := by decide +kernel
theorem dX2_isDigit_7 : decode cX2_isDigit 7 = .ok (.bipush 57, 2) := by decide +kernel
theorem dX2_isDigit_9 : decode cX2_isDigit 9 = .ok (.if_icmp .gt 7, 3) := by decide +kernel
theorem dX2_isDigit_12 : decode cX2_isDigit 12 = .ok (.iconst 1, 1) := by decide +kernel
theorem dX2_isDigit_13 : decode cX2_isDigit 13 = .ok (.goto 4, 3) := by decide +kernel
theorem dX2_isDigit_16 : decode cX2_isDigit 16 = .ok (.iconst 0, 1) := by decide +kernel
theorem dX2_isDigit_17 : decode cX2_isDigit 17 = .ok (.ireturn, 1) := by decide +kernel
theorem dX3_init_0 : decode cX3_init 0 = .ok (.aload_n 0, 1) := by decide +kernel
theorem dX3_init_1 : decode cX3_init 1 = .ok (.iload_n 1, 1) := by decide +kernel
theorem dX3_init_2 : decode cX3_init 2 = .ok (.iload_n 2, 1) := by decide +kernel
theorem dX3_init_3 : decode cX3_init 3 = .ok (.iload_n 3, 1) := by decide +kernel
theorem dX3_init_4 : decode cX3_init 4 = .ok (.invokespecial 1, 3) := by decide +kernel
theorem dX3_init_7 : decode cX3_init 7 = .ok (.return_, 1) := by decide +kernel
theorem dX3_counted_0 : decode cX3_counted 0 = .ok (.iload_n 1, 1) := by decide +kernel
theorem dX3_counted_1 : decode cX3_counted 1 = .ok (.iconst 2, 1) := by decide +kernel
theorem dX3_counted_2 : decode cX3_counted 2 = .ok (.idiv, 1) := by decide +kernel
theorem dX3_counted_3 : decode cX3_counted 3 = .ok (.ireturn, 1) := by decide +kernel
theorem dX3_rises_0 : decode cX3_rises 0 = .ok (.aload_n 1, 1) := by decide +kernel
theorem dX3_rises_1 : decode cX3_rises 1 = .ok (.bipush 30, 2) := by decide +kernel
theorem dX3_rises_3 : decode cX3_rises 3 = .ok (.invokevirtual 7, 3) := by decide +kernel
theorem dX3_rises_6 : decode cX3_rises 6 = .ok (.aload_n 0, 1) := by decide +kernel
theorem dX3_rises_7 : decode cX3_rises 7 = .ok (.aload_n 1, 1) := by decide +kernel
theorem dX3_rises_8 : decode cX3_rises 8 = .ok (.iload_n 2, 1) := by decide +kernel
theorem dX3_rises_9 : decode cX3_rises 9 = .ok (.invokespecial 13, 3) := by decide +kernel
theorem dX3_rises_12 : decode cX3_rises 12 = .ok (.aload_n 0, 1) := by decide +kernel
theorem dX3_rises_13 : decode cX3_rises 13 = .ok (.aload_n 1, 1) := by decide +kernel
theorem dX3_rises_14 : decode cX3_rises 14 = .ok (.iconst 1, 1) := by decide +kernel
theorem dX3_rises_15 : decode cX3_rises 15 = .ok (.invokevirtual 17, 3) := by decide +kernel
theorem dX3_rises_18 : decode cX3_rises 18 = .ok (.isub, 1) := by decide +kernel
theorem dX3_rises_19 : decode cX3_rises 19 = .ok (.ireturn, 1) := by decide +kernel
theorem dX4_init_0 : decode cX4_init 0 = .ok (.aload_n 0, 1) := by decide +kernel
theorem dX4_init_1 : decode cX4_init 1 = .ok (.invokespecial 3, 3) := by decide +kernel
theorem dX4_init_4 : decode cX4_init 4 = .ok (.aload_n 0, 1) := by decide +kernel
theorem dX4_init_5 : decode cX4_init 5 = .ok (.iconst 0, 1) := by decide +kernel
theorem dX4_init_6 : decode cX4_init 6 = .ok (.putfield 9, 3) := by decide +kernel
theorem dX4_init_9 : decode cX4_init 9 = .ok (.aload_n 0, 1) := by decide +kernel
theorem dX4_init_10 : decode cX4_init 10 = .ok (.iconst 0, 1) := by decide +kernel
theorem dX4_init_11 : decode cX4_init 11 = .ok (.putfield 15, 3) := by decide +kernel
theorem dX4_init_14 : decode cX4_init 14 = .ok (.aload_n 0, 1) := by decide +kernel
theorem dX4_init_15 : decode cX4_init 15 = .ok (.iconst 3, 1) := by decide +kernel
theorem dX4_init_16 : decode cX4_init 16 = .ok (.putfield 18, 3) := by decide +kernel
theorem dX4_init_19 : decode cX4_init 19 = .ok (.aload_n 0, 1) := by decide +kernel
theorem dX4_init_20 : decode cX4_init 20 = .ok (.iconst 0, 1) := by decide +kernel
theorem dX4_init_21 : decode cX4_init 21 = .ok (.putfield 21, 3) := by decide +kernel
theorem dX4_init_24 : decode cX4_init 24 = .ok (.aload_n 0, 1) := by decide +kernel
theorem dX4_init_25 : decode cX4_init 25 = .ok (.iconst 0, 1) := by decide +kernel
theorem dX4_init_26 : decode cX4_init 26 = .ok (.putfield 24, 3) := by decide +kernel
theorem dX4_init_29 : decode cX4_init 29 = .ok (.aload_n 0, 1) := by decide +kernel
theorem dX4_init_30 : decode cX4_init 30 = .ok (.iconst 1, 1) := by decide +kernel
theorem dX4_init_31 : decode cX4_init 31 = .ok (.putfield 27, 3) := by decide +kernel
theorem dX4_init_34 : decode cX4_init 34 = .ok (.aload_n 0, 1) := by decide +kernel
theorem dX4_init_35 : decode cX4_init 35 = .ok (.iconst 0, 1) := by decide +kernel
theorem dX4_init_36 : decode cX4_init 36 = .ok (.putfield 30, 3) := by decide +kernel
theorem dX4_init_39 : decode cX4_init 39 = .ok (.aload_n 0, 1) := by decide +kernel
theorem dX4_init_40 : decode cX4_init 40 = .ok (.bipush 6, 2) := by decide +kernel
theorem dX4_init_42 : decode cX4_init 42 = .ok (.anewarray 33, 3) := by decide +kernel
theorem dX4_init_45 : decode cX4_init 45 = .ok (.putfield 35, 3) := by decide +kernel
theorem dX4_init_48 : decode cX4_init 48 = .ok (.aload_n 0, 1) := by decide +kernel
theorem dX4_init_49 : decode cX4_init 49 = .ok (.bipush 6, 2) := by decide +kernel
theorem dX4_init_51 : decode cX4_init 51 = .ok (.newarray .int, 2) := by decide +kernel
theorem dX4_init_53 : decode cX4_init 53 = .ok (.putfield 39, 3) := by decide +kernel
theorem dX4_init_56 : decode cX4_init 56 = .ok (.aload_n 0, 1) := by decide +kernel
theorem dX4_init_57 : decode cX4_init 57 = .ok (.iconst 0, 1) := by decide +kernel
theorem dX4_init_58 : decode cX4_init 58 = .ok (.putfield 43, 3) := by decide +kernel
theorem dX4_init_61 : decode cX4_init 61 = .ok (.aload_n 0, 1) := by decide +kernel
theorem dX4_init_62 : decode cX4_init 62 = .ok (.bipush 50, 2) := by decide +kernel
theorem dX4_init_64 : decode cX4_init 64 = .ok (.newarray .byte, 2) := by decide +kernel
theorem dX4_init_66 : decode cX4_init 66 = .ok (.putfield 46, 3) := by decide +kernel
theorem dX4_init_69 : decode cX4_init 69 = .ok (.aload_n 0, 1) := by decide +kernel
theorem dX4_init_70 : decode cX4_init 70 = .ok (.iconst 0, 1) := by decide +kernel
theorem dX4_init_71 : decode cX4_init 71 = .ok (.putfield 50, 3) := by decide +kernel
theorem dX4_init_74 : decode cX4_init 74 = .ok (.aload_n 0, 1) := by decide +kernel
theorem dX4_init_75 : decode cX4_init 75 = .ok (.bipush 20, 2) := by decide +kernel
theorem dX4_init_77 : decode cX4_init 77 = .ok (.newarray .int, 2) := by decide +kernel
theorem dX4_init_79 : decode cX4_init 79 = .ok (.putfield 53, 3) := by decide +kernel
theorem dX4_init_82 : decode cX4_init 82 = .ok (.aload_n 0, 1) := by decide +kernel
theorem dX4_init_83 : decode cX4_init 83 = .ok (.new 56, 3) := by decide +kernel
theorem dX4_init_86 : decode cX4_init 86 = .ok (.dup, 1) := by decide +kernel
theorem dX4_init_87 : decode cX4_init 87 = .ok (.ldc 58, 2) := by decide +kernel
theorem dX4_init_89 : decode cX4_init 89 = .ok (.ldc 60, 2) := by decide +kernel
theorem dX4_init_91 : decode cX4_init 91 = .ok (.invokespecial 62, 3) := by decide +kernel
theorem dX4_init_94 : decode cX4_init 94 = .ok (.putfield 65, 3) := by decide +kernel
theorem dX4_init_97 : decode cX4_init 97 = .ok (.aload_n 0, 1) := by decide +kernel
theorem dX4_init_98 : decode cX4_init 98 = .ok (.new 56, 3) := by decide +kernel
theorem dX4_init_101 : decode cX4_init 101 = .ok (.dup, 1) := by decide +kernel
theorem dX4_init_102 : decode cX4_init 102 = .ok (.ldc 69, 2) := by decide +kernel
theorem dX4_init_104 : decode cX4_init 104 = .ok (.ldc 71, 2) := by decide +kernel
theorem dX4_init_106 : decode cX4_init 106 = .ok (.invokespecial 62, 3) := by decide +kernel
theorem dX4_init_109 : decode cX4_init 109 = .ok (.putfield 73, 3) := by decide +kernel
theorem dX4_init_112 : decode cX4_init 112 = .ok (.aload_n 0, 1) := by decide +kernel
theorem dX4_init_113 : decode cX4_init 113 = .ok (.sipush 729, 3) := by decide +kernel
theorem dX4_init_116 : decode cX4_init 116 = .ok (.newarray .int, 2) := by decide +kernel
theorem dX4_init_118 : decode cX4_init 118 = .ok (.putfield 76, 3) := by decide +kernel
theorem dX4_init_121 : decode cX4_init 121 = .ok (.iconst 0, 1) := by decide +kernel
theorem dX4_init_122 : decode cX4_init 122 = .ok (.istore_n 1, 1) := by decide +kernel
theorem dX4_init_123 : decode cX4_init 123 = .ok (.iload_n 1, 1) := by decide +kernel
theorem dX4_init_124 : decode cX4_init 124 = .ok (.bipush 6, 2) := by decide +kernel
theorem dX4_init_126 : decode cX4_init 126 = .ok (.if_icmp .ge 20, 3) := by decide +kernel
theorem dX4_init_129 : decode cX4_init 129 = .ok (.aload_n 0, 1) := by decide +kernel
theorem dX4_init_130 : decode cX4_init 130 = .ok (.getfield 35, 3) := by decide +kernel
theorem dX4_init_133 : decode cX4_init 133 = .ok (.iload_n 1, 1) := by decide +kernel
theorem dX4_init_134 : decode cX4_init 134 = .ok (.iconst 0, 1) := by decide +kernel
theorem dX4_init_135 : decode cX4_init 135 = .ok (.iload_n 1, 1) := by decide +kernel
theorem dX4_init_136 : decode cX4_init 136 = .ok (.invokestatic 79, 3) := by decide +kernel
theorem dX4_init_139 : decode cX4_init 139 = .ok (.aastore, 1) := by decide +kernel
theorem dX4_init_140 : decode cX4_init 140 = .ok (.iinc 1 1, 3) := by decide +kernel
theorem dX4_init_143 : decode cX4_init 143 = .ok (.goto (-20), 3) := by decide +kernel
theorem dX4_init_146 : decode cX4_init 146 = .ok (.aload_n 0, 1) := by decide +kernel
theorem dX4_init_147 : decode cX4_init 147 = .ok (.invokevirtual 83, 3) := by decide +kernel
theorem dX4_init_150 : decode cX4_init 150 = .ok (.return_, 1) := by decide +kernel
theorem dX4_copy_0 : decode cX4_copy 0 = .ok (.aload_n 0, 1) := by decide +kernel
theorem dX4_copy_1 : decode cX4_copy 1 = .ok (.aload_n 1, 1) := by decide +kernel
theorem dX4_copy_2 : decode cX4_copy 2 = .ok (.getfield 9, 3) := by decide +kernel
theorem dX4_copy_5 : decode cX4_copy 5 = .ok (.putfield 9, 3) := by decide +kernel
theorem dX4_copy_8 : decode cX4_copy 8 = .ok (.aload_n 0, 1) := by decide +kernel
theorem dX4_copy_9 : decode cX4_copy 9 = .ok (.aload_n 1, 1) := by decide +kernel
theorem dX4_copy_10 : decode cX4_copy 10 = .ok (.getfield 15, 3) := by decide +kernel
theorem dX4_copy_13 : decode cX4_copy 13 = .ok (.putfield 15, 3) := by decide +kernel
theorem dX4_copy_16 : decode cX4_copy 16 = .ok (.aload_n 0, 1) := by decide +kernel
theorem dX4_copy_17 : decode cX4_copy 17 = .ok (.aload_n 1, 1) := by decide +kernel
theorem dX4_copy_18 : decode cX4_copy 18 = .ok (.getfield 18, 3) := by decide +kernel
theorem dX4_copy_21 : decode cX4_copy 21 = .ok (.putfield 18, 3) := by decide +kernel
theorem dX4_copy_24 : decode cX4_copy 24 = .ok (.aload_n 0, 1) := by decide +kernel
theorem dX4_copy_25 : decode cX4_copy 25 = .ok (.aload_n 1, 1) := by decide +kernel
theorem dX4_copy_26 : decode cX4_copy 26 = .ok (.getfield 21, 3) := by decide +kernel
theorem dX4_copy_29 : decode cX4_copy 29 = .ok (.putfield 21, 3) := by decide +kernel
theorem dX4_copy_32 : decode cX4_copy 32 = .ok (.aload_n 0, 1) := by decide +kernel
theorem dX4_copy_33 : decode cX4_copy 33 = .ok (.aload_n 1, 1) := by decide +kernel
theorem dX4_copy_34 : decode cX4_copy 34 = .ok (.getfield 24, 3) := by decide +kernel
theorem dX4_copy_37 : decode cX4_copy 37 = .ok (.putfield 24, 3) := by decide +kernel
theorem dX4_copy_40 : decode cX4_copy 40 = .ok (.aload_n 0, 1) := by decide +kernel
theorem dX4_copy_41 : decode cX4_copy 41 = .ok (.aload_n 1, 1) := by decide +kernel
theorem dX4_copy_42 : decode cX4_copy 42 = .ok (.getfield 27, 3) := by decide +kernel
theorem dX4_copy_45 : decode cX4_copy 45 = .ok (.putfield 27, 3) := by decide +kernel
theorem dX4_copy_48 : decode cX4_copy 48 = .ok (.aload_n 0, 1) := by decide +kernel
theorem dX4_copy_49 : decode cX4_copy 49 = .ok (.aload_n 1, 1) := by decide +kernel
theorem dX4_copy_50 : decode cX4_copy 50 = .ok (.getfield 30, 3) := by decide +kernel
theorem dX4_copy_53 : decode cX4_copy 53 = .ok (.putfield 30, 3) := by decide +kernel
theorem dX4_copy_56 : decode cX4_copy 56 = .ok (.iconst 0, 1) := by decide +kernel
theorem dX4_copy_57 : decode cX4_copy 57 = .ok (.istore_n 2, 1) := by decide +kernel
theorem dX4_copy_58 : decode cX4_copy 58 = .ok (.iload_n 2, 1) := by decide +kernel
theorem dX4_copy_59 : decode cX4_copy 59 = .ok (.bipush 6, 2) := by decide +kernel
theorem dX4_copy_61 : decode cX4_copy 61 = .ok (.if_icmp .ge 33, 3) := by decide +kernel
theorem dX4_copy_64 : decode cX4_copy 64 = .ok (.aload_n 0, 1) := by decide +kernel
theorem dX4_copy_65 : decode cX4_copy 65 = .ok (.getfield 35, 3) := by decide +kernel
theorem dX4_copy_68 : decode cX4_copy 68 = .ok (.iload_n 2, 1) := by decide +kernel
theorem dX4_copy_69 : decode cX4_copy 69 = .ok (.aload_n 1, 1) := by decide +kernel
theorem dX4_copy_70 : decode cX4_copy 70 = .ok (.getfield 35, 3) := by decide +kernel
theorem dX4_copy_73 : decode cX4_copy 73 = .ok (.iload_n 2, 1) := by decide +kernel
theorem dX4_copy_74 : decode cX4_copy 74 = .ok (.aaload, 1) := by decide +kernel
theorem dX4_copy_75 : decode cX4_copy 75 = .ok (.aastore, 1) := by decide +kernel
theorem dX4_copy_76 : decode cX4_copy 76 = .ok (.aload_n 0, 1) := by decide +kernel
theorem dX4_copy_77 : decode cX4_copy 77 = .ok (.getfield 39, 3) := by decide +kernel
theorem dX4_copy_80 : decode cX4_copy 80 = .ok (.iload_n 2, 1) := by decide +kernel
theorem dX4_copy_81 : decode cX4_copy 81 = .ok (.aload_n 1, 1) := by decide +kernel
theorem dX4_copy_82 : decode cX4_copy 82 = .ok (.getfield 39, 3) := by decide +kernel
theorem dX4_copy_85 : decode cX4_copy 85 = .ok (.iload_n 2, 1) := by decide +kernel
theorem dX4_copy_86 : decode cX4_copy 86 = .ok (.iaload, 1) := by decide +kernel
theorem dX4_copy_87 : decode cX4_copy 87 = .ok (.iastore, 1) := by decide +kernel
theorem dX4_copy_88 : decode cX4_copy 88 = .ok (.iinc 2 1, 3) := by decide +kernel
theorem dX4_copy_91 : decode cX4_copy 91 = .ok (.goto (-33), 3) := by decide +kernel
theorem dX4_copy_94 : decode cX4_copy 94 = .ok (.aload_n 0, 1) := by decide +kernel
theorem dX4_copy_95 : decode cX4_copy 95 = .ok (.aload_n 1, 1) := by decide +kernel
theorem dX4_copy_96 : decode cX4_copy 96 = .ok (.getfield 43, 3) := by decide +kernel
theorem dX4_copy_99 : decode cX4_copy 99 = .ok (.putfield 43, 3) := by decide +kernel
theorem dX4_copy_102 : decode cX4_copy 102 = .ok (.aload_n 1, 1) := by decide +kernel
theorem dX4_copy_103 : decode cX4_copy 103 = .ok (.getfield 46, 3) := by decide +kernel
theorem dX4_copy_106 : decode cX4_copy 106 = .ok (.iconst 0, 1) := by decide +kernel
theorem dX4_copy_107 : decode cX4_copy 107 = .ok (.aload_n 0, 1) := by decide +kernel
theorem dX4_copy_108 : decode cX4_copy 108 = .ok (.getfield 46, 3) := by decide +kernel
theorem dX4_copy_111 : decode cX4_copy 111 = .ok (.iconst 0, 1) := by decide +kernel
theorem dX4_copy_112 : decode cX4_copy 112 = .ok (.bipush 50, 2) := by decide +kernel
theorem dX4_copy_114 : decode cX4_copy 114 = .ok (.invokestatic 86, 3) := by decide +kernel
theorem dX4_copy_117 : decode cX4_copy 117 = .ok (.aload_n 0, 1) := by decide +kernel
theorem dX4_copy_118 : decode cX4_copy 118 = .ok (.aload_n 1, 1) := by decide +kernel
theorem dX4_copy_119 : decode cX4_copy 119 = .ok (.getfield 50, 3) := by decide +kernel
theorem dX4_copy_122 : decode cX4_copy 122 = .ok (.putfield 50, 3) := by decide +kernel
theorem dX4_copy_125 : decode cX4_copy 125 = .ok (.aload_n 1, 1) := by decide +kernel
theorem dX4_copy_126 : decode cX4_copy 126 = .ok (.getfield 53, 3) := by decide +kernel
theorem dX4_copy_129 : decode cX4_copy 129 = .ok (.iconst 0, 1) := by decide +kernel
theorem dX4_copy_130 : decode cX4_copy 130 = .ok (.aload_n 0, 1) := by decide +kernel
theorem dX4_copy_131 : decode cX4_copy 131 = .ok (.getfield 53, 3) := by decide +kernel
theorem dX4_copy_134 : decode cX4_copy 134 = .ok (.iconst 0, 1) := by decide +kernel
theorem dX4_copy_135 : decode cX4_copy 135 = .ok (.bipush 20, 2) := by decide +kernel
theorem dX4_copy_137 : decode cX4_copy 137 = .ok (.invokestatic 86, 3) := by decide +kernel
theorem dX4_copy_140 : decode cX4_copy 140 = .ok (.aload_n 0, 1) := by decide +kernel
theorem dX4_copy_141 : decode cX4_copy 141 = .ok (.getfield 65, 3) := by decide +kernel
theorem dX4_copy_144 : decode cX4_copy 144 = .ok (.aload_n 1, 1) := by decide +kernel
theorem dX4_copy_145 : decode cX4_copy 145 = .ok (.getfield 65, 3) := by decide +kernel
theorem dX4_copy_148 : decode cX4_copy 148 = .ok (.invokevirtual 92, 3) := by decide +kernel
theorem dX4_copy_151 : decode cX4_copy 151 = .ok (.aload_n 0, 1) := by decide +kernel
theorem dX4_copy_152 : decode cX4_copy 152 = .ok (.getfield 73, 3) := by decide +kernel
theorem dX4_copy_155 : decode cX4_copy 155 = .ok (.aload_n 1, 1) := by decide +kernel
theorem dX4_copy_156 : decode cX4_copy 156 = .ok (.getfield 73, 3) := by decide +kernel
theorem dX4_copy_159 : decode cX4_copy 159 = .ok (.invokevirtual 92, 3) := by decide +kernel
theorem dX4_copy_162 : decode cX4_copy 162 = .ok (.aload_n 1, 1) := by decide +kernel
theorem dX4_copy_163 : decode cX4_copy 163 = .ok (.getfield 76, 3) := by decide +kernel
theorem dX4_copy_166 : decode cX4_copy 166 = .ok (.iconst 0, 1) := by decide +kernel
theorem dX4_copy_167 : decode cX4_copy 167 = .ok (.aload_n 0, 1) := by decide +kernel
theorem dX4_copy_168 : decode cX4_copy 168 = .ok (.getfield 76, 3) := by decide +kernel
theorem dX4_copy_171 : decode cX4_copy 171 = .ok (.iconst 0, 1) := by decide +kernel
theorem dX4_copy_172 : decode cX4_copy 172 = .ok (.aload_n 0, 1) := by decide +kernel
theorem dX4_copy_173 : decode cX4_copy 173 = .ok (.getfield 76, 3) := by decide +kernel
theorem dX4_copy_176 : decode cX4_copy 176 = .ok (.arraylength, 1) := by decide +kernel
theorem dX4_copy_177 : decode cX4_copy 177 = .ok (.invokestatic 86, 3) := by decide +kernel
theorem dX4_copy_180 : decode cX4_copy 180 = .ok (.return_, 1) := by decide +kernel
theorem dX4_lawOf_0 : decode cX4_lawOf 0 = .ok (.iload_n 1, 1) := by decide +kernel
theorem dX4_lawOf_1 : decode cX4_lawOf 1 = .ok (.ifCond .ne 10, 3) := by decide +kernel
theorem dX4_lawOf_4 : decode cX4_lawOf 4 = .ok (.aload_n 0, 1) := by decide +kernel
theorem dX4_lawOf_5 : decode cX4_lawOf 5 = .ok (.getfield 65, 3) := by decide +kernel
theorem dX4_lawOf_8 : decode cX4_lawOf 8 = .ok (.goto 7, 3) := by decide +kernel
theorem dX4_lawOf_11 : decode cX4_lawOf 11 = .ok (.aload_n 0, 1) := by decide +kernel
theorem dX4_lawOf_12 : decode cX4_lawOf 12 = .ok (.getfield 73, 3) := by decide +kernel
theorem dX4_lawOf_15 : decode cX4_lawOf 15 = .ok (.areturn, 1) := by decide +kernel
theorem dX4_takeTape_0 : decode cX4_takeTape 0 = .ok (.aload_n 0, 1) := by decide +kernel
theorem dX4_takeTape_1 : decode cX4_takeTape 1 = .ok (.iload_n 1, 1) := by decide +kernel
theorem dX4_takeTape_2 : decode cX4_takeTape 2 = .ok (.invokevirtual 96, 3) := by decide +kernel
theorem dX4_takeTape_5 : decode cX4_takeTape 5 = .ok (.aload_n 0, 1) := by decide +kernel
theorem dX4_takeTape_6 : decode cX4_takeTape 6 = .ok (.getfield 46, 3) := by decide +kernel
theorem dX4_takeTape_9 : decode cX4_takeTape 9 = .ok (.aload_n 0, 1) := by decide +kernel
theorem dX4_takeTape_10 : decode cX4_takeTape 10 = .ok (.getfield 43, 3) := by decide +kernel
theorem dX4_takeTape_13 : decode cX4_takeTape 13 = .ok (.invokevirtual 100, 3) := by decide +kernel
theorem dX4_takeTape_16 : decode cX4_takeTape 16 = .ok (.istore_n 2, 1) := by decide +kernel
theorem dX4_takeTape_17 : decode cX4_takeTape 17 = .ok (.aload_n 0, 1) := by decide +kernel
theorem dX4_takeTape_18 : decode cX4_takeTape 18 = .ok (.iconst 0, 1) := by decide +kernel
theorem dX4_takeTape_19 : decode cX4_takeTape 19 = .ok (.putfield 43, 3) := by decide +kernel
theorem dX4_takeTape_22 : decode cX4_takeTape 22 = .ok (.iload_n 2, 1) := by decide +kernel
theorem dX4_takeTape_23 : decode cX4_takeTape 23 = .ok (.ifCond .ge 11, 3) := by decide +kernel
theorem dX4_takeTape_26 : decode cX4_takeTape 26 = .ok (.iload_n 1, 1) := by decide +kernel
theorem dX4_takeTape_27 : decode cX4_takeTape 27 = .ok (.ifCond .ne 7, 3) := by decide +kernel
theorem dX4_takeTape_30 : decode cX4_takeTape 30 = .ok (.aload_n 0, 1) := by decide +kernel
theorem dX4_takeTape_31 : decode cX4_takeTape 31 = .ok (.invokevirtual 83, 3) := by decide +kernel
theorem dX4_takeTape_34 : decode cX4_takeTape 34 = .ok (.iload_n 2, 1) := by decide +kernel
theorem dX4_takeTape_35 : decode cX4_takeTape 35 = .ok (.ireturn, 1) := by decide +kernel
theorem dX4_workOutWorth_0 : decode cX4_workOutWorth 0 = .ok (.iconst 0, 1) := by decide +kernel
theorem dX4_workOutWorth_1 : decode cX4_workOutWorth 1 = .ok (.istore_n 1, 1) := by decide +kernel
theorem dX4_workOutWorth_2 : decode cX4_workOutWorth 2 = .ok (.iload_n 1, 1) := by decide +kernel
theorem dX4_workOutWorth_3 : decode cX4_workOutWorth 3 = .ok (.bipush 8, 2) := by decide +kernel
theorem dX4_workOutWorth_5 : decode cX4_workOutWorth 5 = .ok (.if_icmp .gt 64, 3) := by decide +kernel
theorem dX4_workOutWorth_8 : decode cX4_workOutWorth 8 = .ok (.iconst 0, 1) := by decide +kernel
theorem dX4_workOutWorth_9 : decode cX4_workOutWorth 9 = .ok (.istore_n 2, 1) := by decide +kernel
theorem dX4_workOutWorth_10 : decode cX4_workOutWorth 10 = .ok (.iload_n 2, 1) := by decide +kernel
theorem dX4_workOutWorth_11 : decode cX4_workOutWorth 11 = .ok (.bipush 8, 2) := by decide +kernel
theorem dX4_workOutWorth_13 : decode cX4_workOutWorth 13 = .ok (.iload_n 1, 1) := by decide +kernel
theorem dX4_workOutWorth_14 : decode cX4_workOutWorth 14 = .ok (.isub, 1) := by decide +kernel
theorem dX4_workOutWorth_15 : decode cX4_workOutWorth 15 = .ok (.if_icmp .gt 48, 3) := by decide +kernel
theorem dX4_workOutWorth_18 : decode cX4_workOutWorth 18 = .ok (.iconst 0, 1) := by decide +kernel
theorem dX4_workOutWorth_19 : decode cX4_workOutWorth 19 = .ok (.istore_n 3, 1) := by decide +kernel
theorem dX4_workOutWorth_20 : decode cX4_workOutWorth 20 = .ok (.iload_n 3, 1) := by decide +kernel
theorem dX4_workOutWorth_21 : decode cX4_workOutWorth 21 = .ok (.bipush 8, 2) := by decide +kernel
theorem dX4_workOutWorth_23 : decode cX4_workOutWorth 23 = .ok (.iload_n 1, 1) := by decide +kernel
theorem dX4_workOutWorth_24 : decode cX4_workOutWorth 24 = .ok (.isub, 1) := by decide +kernel
theorem dX4_workOutWorth_25 : decode cX4_workOutWorth 25 = .ok (.iload_n 2, 1) := by decide +kernel
theorem dX4_workOutWorth_26 : decode cX4_workOutWorth 26 = .ok (.isub, 1) := by decide +kernel
theorem dX4_workOutWorth_27 : decode cX4_workOutWorth 27 = .ok (.if_icmp .gt 30, 3) := by decide +kernel
theorem dX4_workOutWorth_30 : decode cX4_workOutWorth 30 = .ok (.aload_n 0, 1) := by decide +kernel
theorem dX4_workOutWorth_31 : decode cX4_workOutWorth 31 = .ok (.getfield 76, 3) := by decide +kernel
theorem dX4_workOutWorth_34 : decode cX4_workOutWorth 34 = .ok (.iload_n 1, 1) := by decide +kernel
theorem dX4_workOutWorth_35 : decode cX4_workOutWorth 35 = .ok (.iload_n 2, 1) := by decide +kernel
theorem dX4_workOutWorth_36 : decode cX4_workOutWorth 36 = .ok (.iload_n 3, 1) := by decide +kernel
theorem dX4_workOutWorth_37 : decode cX4_workOutWorth 37 = .ok (.invokestatic 104, 3) := by decide +kernel
theorem dX4_workOutWorth_40 : decode cX4_workOutWorth 40 = .ok (.aload_n 0, 1) := by decide +kernel
theorem dX4_workOutWorth_41 : decode cX4_workOutWorth 41 = .ok (.getfield 65, 3) := by decide +kernel
theorem dX4_workOutWorth_44 : decode cX4_workOutWorth 44 = .ok (.iload_n 1, 1) := by decide +kernel
theorem dX4_workOutWorth_45 : decode cX4_workOutWorth 45 = .ok (.iload_n 2, 1) := by decide +kernel
theorem dX4_workOutWorth_46 : decode cX4_workOutWorth 46 = .ok (.iload_n 3, 1) := by decide +kernel
theorem dX4_workOutWorth_47 : decode cX4_workOutWorth 47 = .ok (.invokevirtual 108, 3) := by decide +kernel
theorem dX4_workOutWorth_50 : decode cX4_workOutWorth 50 = .ok (.iastore, 1) := by decide +kernel
theorem dX4_workOutWorth_51 : decode cX4_workOutWorth 51 = .ok (.iinc 3 1, 3) := by decide +kernel
theorem dX4_workOutWorth_54 : decode cX4_workOutWorth 54 = .ok (.goto (-34), 3) := by decide +kernel
theorem dX4_workOutWorth_57 : decode cX4_workOutWorth 57 = .ok (.iinc 2 1, 3) := by decide +kernel
theorem dX4_workOutWorth_60 : decode cX4_workOutWorth 60 = .ok (.goto (-50), 3) := by decide +kernel
theorem dX4_workOutWorth_63 : decode cX4_workOutWorth 63 = .ok (.iinc 1 1, 3) := by decide +kernel
theorem dX4_workOutWorth_66 : decode cX4_workOutWorth 66 = .ok (.goto (-64), 3) := by decide +kernel
theorem dX4_workOutWorth_69 : decode cX4_workOutWorth 69 = .ok (.return_, 1) := by decide +kernel
theorem dX4_credit_0 : decode cX4_credit 0 = .ok (.iload_n 2, 1) := by decide +kernel
theorem dX4_credit_1 : decode cX4_credit 1 = .ok (.iload_n 3, 1) := by decide +kernel
theorem dX4_credit_2 : decode cX4_credit 2 = .ok (.invokestatic 111, 3) := by decide +kernel
theorem dX4_credit_5 : decode cX4_credit 5 = .ok (.istore 4, 2) := by decide +kernel
theorem dX4_credit_7 : decode cX4_credit 7 = .ok (.iload_n 2, 1) := by decide +kernel
theorem dX4_credit_8 : decode cX4_credit 8 = .ok (.iload_n 3, 1) := by decide +kernel
theorem dX4_credit_9 : decode cX4_credit 9 = .ok (.invokestatic 115, 3) := by decide +kernel
theorem dX4_credit_12 : decode cX4_credit 12 = .ok (.istore 5, 2) := by decide +kernel
theorem dX4_credit_14 : decode cX4_credit 14 = .ok (.iload_n 2, 1) := by decide +kernel
theorem dX4_credit_15 : decode cX4_credit 15 = .ok (.iload_n 3, 1) := by decide +kernel
theorem dX4_credit_16 : decode cX4_credit 16 = .ok (.invokestatic 118, 3) := by decide +kernel
theorem dX4_credit_19 : decode cX4_credit 19 = .ok (.istore 6, 2) := by decide +kernel
theorem dX4_credit_21 : decode cX4_credit 21 = .ok (.aload_n 0, 1) := by decide +kernel
theorem dX4_credit_22 : decode cX4_credit 22 = .ok (.getfield 35, 3) := by decide +kernel
theorem dX4_credit_25 : decode cX4_credit 25 = .ok (.iload_n 1, 1) := by decide +kernel
theorem dX4_credit_26 : decode cX4_credit 26 = .ok (.aaload, 1) := by decide +kernel
theorem dX4_credit_27 : decode cX4_credit 27 = .ok (.astore 7, 2) := by decide +kernel
theorem dX4_credit_29 : decode cX4_credit 29 = .ok (.aload 7, 2) := by decide +kernel
theorem dX4_credit_31 : decode cX4_credit 31 = .ok (.aload_n 0, 1) := by decide +kernel
theorem dX4_credit_32 : decode cX4_credit 32 = .ok (.getfield 76, 3) := by decide +kernel
theorem dX4_credit_35 : decode cX4_credit 35 = .ok (.iload 4, 2) := by decide +kernel
theorem dX4_credit_37 : decode cX4_credit 37 = .ok (.aload 7, 2) := by decide +kernel
theorem dX4_credit_39 : decode cX4_credit 39 = .ok (.iload 5, 2) := by decide +kernel
theorem dX4_credit_41 : decode cX4_credit 41 = .ok (.invokevirtual 121, 3) := by decide +kernel
theorem dX4_credit_44 : decode cX4_credit 44 = .ok (.iload 6, 2) := by decide +kernel
theorem dX4_credit_46 : decode cX4_credit 46 = .ok (.invokestatic 104, 3) := by decide +kernel
theorem dX4_credit_49 : decode cX4_credit 49 = .ok (.iaload, 1) := by decide +kernel
theorem dX4_credit_50 : decode cX4_credit 50 = .ok (.iload 4, 2) := by decide +kernel
theorem dX4_credit_52 : decode cX4_credit 52 = .ok (.iload 5, 2) := by decide +kernel
theorem dX4_credit_54 : decode cX4_credit 54 = .ok (.iload 6, 2) := by decide +kernel
theorem dX4_credit_56 : decode cX4_credit 56 = .ok (.invokevirtual 125, 3) := by decide +kernel
theorem dX4_credit_59 : decode cX4_credit 59 = .ok (.ireturn, 1) := by decide +kernel
theorem dX4_floor_0 : decode cX4_floor 0 = .ok (.iload_n 2, 1) := by decide +kernel
theorem dX4_floor_1 : decode cX4_floor 1 = .ok (.ifCond .ne 7, 3) := by decide +kernel
theorem dX4_floor_4 : decode cX4_floor 4 = .ok (.iconst (-1), 1) := by decide +kernel
theorem dX4_floor_5 : decode cX4_floor 5 = .ok (.goto 16, 3) := by decide +kernel
theorem dX4_floor_8 : decode cX4_floor 8 = .ok (.aload_n 0, 1) := by decide +kernel
theorem dX4_floor_9 : decode cX4_floor 9 = .ok (.iload_n 1, 1) := by decide +kernel
theorem dX4_floor_10 : decode cX4_floor 10 = .ok (.iload_n 2, 1) := by decide +kernel
theorem dX4_floor_11 : decode cX4_floor 11 = .ok (.iload_n 3, 1) := by decide +kernel
theorem dX4_floor_12 : decode cX4_floor 12 = .ok (.invokevirtual 129, 3) := by decide +kernel
theorem dX4_floor_15 : decode cX4_floor 15 = .ok (.iconst 0, 1) := by decide +kernel
theorem dX4_floor_16 : decode cX4_floor 16 = .ok (.bipush 9, 2) := by decide +kernel
theorem dX4_floor_18 : decode cX4_floor 18 = .ok (.invokestatic 131, 3) := by decide +kernel
theorem dX4_floor_21 : decode cX4_floor 21 = .ok (.ireturn, 1) := by decide +kernel
theorem dX4_crowdFloor_0 : decode cX4_crowdFloor 0 = .ok (.iconst 0, 1) := by decide +kernel
theorem dX4_crowdFloor_1 : decode cX4_crowdFloor 1 = .ok (.istore_n 2, 1) := by decide +kernel
theorem dX4_crowdFloor_2 : decode cX4_crowdFloor 2 = .ok (.iconst 0, 1) := by decide +kernel
theorem dX4_crowdFloor_3 : decode cX4_crowdFloor 3 = .ok (.istore_n 3, 1) := by decide +kernel
theorem dX4_crowdFloor_4 : decode cX4_crowdFloor 4 = .ok (.iconst 0, 1) := by decide +kernel
theorem dX4_crowdFloor_5 : decode cX4_crowdFloor 5 = .ok (.istore 4, 2) := by decide +kernel
theorem dX4_crowdFloor_7 : decode cX4_crowdFloor 7 = .ok (.iload 4, 2) := by decide +kernel
theorem dX4_crowdFloor_9 : decode cX4_crowdFloor 9 = .ok (.aload_n 0, 1) := by decide +kernel
theorem dX4_crowdFloor_10 : decode cX4_crowdFloor 10 = .ok (.getfield 30, 3) := by decide +kernel
theorem dX4_crowdFloor_13 : decode cX4_crowdFloor 13 = .ok (.if_icmp .ge 48, 3) := by decide +kernel
theorem dX4_crowdFloor_16 : decode cX4_crowdFloor 16 = .ok (.iload_n 1, 1) := by decide +kernel
theorem dX4_crowdFloor_17 : decode cX4_crowdFloor 17 = .ok (.iload 4, 2) := by decide +kernel
theorem dX4_crowdFloor_19 : decode cX4_crowdFloor 19 = .ok (.ishr, 1) := by decide +kernel
theorem dX4_crowdFloor_20 : decode cX4_crowdFloor 20 = .ok (.iconst 1, 1) := by decide +kernel
theorem dX4_crowdFloor_21 : decode cX4_crowdFloor 21 = .ok (.iand, 1) := by decide +kernel
theorem dX4_crowdFloor_22 : decode cX4_crowdFloor 22 = .ok (.ifCond .eq 33, 3) := by decide +kernel
theorem dX4_crowdFloor_25 : decode cX4_crowdFloor 25 = .ok (.iload_n 2, 1) := by decide +kernel
theorem dX4_crowdFloor_26 : decode cX4_crowdFloor 26 = .ok (.aload_n 0, 1) := by decide +kernel
theorem dX4_crowdFloor_27 : decode cX4_crowdFloor 27 = .ok (.iload 4, 2) := by decide +kernel
theorem dX4_crowdFloor_29 : decode cX4_crowdFloor 29 = .ok (.aload_n 0, 1) := by decide +kernel
theorem dX4_crowdFloor_30 : decode cX4_crowdFloor 30 = .ok (.getfield 39, 3) := by decide +kernel
theorem dX4_crowdFloor_33 : decode cX4_crowdFloor 33 = .ok (.iload 4, 2) := by decide +kernel
theorem dX4_crowdFloor_35 : decode cX4_crowdFloor 35 = .ok (.iaload, 1) := by decide +kernel
theorem dX4_crowdFloor_36 : decode cX4_crowdFloor 36 = .ok (.aload_n 0, 1) := by decide +kernel
theorem dX4_crowdFloor_37 : decode cX4_crowdFloor 37 = .ok (.getfield 9, 3) := by decide +kernel
theorem dX4_crowdFloor_40 : decode cX4_crowdFloor 40 = .ok (.invokevirtual 129, 3) := by decide +kernel
theorem dX4_crowdFloor_43 : decode cX4_crowdFloor 43 = .ok (.iadd, 1) := by decide +kernel
theorem dX4_crowdFloor_44 : decode cX4_crowdFloor 44 = .ok (.istore_n 2, 1) := by decide +kernel
theorem dX4_crowdFloor_45 : decode cX4_crowdFloor 45 = .ok (.iload_n 3, 1) := by decide +kernel
theorem dX4_crowdFloor_46 : decode cX4_crowdFloor 46 = .ok (.aload_n 0, 1) := by decide +kernel
theorem dX4_crowdFloor_47 : decode cX4_crowdFloor 47 = .ok (.getfield 39, 3) := by decide +kernel
theorem dX4_crowdFloor_50 : decode cX4_crowdFloor 50 = .ok (.iload 4, 2) := by decide +kernel
theorem dX4_crowdFloor_52 : decode cX4_crowdFloor 52 = .ok (.iaload, 1) := by decide +kernel
theorem dX4_crowdFloor_53 : decode cX4_crowdFloor 53 = .ok (.ior, 1) := by decide +kernel
theorem dX4_crowdFloor_54 : decode cX4_crowdFloor 54 = .ok (.istore_n 3, 1) := by decide +kernel
theorem dX4_crowdFloor_55 : decode cX4_crowdFloor 55 = .ok (.iinc 4 1, 3) := by decide +kernel
theorem dX4_crowdFloor_58 : decode cX4_crowdFloor 58 = .ok (.goto (-51), 3) := by decide +kernel
theorem dX4_crowdFloor_61 : decode cX4_crowdFloor 61 = .ok (.iload_n 3, 1) := by decide +kernel
theorem dX4_crowdFloor_62 : decode cX4_crowdFloor 62 = .ok (.ifCond .ne 5, 3) := by decide +kernel
theorem dX4_crowdFloor_65 : decode cX4_crowdFloor 65 = .ok (.iconst (-1), 1) := by decide +kernel
theorem dX4_crowdFloor_66 : decode cX4_crowdFloor 66 = .ok (.ireturn, 1) := by decide +kernel
theorem dX4_crowdFloor_67 : decode cX4_crowdFloor 67 = .ok (.iload_n 3, 1) := by decide +kernel
theorem dX4_crowdFloor_68 : decode cX4_crowdFloor 68 = .ok (.iload_n 3, 1) := by decide +kernel
theorem dX4_crowdFloor_69 : decode cX4_crowdFloor 69 = .ok (.bipush 8, 2) := by decide +kernel
theorem dX4_crowdFloor_71 : decode cX4_crowdFloor 71 = .ok (.ishr, 1) := by decide +kernel
theorem dX4_crowdFloor_72 : decode cX4_crowdFloor 72 = .ok (.iand, 1) := by decide +kernel
theorem dX4_crowdFloor_73 : decode cX4_crowdFloor 73 = .ok (.invokestatic 134, 3) := by decide +kernel
theorem dX4_crowdFloor_76 : decode cX4_crowdFloor 76 = .ok (.istore 4, 2) := by decide +kernel
theorem dX4_crowdFloor_78 : decode cX4_crowdFloor 78 = .ok (.aload_n 0, 1) := by decide +kernel
theorem dX4_crowdFloor_79 : decode cX4_crowdFloor 79 = .ok (.getfield 73, 3) := by decide +kernel
theorem dX4_crowdFloor_82 : decode cX4_crowdFloor 82 = .ok (.iload_n 2, 1) := by decide +kernel
theorem dX4_crowdFloor_83 : decode cX4_crowdFloor 83 = .ok (.iload_n 1, 1) := by decide +kernel
theorem dX4_crowdFloor_84 : decode cX4_crowdFloor 84 = .ok (.invokestatic 134, 3) := by decide +kernel
theorem dX4_crowdFloor_87 : decode cX4_crowdFloor 87 = .ok (.iload 4, 2) := by decide +kernel
theorem dX4_crowdFloor_89 : decode cX4_crowdFloor 89 = .ok (.invokevirtual 108, 3) := by decide +kernel
theorem dX4_crowdFloor_92 : decode cX4_crowdFloor 92 = .ok (.istore 5, 2) := by decide +kernel
theorem dX4_crowdFloor_94 : decode cX4_crowdFloor 94 = .ok (.iload 5, 2) := by decide +kernel
theorem dX4_crowdFloor_96 : decode cX4_crowdFloor 96 = .ok (.iconst 0, 1) := by decide +kernel
theorem dX4_crowdFloor_97 : decode cX4_crowdFloor 97 = .ok (.bipush 9, 2) := by decide +kernel
theorem dX4_crowdFloor_99 : decode cX4_crowdFloor 99 = .ok (.invokestatic 131, 3) := by decide +kernel
theorem dX4_crowdFloor_102 : decode cX4_crowdFloor 102 = .ok (.ireturn, 1) := by decide +kernel
theorem dX4_hasFloors_0 : decode cX4_hasFloors 0 = .ok (.iconst 0, 1) := by decide +kernel
theorem dX4_hasFloors_1 : decode cX4_hasFloors 1 = .ok (.istore_n 3, 1) := by decide +kernel
theorem dX4_hasFloors_2 : decode cX4_hasFloors 2 = .ok (.iload_n 3, 1) := by decide +kernel
theorem dX4_hasFloors_3 : decode cX4_hasFloors 3 = .ok (.aload_n 1, 1) := by decide +kernel
theorem dX4_hasFloors_4 : decode cX4_hasFloors 4 = .ok (.getfield 139, 3) := by decide +kernel
theorem dX4_hasFloors_7 : decode cX4_hasFloors 7 = .ok (.if_icmp .ge 40, 3) := by decide +kernel
theorem dX4_hasFloors_10 : decode cX4_hasFloors 10 = .ok (.iload_n 3, 1) := by decide +kernel
theorem dX4_hasFloors_11 : decode cX4_hasFloors 11 = .ok (.aload_n 0, 1) := by decide +kernel
theorem dX4_hasFloors_12 : decode cX4_hasFloors 12 = .ok (.getfield 30, 3) := by decide +kernel
theorem dX4_hasFloors_15 : decode cX4_hasFloors 15 = .ok (.if_icmp .ge 32, 3) := by decide +kernel
theorem dX4_hasFloors_18 : decode cX4_hasFloors 18 = .ok (.aload_n 0, 1) := by decide +kernel
theorem dX4_hasFloors_19 : decode cX4_hasFloors 19 = .ok (.iload_n 3, 1) := by decide +kernel
theorem dX4_hasFloors_20 : decode cX4_hasFloors 20 = .ok (.aload_n 0, 1) := by decide +kernel
theorem dX4_hasFloors_21 : decode cX4_hasFloors 21 = .ok (.getfield 39, 3) := by decide +kernel
theorem dX4_hasFloors_24 : decode cX4_hasFloors 24 = .ok (.iload_n 3, 1) := by decide +kernel
theorem dX4_hasFloors_25 : decode cX4_hasFloors 25 = .ok (.iaload, 1) := by decide +kernel
theorem dX4_hasFloors_26 : decode cX4_hasFloors 26 = .ok (.iload_n 2, 1) := by decide +kernel
theorem dX4_hasFloors_27 : decode cX4_hasFloors 27 = .ok (.invokevirtual 144, 3) := by decide +kernel
theorem dX4_hasFloors_30 : decode cX4_hasFloors 30 = .ok (.aload_n 1, 1) := by decide +kernel
theorem dX4_hasFloors_31 : decode cX4_hasFloors 31 = .ok (.getfield 147, 3) := by decide +kernel
theorem dX4_hasFloors_34 : decode cX4_hasFloors 34 = .ok (.iload_n 3, 1) := by decide +kernel
theorem dX4_hasFloors_35 : decode cX4_hasFloors 35 = .ok (.iaload, 1) := by decide +kernel
theorem dX4_hasFloors_36 : decode cX4_hasFloors 36 = .ok (.if_icmp .eq 5, 3) := by decide +kernel
theorem dX4_hasFloors_39 : decode cX4_hasFloors 39 = .ok (.iconst 0, 1) := by decide +kernel
theorem dX4_hasFloors_40 : decode cX4_hasFloors 40 = .ok (.ireturn, 1) := by decide +kernel
theorem dX4_hasFloors_41 : decode cX4_hasFloors 41 = .ok (.iinc 3 1, 3) := by decide +kernel
theorem dX4_hasFloors_44 : decode cX4_hasFloors 44 = .ok (.goto (-42), 3) := by decide +kernel
theorem dX4_hasFloors_47 : decode cX4_hasFloors 47 = .ok (.iconst 1, 1) := by decide +kernel
theorem dX4_hasFloors_48 : decode cX4_hasFloors 48 = .ok (.ireturn, 1) := by decide +kernel
theorem dX4_afterRide_0 : decode cX4_afterRide 0 = .ok (.aload_n 0, 1) := by decide +kernel
theorem dX4_afterRide_1 : decode cX4_afterRide 1 = .ok (.getfield 39, 3) := by decide +kernel
theorem dX4_afterRide_4 : decode cX4_afterRide 4 = .ok (.iload_n 1, 1) := by decide +kernel
theorem dX4_afterRide_5 : decode cX4_afterRide 5 = .ok (.iaload, 1) := by decide +kernel
theorem dX4_afterRide_6 : decode cX4_afterRide 6 = .ok (.istore_n 3, 1) := by decide +kernel
theorem dX4_afterRide_7 : decode cX4_afterRide 7 = .ok (.aload_n 0, 1) := by decide +kernel
theorem dX4_afterRide_8 : decode cX4_afterRide 8 = .ok (.iload_n 1, 1) := by decide +kernel
theorem dX4_afterRide_9 : decode cX4_afterRide 9 = .ok (.iload_n 3, 1) := by decide +kernel
theorem dX4_afterRide_10 : decode cX4_afterRide 10 = .ok (.iload_n 2, 1) := by decide +kernel
theorem dX4_afterRide_11 : decode cX4_afterRide 11 = .ok (.invokevirtual 144, 3) := by decide +kernel
theorem dX4_afterRide_14 : decode cX4_afterRide 14 = .ok (.istore 4, 2) := by decide +kernel
theorem dX4_afterRide_16 : decode cX4_afterRide 16 = .ok (.iload 4, 2) := by decide +kernel
theorem dX4_afterRide_18 : decode cX4_afterRide 18 = .ok (.aload_n 0, 1) := by decide +kernel
theorem dX4_afterRide_19 : decode cX4_afterRide 19 = .ok (.getfield 18, 3) := by decide +kernel
theorem dX4_afterRide_22 : decode cX4_afterRide 22 = .ok (.if_icmp .ge 5, 3) := by decide +kernel
theorem dX4_afterRide_25 : decode cX4_afterRide 25 = .ok (.iload_n 2, 1) := by decide +kernel
theorem dX4_afterRide_26 : decode cX4_afterRide 26 = .ok (.ireturn, 1) := by decide +kernel
theorem dX4_afterRide_27 : decode cX4_afterRide 27 = .ok (.iload_n 3, 1) := by decide +kernel
theorem dX4_afterRide_28 : decode cX4_afterRide 28 = .ok (.iload_n 2, 1) := by decide +kernel
theorem dX4_afterRide_29 : decode cX4_afterRide 29 = .ok (.invokestatic 150, 3) := by decide +kernel
theorem dX4_afterRide_32 : decode cX4_afterRide 32 = .ok (.invokestatic 153, 3) := by decide +kernel
theorem dX4_afterRide_35 : decode cX4_afterRide 35 = .ok (.iconst (-1), 1) := by decide +kernel
theorem dX4_afterRide_36 : decode cX4_afterRide 36 = .ok (.ixor, 1) := by decide +kernel
theorem dX4_afterRide_37 : decode cX4_afterRide 37 = .ok (.iand, 1) := by decide +kernel
theorem dX4_afterRide_38 : decode cX4_afterRide 38 = .ok (.istore 5, 2) := by decide +kernel
theorem dX4_afterRide_40 : decode cX4_afterRide 40 = .ok (.iload 4, 2) := by decide +kernel
theorem dX4_afterRide_42 : decode cX4_afterRide 42 = .ok (.iconst 2, 1) := by decide +kernel
theorem dX4_afterRide_43 : decode cX4_afterRide 43 = .ok (.aload_n 0, 1) := by decide +kernel
theorem dX4_afterRide_44 : decode cX4_afterRide 44 = .ok (.getfield 18, 3) := by decide +kernel
theorem dX4_afterRide_47 : decode cX4_afterRide 47 = .ok (.imul, 1) := by decide +kernel
theorem dX4_afterRide_48 : decode cX4_afterRide 48 = .ok (.if_icmp .lt 12, 3) := by decide +kernel
theorem dX4_afterRide_51 : decode cX4_afterRide 51 = .ok (.iload_n 2, 1) := by decide +kernel
theorem dX4_afterRide_52 : decode cX4_afterRide 52 = .ok (.iload_n 3, 1) := by decide +kernel
theorem dX4_afterRide_53 : decode cX4_afterRide 53 = .ok (.invokestatic 156, 3) := by decide +kernel
theorem dX4_afterRide_56 : decode cX4_afterRide 56 = .ok (.iand, 1) := by decide +kernel
theorem dX4_afterRide_57 : decode cX4_afterRide 57 = .ok (.goto 4, 3) := by decide +kernel
theorem dX4_afterRide_60 : decode cX4_afterRide 60 = .ok (.iconst 0, 1) := by decide +kernel
theorem dX4_afterRide_61 : decode cX4_afterRide 61 = .ok (.istore 6, 2) := by decide +kernel
theorem dX4_afterRide_63 : decode cX4_afterRide 63 = .ok (.iload_n 2, 1) := by decide +kernel
theorem dX4_afterRide_64 : decode cX4_afterRide 64 = .ok (.iload 6, 2) := by decide +kernel
theorem dX4_afterRide_66 : decode cX4_afterRide 66 = .ok (.iconst (-1), 1) := by decide +kernel
theorem dX4_afterRide_67 : decode cX4_afterRide 67 = .ok (.ixor, 1) := by decide +kernel
theorem dX4_afterRide_68 : decode cX4_afterRide 68 = .ok (.iand, 1) := by decide +kernel
theorem dX4_afterRide_69 : decode cX4_afterRide 69 = .ok (.iload 5, 2) := by decide +kernel
theorem dX4_afterRide_71 : decode cX4_afterRide 71 = .ok (.ior, 1) := by decide +kernel
theorem dX4_afterRide_72 : decode cX4_afterRide 72 = .ok (.ireturn, 1) := by decide +kernel
theorem dX4_afterDay_0 : decode cX4_afterDay 0 = .ok (.iload_n 1, 1) := by decide +kernel
theorem dX4_afterDay_1 : decode cX4_afterDay 1 = .ok (.istore_n 2, 1) := by decide +kernel
theorem dX4_afterDay_2 : decode cX4_afterDay 2 = .ok (.iconst 0, 1) := by decide +kernel
theorem dX4_afterDay_3 : decode cX4_afterDay 3 = .ok (.istore_n 3, 1) := by decide +kernel
theorem dX4_afterDay_4 : decode cX4_afterDay 4 = .ok (.iload_n 3, 1) := by decide +kernel
theorem dX4_afterDay_5 : decode cX4_afterDay 5 = .ok (.aload_n 0, 1) := by decide +kernel
theorem dX4_afterDay_6 : decode cX4_afterDay 6 = .ok (.getfield 30, 3) := by decide +kernel
theorem dX4_afterDay_9 : decode cX4_afterDay 9 = .ok (.if_icmp .ge 16, 3) := by decide +kernel
theorem dX4_afterDay_12 : decode cX4_afterDay 12 = .ok (.aload_n 0, 1) := by decide +kernel
theorem dX4_afterDay_13 : decode cX4_afterDay 13 = .ok (.iload_n 3, 1) := by decide +kernel
theorem dX4_afterDay_14 : decode cX4_afterDay 14 = .ok (.iload_n 2, 1) := by decide +kernel
theorem dX4_afterDay_15 : decode cX4_afterDay 15 = .ok (.invokevirtual 159, 3) := by decide +kernel
theorem dX4_afterDay_18 : decode cX4_afterDay 18 = .ok (.istore_n 2, 1) := by decide +kernel
theorem dX4_afterDay_19 : decode cX4_afterDay 19 = .ok (.iinc 3 1, 3) := by decide +kernel
theorem dX4_afterDay_22 : decode cX4_afterDay 22 = .ok (.goto (-18), 3) := by decide +kernel
theorem dX4_afterDay_25 : decode cX4_afterDay 25 = .ok (.iload_n 2, 1) := by decide +kernel
theorem dX4_afterDay_26 : decode cX4_afterDay 26 = .ok (.ireturn, 1) := by decide +kernel
theorem dX4_countDays_0 : decode cX4_countDays 0 = .ok (.aload_n 0, 1) := by decide +kernel
theorem dX4_countDays_1 : decode cX4_countDays 1 = .ok (.dup, 1) := by decide +kernel
theorem dX4_countDays_2 : decode cX4_countDays 2 = .ok (.getfield 21, 3) := by decide +kernel
theorem dX4_countDays_5 : decode cX4_countDays 5 = .ok (.iload_n 1, 1) := by decide +kernel
theorem dX4_countDays_6 : decode cX4_countDays 6 = .ok (.iadd, 1) := by decide +kernel
theorem dX4_countDays_7 : decode cX4_countDays 7 = .ok (.putfield 21, 3) := by decide +kernel
theorem dX4_countDays_10 : decode cX4_countDays 10 = .ok (.aload_n 0, 1) := by decide +kernel
theorem dX4_countDays_11 : decode cX4_countDays 11 = .ok (.iload_n 1, 1) := by decide +kernel
theorem dX4_countDays_12 : decode cX4_countDays 12 = .ok (.aload_n 0, 1) := by decide +kernel
theorem dX4_countDays_13 : decode cX4_countDays 13 = .ok (.getfield 30, 3) := by decide +kernel
theorem dX4_countDays_16 : decode cX4_countDays 16 = .ok (.imul, 1) := by decide +kernel
theorem dX4_countDays_17 : decode cX4_countDays 17 = .ok (.invokevirtual 162, 3) := by decide +kernel
theorem dX4_countDays_20 : decode cX4_countDays 20 = .ok (.return_, 1) := by decide +kernel
theorem dX4_countRides_0 : decode cX4_countRides 0 = .ok (.aload_n 0, 1) := by decide +kernel
theorem dX4_countRides_1 : decode cX4_countRides 1 = .ok (.sipush 9999, 3) := by decide +kernel
theorem dX4_countRides_4 : decode cX4_countRides 4 = .ok (.aload_n 0, 1) := by decide +kernel
theorem dX4_countRides_5 : decode cX4_countRides 5 = .ok (.getfield 24, 3) := by decide +kernel
theorem dX4_countRides_8 : decode cX4_countRides 8 = .ok (.iload_n 1, 1) := by decide +kernel
theorem dX4_countRides_9 : decode cX4_countRides 9 = .ok (.iadd, 1) := by decide +kernel
theorem dX4_countRides_10 : decode cX4_countRides 10 = .ok (.invokestatic 166, 3) := by decide +kernel
theorem dX4_countRides_13 : decode cX4_countRides 13 = .ok (.putfield 24, 3) := by decide +kernel
theorem dX4_countRides_16 : decode cX4_countRides 16 = .ok (.return_, 1) := by decide +kernel
theorem dX4_draw_0 : decode cX4_draw 0 = .ok (.aload_n 0, 1) := by decide +kernel
theorem dX4_draw_1 : decode cX4_draw 1 = .ok (.aload_n 0, 1) := by decide +kernel
theorem dX4_draw_2 : decode cX4_draw 2 = .ok (.getfield 27, 3) := by decide +kernel
theorem dX4_draw_5 : decode cX4_draw 5 = .ok (.ldc 171, 2) := by decide +kernel
theorem dX4_draw_7 : decode cX4_draw 7 = .ok (.imul, 1) := by decide +kernel
theorem dX4_draw_8 : decode cX4_draw 8 = .ok (.sipush 12345, 3) := by decide +kernel
theorem dX4_draw_11 : decode cX4_draw 11 = .ok (.iadd, 1) := by decide +kernel
theorem dX4_draw_12 : decode cX4_draw 12 = .ok (.putfield 27, 3) := by decide +kernel
theorem dX4_draw_15 : decode cX4_draw 15 = .ok (.aload_n 0, 1) := by decide +kernel
theorem dX4_draw_16 : decode cX4_draw 16 = .ok (.getfield 27, 3) := by decide +kernel
theorem dX4_draw_19 : decode cX4_draw 19 = .ok (.bipush 8, 2) := by decide +kernel
theorem dX4_draw_21 : decode cX4_draw 21 = .ok (.iushr, 1) := by decide +kernel
theorem dX4_draw_22 : decode cX4_draw 22 = .ok (.ireturn, 1) := by decide +kernel
theorem dX5_init_0 : decode cX5_init 0 = .ok (.aload_n 0, 1) := by decide +kernel
theorem dX5_init_1 : decode cX5_init 1 = .ok (.iload_n 1, 1) := by decide +kernel
theorem dX5_init_2 : decode cX5_init 2 = .ok (.iload_n 2, 1) := by decide +kernel
theorem dX5_init_3 : decode cX5_init 3 = .ok (.iload_n 3, 1) := by decide +kernel
theorem dX5_init_4 : decode cX5_init 4 = .ok (.invokespecial 1, 3) := by decide +kernel
theorem dX5_init_7 : decode cX5_init 7 = .ok (.return_, 1) := by decide +kernel
theorem dX5_credit_0 : decode cX5_credit 0 = .ok (.aload_n 0, 1) := by decide +kernel
theorem dX5_credit_1 : decode cX5_credit 1 = .ok (.iload_n 1, 1) := by decide +kernel
theorem dX5_credit_2 : decode cX5_credit 2 = .ok (.iload_n 2, 1) := by decide +kernel
theorem dX5_credit_3 : decode cX5_credit 3 = .ok (.iload_n 3, 1) := by decide +kernel
theorem dX5_credit_4 : decode cX5_credit 4 = .ok (.iload 4, 2) := by decide +kernel
theorem dX5_credit_6 : decode cX5_credit 6 = .ok (.invokespecial 7, 3) := by decide +kernel
theorem dX5_credit_9 : decode cX5_credit 9 = .ok (.iload 4, 2) := by decide +kernel
theorem dX5_credit_11 : decode cX5_credit 11 = .ok (.iadd, 1) := by decide +kernel
theorem dX5_credit_12 : decode cX5_credit 12 = .ok (.ireturn, 1) := by decide +kernel
theorem dX5_rises_0 : decode cX5_rises 0 = .ok (.aload_n 1, 1) := by decide +kernel
theorem dX5_rises_1 : decode cX5_rises 1 = .ok (.bipush 60, 2) := by decide +kernel
theorem dX5_rises_3 : decode cX5_rises 3 = .ok (.invokevirtual 11, 3) := by decide +kernel
theorem dX5_rises_6 : decode cX5_rises 6 = .ok (.aload_n 0, 1) := by decide +kernel
theorem dX5_rises_7 : decode cX5_rises 7 = .ok (.aload_n 1, 1) := by decide +kernel
theorem dX5_rises_8 : decode cX5_rises 8 = .ok (.iload_n 2, 1) := by decide +kernel
theorem dX5_rises_9 : decode cX5_rises 9 = .ok (.iconst 1, 1) := by decide +kernel
theorem dX5_rises_10 : decode cX5_rises 10 = .ok (.iadd, 1) := by decide +kernel
theorem dX5_rises_11 : decode cX5_rises 11 = .ok (.invokespecial 17, 3) := by decide +kernel
theorem dX5_rises_14 : decode cX5_rises 14 = .ok (.ireturn, 1) := by decide +kernel
theorem dX6_init_0 : decode cX6_init 0 = .ok (.aload_n 0, 1) := by decide +kernel
theorem dX6_init_1 : decode cX6_init 1 = .ok (.invokespecial 1, 3) := by decide +kernel
theorem dX6_init_4 : decode cX6_init 4 = .ok (.aload_n 0, 1) := by decide +kernel
theorem dX6_init_5 : decode cX6_init 5 = .ok (.iload_n 1, 1) := by decide +kernel
theorem dX6_init_6 : decode cX6_init 6 = .ok (.putfield 7, 3) := by decide +kernel
theorem dX6_init_9 : decode cX6_init 9 = .ok (.aload_n 0, 1) := by decide +kernel
theorem dX6_init_10 : decode cX6_init 10 = .ok (.iload_n 2, 1) := by decide +kernel
theorem dX6_init_11 : decode cX6_init 11 = .ok (.putfield 13, 3) := by decide +kernel
theorem dX6_init_14 : decode cX6_init 14 = .ok (.aload_n 0, 1) := by decide +kernel
theorem dX6_init_15 : decode cX6_init 15 = .ok (.iload_n 3, 1) := by decide +kernel
theorem dX6_init_16 : decode cX6_init 16 = .ok (.putfield 16, 3) := by decide +kernel
theorem dX6_init_19 : decode cX6_init 19 = .ok (.return_, 1) := by decide +kernel
theorem dX6_counted_0 : decode cX6_counted 0 = .ok (.iload_n 1, 1) := by decide +kernel
theorem dX6_counted_1 : decode cX6_counted 1 = .ok (.ireturn, 1) := by decide +kernel
theorem dX6_credit_0 : decode cX6_credit 0 = .ok (.iload_n 1, 1) := by decide +kernel
theorem dX6_credit_1 : decode cX6_credit 1 = .ok (.ireturn, 1) := by decide +kernel
theorem dX6_says_0 : decode cX6_says 0 = .ok (.aload_n 1, 1) := by decide +kernel
theorem dX6_says_1 : decode cX6_says 1 = .ok (.bipush 10, 2) := by decide +kernel
theorem dX6_says_3 : decode cX6_says 3 = .ok (.invokevirtual 19, 3) := by decide +kernel
theorem dX6_says_6 : decode cX6_says 6 = .ok (.iload_n 2, 1) := by decide +kernel
theorem dX6_says_7 : decode cX6_says 7 = .ok (.aload_n 0, 1) := by decide +kernel
theorem dX6_says_8 : decode cX6_says 8 = .ok (.getfield 16, 3) := by decide +kernel
theorem dX6_says_11 : decode cX6_says 11 = .ok (.iadd, 1) := by decide +kernel
theorem dX6_says_12 : decode cX6_says 12 = .ok (.ireturn, 1) := by decide +kernel
theorem dX6_rises_0 : decode cX6_rises 0 = .ok (.aload_n 1, 1) := by decide +kernel
theorem dX6_rises_1 : decode cX6_rises 1 = .ok (.bipush 11, 2) := by decide +kernel
theorem dX6_rises_3 : decode cX6_rises 3 = .ok (.invokevirtual 19, 3) := by decide +kernel
theorem dX6_rises_6 : decode cX6_rises 6 = .ok (.aload_n 0, 1) := by decide +kernel
theorem dX6_rises_7 : decode cX6_rises 7 = .ok (.aload_n 1, 1) := by decide +kernel
theorem dX6_rises_8 : decode cX6_rises 8 = .ok (.iload_n 2, 1) := by decide +kernel
theorem dX6_rises_9 : decode cX6_rises 9 = .ok (.invokevirtual 25, 3) := by decide +kernel
theorem dX6_rises_12 : decode cX6_rises 12 = .ok (.iconst 2, 1) := by decide +kernel
theorem dX6_rises_13 : decode cX6_rises 13 = .ok (.imul, 1) := by decide +kernel
theorem dX6_rises_14 : decode cX6_rises 14 = .ok (.ireturn, 1) := by decide +kernel
theorem dX6_doubts_0 : decode cX6_doubts 0 = .ok (.aload_n 1, 1) := by decide +kernel
theorem dX6_doubts_1 : decode cX6_doubts 1 = .ok (.bipush 12, 2) := by decide +kernel
theorem dX6_doubts_3 : decode cX6_doubts 3 = .ok (.invokevirtual 19, 3) := by decide +kernel
theorem dX6_doubts_6 : decode cX6_doubts 6 = .ok (.iload_n 2, 1) := by decide +kernel
theorem dX6_doubts_7 : decode cX6_doubts 7 = .ok (.aload_n 0, 1) := by decide +kernel
theorem dX6_doubts_8 : decode cX6_doubts 8 = .ok (.getfield 13, 3) := by decide +kernel
theorem dX6_doubts_11 : decode cX6_doubts 11 = .ok (.isub, 1) := by decide +kernel
theorem dX6_doubts_12 : decode cX6_doubts 12 = .ok (.ireturn, 1) := by decide +kernel
theorem dX6_tells_0 : decode cX6_tells 0 = .ok (.aload_n 1, 1) := by decide +kernel
theorem dX6_tells_1 : decode cX6_tells 1 = .ok (.bipush 13, 2) := by decide +kernel
theorem dX6_tells_3 : decode cX6_tells 3 = .ok (.invokevirtual 19, 3) := by decide +kernel
theorem dX6_tells_6 : decode cX6_tells 6 = .ok (.aload_n 0, 1) := by decide +kernel
theorem dX6_tells_7 : decode cX6_tells 7 = .ok (.aload_n 1, 1) := by decide +kernel
theorem dX6_tells_8 : decode cX6_tells 8 = .ok (.iload_n 2, 1) := by decide +kernel
theorem dX6_tells_9 : decode cX6_tells 9 = .ok (.invokevirtual 29, 3) := by decide +kernel
theorem dX6_tells_12 : decode cX6_tells 12 = .ok (.aload_n 0, 1) := by decide +kernel
theorem dX6_tells_13 : decode cX6_tells 13 = .ok (.aload_n 1, 1) := by decide +kernel
theorem dX6_tells_14 : decode cX6_tells 14 = .ok (.iload_n 2, 1) := by decide +kernel
theorem dX6_tells_15 : decode cX6_tells 15 = .ok (.invokevirtual 32, 3) := by decide +kernel
theorem dX6_tells_18 : decode cX6_tells 18 = .ok (.ixor, 1) := by decide +kernel
theorem dX6_tells_19 : decode cX6_tells 19 = .ok (.ireturn, 1) := by decide +kernel
theorem dX7_init_0 : decode cX7_init 0 = .ok (.aload_n 0, 1) := by decide +kernel
theorem dX7_init_1 : decode cX7_init 1 = .ok (.invokespecial 3, 3) := by decide +kernel
theorem dX7_init_4 : decode cX7_init 4 = .ok (.aload_n 0, 1) := by decide +kernel
theorem dX7_init_5 : decode cX7_init 5 = .ok (.bipush 40, 2) := by decide +kernel
theorem dX7_init_7 : decode cX7_init 7 = .ok (.newarray .int, 2) := by decide +kernel
theorem dX7_init_9 : decode cX7_init 9 = .ok (.putfield 9, 3) := by decide +kernel
theorem dX7_init_12 : decode cX7_init 12 = .ok (.aload_n 0, 1) := by decide +kernel
theorem dX7_init_13 : decode cX7_init 13 = .ok (.iconst 0, 1) := by decide +kernel
theorem dX7_init_14 : decode cX7_init 14 = .ok (.putfield 15, 3) := by decide +kernel
theorem dX7_init_17 : decode cX7_init 17 = .ok (.aload_n 0, 1) := by decide +kernel
theorem dX7_init_18 : decode cX7_init 18 = .ok (.iconst 0, 1) := by decide +kernel
theorem dX7_init_19 : decode cX7_init 19 = .ok (.putfield 19, 3) := by decide +kernel
theorem dX7_init_22 : decode cX7_init 22 = .ok (.return_, 1) := by decide +kernel
theorem dX7_isMissing_0 : decode cX7_isMissing 0 = .ok (.aload_n 0, 1) := by decide +kernel
theorem dX7_isMissing_1 : decode cX7_isMissing 1 = .ok (.getfield 15, 3) := by decide +kernel
theorem dX7_isMissing_4 : decode cX7_isMissing 4 = .ok (.ifCond .ne 7, 3) := by decide +kernel
theorem dX7_isMissing_7 : decode cX7_isMissing 7 = .ok (.iconst 1, 1) := by decide +kernel
theorem dX7_isMissing_8 : decode cX7_isMissing 8 = .ok (.goto 4, 3) := by decide +kernel
theorem dX7_isMissing_11 : decode cX7_isMissing 11 = .ok (.iconst 0, 1) := by decide +kernel
theorem dX7_isMissing_12 : decode cX7_isMissing 12 = .ok (.ireturn, 1) := by decide +kernel
theorem dX7_renew_0 : decode cX7_renew 0 = .ok (.aload_n 0, 1) := by decide +kernel
theorem dX7_renew_1 : decode cX7_renew 1 = .ok (.getfield 9, 3) := by decide +kernel
theorem dX7_renew_4 : decode cX7_renew 4 = .ok (.iconst 0, 1) := by decide +kernel
theorem dX7_renew_5 : decode cX7_renew 5 = .ok (.invokestatic 22, 3) := by decide +kernel
theorem dX7_renew_8 : decode cX7_renew 8 = .ok (.aload_n 0, 1) := by decide +kernel
theorem dX7_renew_9 : decode cX7_renew 9 = .ok (.iload_n 1, 1) := by decide +kernel
theorem dX7_renew_10 : decode cX7_renew 10 = .ok (.putfield 15, 3) := by decide +kernel
theorem dX7_renew_13 : decode cX7_renew 13 = .ok (.aload_n 0, 1) := by decide +kernel
theorem dX7_renew_14 : decode cX7_renew 14 = .ok (.iload_n 2, 1) := by decide +kernel
theorem dX7_renew_15 : decode cX7_renew 15 = .ok (.iconst 0, 1) := by decide +kernel
theorem dX7_renew_16 : decode cX7_renew 16 = .ok (.bipush 40, 2) := by decide +kernel
theorem dX7_renew_18 : decode cX7_renew 18 = .ok (.invokestatic 28, 3) := by decide +kernel
theorem dX7_renew_21 : decode cX7_renew 21 = .ok (.putfield 19, 3) := by decide +kernel
theorem dX7_renew_24 : decode cX7_renew 24 = .ok (.return_, 1) := by decide +kernel
theorem dX7_cut_0 : decode cX7_cut 0 = .ok (.aload_n 0, 1) := by decide +kernel
theorem dX7_cut_1 : decode cX7_cut 1 = .ok (.getfield 15, 3) := by decide +kernel
theorem dX7_cut_4 : decode cX7_cut 4 = .ok (.bipush 8, 2) := by decide +kernel
theorem dX7_cut_6 : decode cX7_cut 6 = .ok (.if_icmp .ne 6, 3) := by decide +kernel
theorem dX7_cut_9 : decode cX7_cut 9 = .ok (.iload_n 1, 1) := by decide +kernel
theorem dX7_cut_10 : decode cX7_cut 10 = .ok (.i2b, 1) := by decide +kernel
theorem dX7_cut_11 : decode cX7_cut 11 = .ok (.ireturn, 1) := by decide +kernel
theorem dX7_cut_12 : decode cX7_cut 12 = .ok (.aload_n 0, 1) := by decide +kernel
theorem dX7_cut_13 : decode cX7_cut 13 = .ok (.getfield 15, 3) := by decide +kernel
theorem dX7_cut_16 : decode cX7_cut 16 = .ok (.bipush 16, 2) := by decide +kernel
theorem dX7_cut_18 : decode cX7_cut 18 = .ok (.if_icmp .ne 8, 3) := by decide +kernel
theorem dX7_cut_21 : decode cX7_cut 21 = .ok (.iload_n 1, 1) := by decide +kernel
theorem dX7_cut_22 : decode cX7_cut 22 = .ok (.i2s, 1) := by decide +kernel
theorem dX7_cut_23 : decode cX7_cut 23 = .ok (.goto 4, 3) := by decide +kernel
theorem dX7_cut_26 : decode cX7_cut 26 = .ok (.iload_n 1, 1) := by decide +kernel
theorem dX7_cut_27 : decode cX7_cut 27 = .ok (.ireturn, 1) := by decide +kernel
theorem dX7_holds_0 : decode cX7_holds 0 = .ok (.iload_n 1, 1) := by decide +kernel
theorem dX7_holds_1 : decode cX7_holds 1 = .ok (.ifCond .lt 29, 3) := by decide +kernel
theorem dX7_holds_4 : decode cX7_holds 4 = .ok (.iload_n 2, 1) := by decide +kernel
theorem dX7_holds_5 : decode cX7_holds 5 = .ok (.ifCond .lt 25, 3) := by decide +kernel
theorem dX7_holds_8 : decode cX7_holds 8 = .ok (.iload_n 2, 1) := by decide +kernel
theorem dX7_holds_9 : decode cX7_holds 9 = .ok (.aload_n 0, 1) := by decide +kernel
theorem dX7_holds_10 : decode cX7_holds 10 = .ok (.getfield 19, 3) := by decide +kernel
theorem dX7_holds_13 : decode cX7_holds 13 = .ok (.if_icmp .gt 17, 3) := by decide +kernel
theorem dX7_holds_16 : decode cX7_holds 16 = .ok (.iload_n 1, 1) := by decide +kernel
theorem dX7_holds_17 : decode cX7_holds 17 = .ok (.aload_n 0, 1) := by decide +kernel
theorem dX7_holds_18 : decode cX7_holds 18 = .ok (.getfield 19, 3) := by decide +kernel
theorem dX7_holds_21 : decode cX7_holds 21 = .ok (.iload_n 2, 1) := by decide +kernel
theorem dX7_holds_22 : decode cX7_holds 22 = .ok (.isub, 1) := by decide +kernel
theorem dX7_holds_23 : decode cX7_holds 23 = .ok (.if_icmp .gt 7, 3) := by decide +kernel
theorem dX7_holds_26 : decode cX7_holds 26 = .ok (.iconst 1, 1) := by decide +kernel
theorem dX7_holds_27 : decode cX7_holds 27 = .ok (.goto 4, 3) := by decide +kernel
theorem dX7_holds_30 : decode cX7_holds 30 = .ok (.iconst 0, 1) := by decide +kernel
theorem dX7_holds_31 : decode cX7_holds 31 = .ok (.ireturn, 1) := by decide +kernel
theorem dX8_init_0 : decode cX8_init 0 = .ok (.aload_n 0, 1) := by decide +kernel
theorem dX8_init_1 : decode cX8_init 1 = .ok (.iload_n 1, 1) := by decide +kernel
theorem dX8_init_2 : decode cX8_init 2 = .ok (.iload_n 2, 1) := by decide +kernel
theorem dX8_init_3 : decode cX8_init 3 = .ok (.iload_n 3, 1) := by decide +kernel
theorem dX8_init_4 : decode cX8_init 4 = .ok (.invokespecial 1, 3) := by decide +kernel
theorem dX8_init_7 : decode cX8_init 7 = .ok (.return_, 1) := by decide +kernel
theorem dX8_credit_0 : decode cX8_credit 0 = .ok (.aload_n 0, 1) := by decide +kernel
theorem dX8_credit_1 : decode cX8_credit 1 = .ok (.iload_n 1, 1) := by decide +kernel
theorem dX8_credit_2 : decode cX8_credit 2 = .ok (.iload_n 2, 1) := by decide +kernel
theorem dX8_credit_3 : decode cX8_credit 3 = .ok (.iload_n 3, 1) := by decide +kernel
theorem dX8_credit_4 : decode cX8_credit 4 = .ok (.iload 4, 2) := by decide +kernel
theorem dX8_credit_6 : decode cX8_credit 6 = .ok (.invokespecial 7, 3) := by decide +kernel
theorem dX8_credit_9 : decode cX8_credit 9 = .ok (.iload_n 2, 1) := by decide +kernel
theorem dX8_credit_10 : decode cX8_credit 10 = .ok (.iload_n 3, 1) := by decide +kernel
theorem dX8_credit_11 : decode cX8_credit 11 = .ok (.iadd, 1) := by decide +kernel
theorem dX8_credit_12 : decode cX8_credit 12 = .ok (.iload 4, 2) := by decide +kernel
theorem dX8_credit_14 : decode cX8_credit 14 = .ok (.iadd, 1) := by decide +kernel
theorem dX8_credit_15 : decode cX8_credit 15 = .ok (.isub, 1) := by decide +kernel
theorem dX8_credit_16 : decode cX8_credit 16 = .ok (.ireturn, 1) := by decide +kernel
theorem dX8_doubts_0 : decode cX8_doubts 0 = .ok (.aload_n 1, 1) := by decide +kernel
theorem dX8_doubts_1 : decode cX8_doubts 1 = .ok (.bipush 70, 2) := by decide +kernel
theorem dX8_doubts_3 : decode cX8_doubts 3 = .ok (.invokevirtual 11, 3) := by decide +kernel
theorem dX8_doubts_6 : decode cX8_doubts 6 = .ok (.aload_n 0, 1) := by decide +kernel
theorem dX8_doubts_7 : decode cX8_doubts 7 = .ok (.aload_n 1, 1) := by decide +kernel
theorem dX8_doubts_8 : decode cX8_doubts 8 = .ok (.iload_n 2, 1) := by decide +kernel
theorem dX8_doubts_9 : decode cX8_doubts 9 = .ok (.invokespecial 17, 3) := by decide +kernel
theorem dX8_doubts_12 : decode cX8_doubts 12 = .ok (.aload_n 0, 1) := by decide +kernel
theorem dX8_doubts_13 : decode cX8_doubts 13 = .ok (.getfield 21, 3) := by decide +kernel
theorem dX8_doubts_16 : decode cX8_doubts 16 = .ok (.ixor, 1) := by decide +kernel
theorem dX8_doubts_17 : decode cX8_doubts 17 = .ok (.ireturn, 1) := by decide +kernel
theorem dX8_tells_0 : decode cX8_tells 0 = .ok (.aload_n 1, 1) := by decide +kernel
theorem dX8_tells_1 : decode cX8_tells 1 = .ok (.bipush 71, 2) := by decide +kernel
theorem dX8_tells_3 : decode cX8_tells 3 = .ok (.invokevirtual 11, 3) := by decide +kernel
theorem dX8_tells_6 : decode cX8_tells 6 = .ok (.aload_n 0, 1) := by decide +kernel
theorem dX8_tells_7 : decode cX8_tells 7 = .ok (.aload_n 1, 1) := by decide +kernel
theorem dX8_tells_8 : decode cX8_tells 8 = .ok (.iload_n 2, 1) := by decide +kernel
theorem dX8_tells_9 : decode cX8_tells 9 = .ok (.invokevirtual 27, 3) := by decide +kernel
theorem dX8_tells_12 : decode cX8_tells 12 = .ok (.aload_n 0, 1) := by decide +kernel
theorem dX8_tells_13 : decode cX8_tells 13 = .ok (.aload_n 1, 1) := by decide +kernel
theorem dX8_tells_14 : decode cX8_tells 14 = .ok (.iload_n 2, 1) := by decide +kernel
theorem dX8_tells_15 : decode cX8_tells 15 = .ok (.invokespecial 30, 3) := by decide +kernel
theorem dX8_tells_18 : decode cX8_tells 18 = .ok (.isub, 1) := by decide +kernel
theorem dX8_tells_19 : decode cX8_tells 19 = .ok (.ireturn, 1) := by decide +kernel
theorem dX9_init_0 : decode cX9_init 0 = .ok (.aload_n 0, 1) := by decide +kernel
theorem dX9_init_1 : decode cX9_init 1 = .ok (.invokespecial 3, 3) := by decide +kernel
theorem dX9_init_4 : decode cX9_init 4 = .ok (.aload_n 0, 1) := by decide +kernel
theorem dX9_init_5 : decode cX9_init 5 = .ok (.bipush 40, 2) := by decide +kernel
theorem dX9_init_7 : decode cX9_init 7 = .ok (.newarray .int, 2) := by decide +kernel
theorem dX9_init_9 : decode cX9_init 9 = .ok (.putfield 9, 3) := by decide +kernel
theorem dX9_init_12 : decode cX9_init 12 = .ok (.aload_n 0, 1) := by decide +kernel
theorem dX9_init_13 : decode cX9_init 13 = .ok (.iconst 0, 1) := by decide +kernel
theorem dX9_init_14 : decode cX9_init 14 = .ok (.putfield 15, 3) := by decide +kernel
theorem dX9_init_17 : decode cX9_init 17 = .ok (.return_, 1) := by decide +kernel
theorem dX9_begins_0 : decode cX9_begins 0 = .ok (.aload_n 0, 1) := by decide +kernel
theorem dX9_begins_1 : decode cX9_begins 1 = .ok (.getfield 15, 3) := by decide +kernel
theorem dX9_begins_4 : decode cX9_begins 4 = .ok (.bipush 40, 2) := by decide +kernel
theorem dX9_begins_6 : decode cX9_begins 6 = .ok (.if_icmp .ge 23, 3) := by decide +kernel
theorem dX9_begins_9 : decode cX9_begins 9 = .ok (.aload_n 0, 1) := by decide +kernel
theorem dX9_begins_10 : decode cX9_begins 10 = .ok (.getfield 9, 3) := by decide +kernel
theorem dX9_begins_13 : decode cX9_begins 13 = .ok (.aload_n 0, 1) := by decide +kernel
theorem dX9_begins_14 : decode cX9_begins 14 = .ok (.getfield 15, 3) := by decide +kernel
theorem dX9_begins_17 : decode cX9_begins 17 = .ok (.iload_n 1, 1) := by decide +kernel
theorem dX9_begins_18 : decode cX9_begins 18 = .ok (.iastore, 1) := by decide +kernel
theorem dX9_begins_19 : decode cX9_begins 19 = .ok (.aload_n 0, 1) := by decide +kernel
theorem dX9_begins_20 : decode cX9_begins 20 = .ok (.dup, 1) := by decide +kernel
theorem dX9_begins_21 : decode cX9_begins 21 = .ok (.getfield 15, 3) := by decide +kernel
theorem dX9_begins_24 : decode cX9_begins 24 = .ok (.iconst 1, 1) := by decide +kernel
theorem dX9_begins_25 : decode cX9_begins 25 = .ok (.iadd, 1) := by decide +kernel
theorem dX9_begins_26 : decode cX9_begins 26 = .ok (.putfield 15, 3) := by decide +kernel
theorem dX9_begins_29 : decode cX9_begins 29 = .ok (.return_, 1) := by decide +kernel
theorem dX10_init_0 : decode cX10_init 0 = .ok (.aload_n 0, 1) := by decide +kernel
theorem dX10_init_1 : decode cX10_init 1 = .ok (.iload_n 1, 1) := by decide +kernel
theorem dX10_init_2 : decode cX10_init 2 = .ok (.iload_n 2, 1) := by decide +kernel
theorem dX10_init_3 : decode cX10_init 3 = .ok (.iload_n 3, 1) := by decide +kernel
theorem dX10_init_4 : decode cX10_init 4 = .ok (.invokespecial 1, 3) := by decide +kernel
theorem dX10_init_7 : decode cX10_init 7 = .ok (.return_, 1) := by decide +kernel
theorem dX10_credit_0 : decode cX10_credit 0 = .ok (.iload_n 3, 1) := by decide +kernel
theorem dX10_credit_1 : decode cX10_credit 1 = .ok (.ifCond .ne 9, 3) := by decide +kernel
theorem dX10_credit_4 : decode cX10_credit 4 = .ok (.iload_n 1, 1) := by decide +kernel
theorem dX10_credit_5 : decode cX10_credit 5 = .ok (.iconst 3, 1) := by decide +kernel
theorem dX10_credit_6 : decode cX10_credit 6 = .ok (.iadd, 1) := by decide +kernel
theorem dX10_credit_7 : decode cX10_credit 7 = .ok (.goto 4, 3) := by decide +kernel
theorem dX10_credit_10 : decode cX10_credit 10 = .ok (.iload_n 1, 1) := by decide +kernel
theorem dX10_credit_11 : decode cX10_credit 11 = .ok (.ireturn, 1) := by decide +kernel
theorem dX10_doubts_0 : decode cX10_doubts 0 = .ok (.aload_n 1, 1) := by decide +kernel
theorem dX10_doubts_1 : decode cX10_doubts 1 = .ok (.bipush 40, 2) := by decide +kernel
theorem dX10_doubts_3 : decode cX10_doubts 3 = .ok (.invokevirtual 7, 3) := by decide +kernel
theorem dX10_doubts_6 : decode cX10_doubts 6 = .ok (.aload_n 0, 1) := by decide +kernel
theorem dX10_doubts_7 : decode cX10_doubts 7 = .ok (.aload_n 1, 1) := by decide +kernel
theorem dX10_doubts_8 : decode cX10_doubts 8 = .ok (.iload_n 2, 1) := by decide +kernel
theorem dX10_doubts_9 : decode cX10_doubts 9 = .ok (.invokespecial 13, 3) := by decide +kernel
theorem dX10_doubts_12 : decode cX10_doubts 12 = .ok (.ineg, 1) := by decide +kernel
theorem dX10_doubts_13 : decode cX10_doubts 13 = .ok (.ireturn, 1) := by decide +kernel
theorem dX11_init_0 : decode cX11_init 0 = .ok (.aload_n 0, 1) := by decide +kernel
theorem dX11_init_1 : decode cX11_init 1 = .ok (.invokespecial 1, 3) := by decide +kernel
theorem dX11_init_4 : decode cX11_init 4 = .ok (.aload_n 0, 1) := by decide +kernel
theorem dX11_init_5 : decode cX11_init 5 = .ok (.new 7, 3) := by decide +kernel
theorem dX11_init_8 : decode cX11_init 8 = .ok (.dup, 1) := by decide +kernel
theorem dX11_init_9 : decode cX11_init 9 = .ok (.invokespecial 9, 3) := by decide +kernel
theorem dX11_init_12 : decode cX11_init 12 = .ok (.putfield 10, 3) := by decide +kernel
theorem dX11_init_15 : decode cX11_init 15 = .ok (.aload_n 0, 1) := by decide +kernel
theorem dX11_init_16 : decode cX11_init 16 = .ok (.aconst_null, 1) := by decide +kernel
theorem dX11_init_17 : decode cX11_init 17 = .ok (.putfield 16, 3) := by decide +kernel
theorem dX11_init_20 : decode cX11_init 20 = .ok (.aload_n 0, 1) := by decide +kernel
theorem dX11_init_21 : decode cX11_init 21 = .ok (.iconst 0, 1) := by decide +kernel
theorem dX11_init_22 : decode cX11_init 22 = .ok (.putfield 19, 3) := by decide +kernel
theorem dX11_init_25 : decode cX11_init 25 = .ok (.aload_n 0, 1) := by decide +kernel
theorem dX11_init_26 : decode cX11_init 26 = .ok (.iconst 4, 1) := by decide +kernel
theorem dX11_init_27 : decode cX11_init 27 = .ok (.anewarray 23, 3) := by decide +kernel
theorem dX11_init_30 : decode cX11_init 30 = .ok (.putfield 25, 3) := by decide +kernel
theorem dX11_init_33 : decode cX11_init 33 = .ok (.aload_n 0, 1) := by decide +kernel
theorem dX11_init_34 : decode cX11_init 34 = .ok (.new 29, 3) := by decide +kernel
theorem dX11_init_37 : decode cX11_init 37 = .ok (.dup, 1) := by decide +kernel
theorem dX11_init_38 : decode cX11_init 38 = .ok (.invokespecial 31, 3) := by decide +kernel
theorem dX11_init_41 : decode cX11_init 41 = .ok (.putfield 32, 3) := by decide +kernel
theorem dX11_init_44 : decode cX11_init 44 = .ok (.aload_n 0, 1) := by decide +kernel
theorem dX11_init_45 : decode cX11_init 45 = .ok (.bipush 6, 2) := by decide +kernel
theorem dX11_init_47 : decode cX11_init 47 = .ok (.newarray .int, 2) := by decide +kernel
theorem dX11_init_49 : decode cX11_init 49 = .ok (.putfield 36, 3) := by decide +kernel
theorem dX11_init_52 : decode cX11_init 52 = .ok (.iconst 0, 1) := by decide +kernel
theorem dX11_init_53 : decode cX11_init 53 = .ok (.istore_n 1, 1) := by decide +kernel
theorem dX11_init_54 : decode cX11_init 54 = .ok (.iload_n 1, 1) := by decide +kernel
theorem dX11_init_55 : decode cX11_init 55 = .ok (.iconst 4, 1) := by decide +kernel
theorem dX11_init_56 : decode cX11_init 56 = .ok (.if_icmp .ge 22, 3) := by decide +kernel
theorem dX11_init_59 : decode cX11_init 59 = .ok (.aload_n 0, 1) := by decide +kernel
theorem dX11_init_60 : decode cX11_init 60 = .ok (.getfield 25, 3) := by decide +kernel
theorem dX11_init_63 : decode cX11_init 63 = .ok (.iload_n 1, 1) := by decide +kernel
theorem dX11_init_64 : decode cX11_init 64 = .ok (.new 23, 3) := by decide +kernel
theorem dX11_init_67 : decode cX11_init 67 = .ok (.dup, 1) := by decide +kernel
theorem dX11_init_68 : decode cX11_init 68 = .ok (.invokespecial 40, 3) := by decide +kernel
theorem dX11_init_71 : decode cX11_init 71 = .ok (.aastore, 1) := by decide +kernel
theorem dX11_init_72 : decode cX11_init 72 = .ok (.iinc 1 1, 3) := by decide +kernel
theorem dX11_init_75 : decode cX11_init 75 = .ok (.goto (-21), 3) := by decide +kernel
theorem dX11_init_78 : decode cX11_init 78 = .ok (.return_, 1) := by decide +kernel
theorem dX11_hear_0 : decode cX11_hear 0 = .ok (.iload_n 1, 1) := by decide +kernel
theorem dX11_hear_1 : decode cX11_hear 1 = .ok (.invokestatic 41, 3) := by decide +kernel
theorem dX11_hear_4 : decode cX11_hear 4 = .ok (.ifCond .eq 10, 3) := by decide +kernel
theorem dX11_hear_7 : decode cX11_hear 7 = .ok (.iload_n 2, 1) := by decide +kernel
theorem dX11_hear_8 : decode cX11_hear 8 = .ok (.invokestatic 45, 3) := by decide +kernel
theorem dX11_hear_11 : decode cX11_hear 11 = .ok (.ifCond .ne 9, 3) := by decide +kernel
theorem dX11_hear_14 : decode cX11_hear 14 = .ok (.aload_n 0, 1) := by decide +kernel
theorem dX11_hear_15 : decode cX11_hear 15 = .ok (.iconst 1, 1) := by decide +kernel
theorem dX11_hear_16 : decode cX11_hear 16 = .ok (.invokevirtual 48, 3) := by decide +kernel
theorem dX11_hear_19 : decode cX11_hear 19 = .ok (.ireturn, 1) := by decide +kernel
theorem dX11_hear_20 : decode cX11_hear 20 = .ok (.aload_n 0, 1) := by decide +kernel
theorem dX11_hear_21 : decode cX11_hear 21 = .ok (.getfield 10, 3) := by decide +kernel
theorem dX11_hear_24 : decode cX11_hear 24 = .ok (.getfield 52, 3) := by decide +kernel
theorem dX11_hear_27 : decode cX11_hear 27 = .ok (.iload_n 1, 1) := by decide +kernel
theorem dX11_hear_28 : decode cX11_hear 28 = .ok (.invokestatic 55, 3) := by decide +kernel
theorem dX11_hear_31 : decode cX11_hear 31 = .ok (.istore_n 3, 1) := by decide +kernel
theorem dX11_hear_32 : decode cX11_hear 32 = .ok (.aload_n 0, 1) := by decide +kernel
theorem dX11_hear_33 : decode cX11_hear 33 = .ok (.getfield 10, 3) := by decide +kernel
theorem dX11_hear_36 : decode cX11_hear 36 = .ok (.aload_n 0, 1) := by decide +kernel
theorem dX11_hear_37 : decode cX11_hear 37 = .ok (.getfield 10, 3) := by decide +kernel
theorem dX11_hear_40 : decode cX11_hear 40 = .ok (.getfield 52, 3) := by decide +kernel
theorem dX11_hear_43 : decode cX11_hear 43 = .ok (.iload_n 1, 1) := by decide +kernel
theorem dX11_hear_44 : decode cX11_hear 44 = .ok (.iload_n 2, 1) := by decide +kernel
theorem dX11_hear_45 : decode cX11_hear 45 = .ok (.invokestatic 59, 3) := by decide +kernel
theorem dX11_hear_48 : decode cX11_hear 48 = .ok (.putfield 52, 3) := by decide +kernel
theorem dX11_hear_51 : decode cX11_hear 51 = .ok (.iload_n 3, 1) := by decide +kernel
theorem dX11_hear_52 : decode cX11_hear 52 = .ok (.ireturn, 1) := by decide +kernel
theorem dX11_heard_0 : decode cX11_heard 0 = .ok (.aload_n 0, 1) := by decide +kernel
theorem dX11_heard_1 : decode cX11_heard 1 = .ok (.getfield 10, 3) := by decide +kernel
theorem dX11_heard_4 : decode cX11_heard 4 = .ok (.getfield 52, 3) := by decide +kernel
theorem dX11_heard_7 : decode cX11_heard 7 = .ok (.invokestatic 63, 3) := by decide +kernel
theorem dX11_heard_10 : decode cX11_heard 10 = .ok (.ireturn, 1) := by decide +kernel
theorem dX11_world_0 : decode cX11_world 0 = .ok (.iload_n 1, 1) := by decide +kernel
theorem dX11_world_1 : decode cX11_world 1 = .ok (.ifCond .lt 10, 3) := by decide +kernel
theorem dX11_world_4 : decode cX11_world 4 = .ok (.iload_n 1, 1) := by decide +kernel
theorem dX11_world_5 : decode cX11_world 5 = .ok (.sipush 255, 3) := by decide +kernel
theorem dX11_world_8 : decode cX11_world 8 = .ok (.if_icmp .le 9, 3) := by decide +kernel
theorem dX11_world_11 : decode cX11_world 11 = .ok (.aload_n 0, 1) := by decide +kernel
theorem dX11_world_12 : decode cX11_world 12 = .ok (.iconst 1, 1) := by decide +kernel
theorem dX11_world_13 : decode cX11_world 13 = .ok (.invokevirtual 48, 3) := by decide +kernel
theorem dX11_world_16 : decode cX11_world 16 = .ok (.ireturn, 1) := by decide +kernel
theorem dX11_world_17 : decode cX11_world 17 = .ok (.aload_n 0, 1) := by decide +kernel
theorem dX11_world_18 : decode cX11_world 18 = .ok (.getfield 10, 3) := by decide +kernel
theorem dX11_world_21 : decode cX11_world 21 = .ok (.getfield 66, 3) := by decide +kernel
theorem dX11_world_24 : decode cX11_world 24 = .ok (.istore_n 2, 1) := by decide +kernel
theorem dX11_world_25 : decode cX11_world 25 = .ok (.aload_n 0, 1) := by decide +kernel
theorem dX11_world_26 : decode cX11_world 26 = .ok (.getfield 10, 3) := by decide +kernel
theorem dX11_world_29 : decode cX11_world 29 = .ok (.iload_n 1, 1) := by decide +kernel
theorem dX11_world_30 : decode cX11_world 30 = .ok (.putfield 66, 3) := by decide +kernel
theorem dX11_world_33 : decode cX11_world 33 = .ok (.iload_n 2, 1) := by decide +kernel
theorem dX11_world_34 : decode cX11_world 34 = .ok (.ireturn, 1) := by decide +kernel
theorem dX11_trust_0 : decode cX11_trust 0 = .ok (.iload_n 1, 1) := by decide +kernel
theorem dX11_trust_1 : decode cX11_trust 1 = .ok (.ifCond .lt 9, 3) := by decide +kernel
theorem dX11_trust_4 : decode cX11_trust 4 = .ok (.iload_n 1, 1) := by decide +kernel
theorem dX11_trust_5 : decode cX11_trust 5 = .ok (.bipush 9, 2) := by decide +kernel
theorem dX11_trust_7 : decode cX11_trust 7 = .ok (.if_icmp .le 9, 3) := by decide +kernel
theorem dX11_trust_10 : decode cX11_trust 10 = .ok (.aload_n 0, 1) := by decide +kernel
theorem dX11_trust_11 : decode cX11_trust 11 = .ok (.iconst 1, 1) := by decide +kernel
theorem dX11_trust_12 : decode cX11_trust 12 = .ok (.invokevirtual 48, 3) := by decide +kernel
theorem dX11_trust_15 : decode cX11_trust 15 = .ok (.ireturn, 1) := by decide +kernel
theorem dX11_trust_16 : decode cX11_trust 16 = .ok (.aload_n 0, 1) := by decide +kernel
theorem dX11_trust_17 : decode cX11_trust 17 = .ok (.getfield 10, 3) := by decide +kernel
theorem dX11_trust_20 : decode cX11_trust 20 = .ok (.getfield 69, 3) := by decide +kernel
theorem dX11_trust_23 : decode cX11_trust 23 = .ok (.istore_n 2, 1) := by decide +kernel
theorem dX11_trust_24 : decode cX11_trust 24 = .ok (.aload_n 0, 1) := by decide +kernel
theorem dX11_trust_25 : decode cX11_trust 25 = .ok (.getfield 10, 3) := by decide +kernel
theorem dX11_trust_28 : decode cX11_trust 28 = .ok (.iload_n 1, 1) := by decide +kernel
theorem dX11_trust_29 : decode cX11_trust 29 = .ok (.putfield 69, 3) := by decide +kernel
theorem dX11_trust_32 : decode cX11_trust 32 = .ok (.iload_n 2, 1) := by decide +kernel
theorem dX11_trust_33 : decode cX11_trust 33 = .ok (.ireturn, 1) := by decide +kernel
theorem dX11_rider_0 : decode cX11_rider 0 = .ok (.iload_n 1, 1) := by decide +kernel
theorem dX11_rider_1 : decode cX11_rider 1 = .ok (.invokestatic 72, 3) := by decide +kernel
theorem dX11_rider_4 : decode cX11_rider 4 = .ok (.ifCond .ne 9, 3) := by decide +kernel
theorem dX11_rider_7 : decode cX11_rider 7 = .ok (.aload_n 0, 1) := by decide +kernel
theorem dX11_rider_8 : decode cX11_rider 8 = .ok (.iconst 1, 1) := by decide +kernel
theorem dX11_rider_9 : decode cX11_rider 9 = .ok (.invokevirtual 48, 3) := by decide +kernel
theorem dX11_rider_12 : decode cX11_rider 12 = .ok (.ireturn, 1) := by decide +kernel
theorem dX11_rider_13 : decode cX11_rider 13 = .ok (.aload_n 0, 1) := by decide +kernel
theorem dX11_rider_14 : decode cX11_rider 14 = .ok (.getfield 10, 3) := by decide +kernel
theorem dX11_rider_17 : decode cX11_rider 17 = .ok (.getfield 75, 3) := by decide +kernel
theorem dX11_rider_20 : decode cX11_rider 20 = .ok (.istore_n 2, 1) := by decide +kernel
theorem dX11_rider_21 : decode cX11_rider 21 = .ok (.iload_n 2, 1) := by decide +kernel
theorem dX11_rider_22 : decode cX11_rider 22 = .ok (.bipush 6, 2) := by decide +kernel
theorem dX11_rider_24 : decode cX11_rider 24 = .ok (.if_icmp .lt 9, 3) := by decide +kernel
theorem dX11_rider_27 : decode cX11_rider 27 = .ok (.aload_n 0, 1) := by decide +kernel
theorem dX11_rider_28 : decode cX11_rider 28 = .ok (.iconst 4, 1) := by decide +kernel
theorem dX11_rider_29 : decode cX11_rider 29 = .ok (.invokevirtual 48, 3) := by decide +kernel
theorem dX11_rider_32 : decode cX11_rider 32 = .ok (.ireturn, 1) := by decide +kernel
theorem dX11_rider_33 : decode cX11_rider 33 = .ok (.aload_n 0, 1) := by decide +kernel
theorem dX11_rider_34 : decode cX11_rider 34 = .ok (.getfield 10, 3) := by decide +kernel
theorem dX11_rider_37 : decode cX11_rider 37 = .ok (.getfield 78, 3) := by decide +kernel
theorem dX11_rider_40 : decode cX11_rider 40 = .ok (.iload_n 2, 1) := by decide +kernel
theorem dX11_rider_41 : decode cX11_rider 41 = .ok (.iload_n 1, 1) := by decide +kernel
theorem dX11_rider_42 : decode cX11_rider 42 = .ok (.iload_n 2, 1) := by decide +kernel
theorem dX11_rider_43 : decode cX11_rider 43 = .ok (.invokestatic 82, 3) := by decide +kernel
theorem dX11_rider_46 : decode cX11_rider 46 = .ok (.aastore, 1) := by decide +kernel
theorem dX11_rider_47 : decode cX11_rider 47 = .ok (.aload_n 0, 1) := by decide +kernel
theorem dX11_rider_48 : decode cX11_rider 48 = .ok (.getfield 10, 3) := by decide +kernel
theorem dX11_rider_51 : decode cX11_rider 51 = .ok (.getfield 86, 3) := by decide +kernel
theorem dX11_rider_54 : decode cX11_rider 54 = .ok (.iload_n 2, 1) := by decide +kernel
theorem dX11_rider_55 : decode cX11_rider 55 = .ok (.iconst 0, 1) := by decide +kernel
theorem dX11_rider_56 : decode cX11_rider 56 = .ok (.iastore, 1) := by decide +kernel
theorem dX11_rider_57 : decode cX11_rider 57 = .ok (.aload_n 0, 1) := by decide +kernel
theorem dX11_rider_58 : decode cX11_rider 58 = .ok (.getfield 10, 3) := by decide +kernel
theorem dX11_rider_61 : decode cX11_rider 61 = .ok (.dup, 1) := by decide +kernel
theorem dX11_rider_62 : decode cX11_rider 62 = .ok (.getfield 75, 3) := by decide +kernel
theorem dX11_rider_65 : decode cX11_rider 65 = .ok (.iconst 1, 1) := by decide +kernel
theorem dX11_rider_66 : decode cX11_rider 66 = .ok (.iadd, 1) := by decide +kernel
theorem dX11_rider_67 : decode cX11_rider 67 = .ok (.putfield 75, 3) := by decide +kernel
theorem dX11_rider_70 : decode cX11_rider 70 = .ok (.iload_n 2, 1) := by decide +kernel
theorem dX11_rider_71 : decode cX11_rider 71 = .ok (.ireturn, 1) := by decide +kernel
theorem dX11_ofRider_0 : decode cX11_ofRider 0 = .ok (.aload_n 0, 1) := by decide +kernel
theorem dX11_ofRider_1 : decode cX11_ofRider 1 = .ok (.iload_n 1, 1) := by decide +kernel
theorem dX11_ofRider_2 : decode cX11_ofRider 2 = .ok (.invokevirtual 89, 3) := by decide +kernel
theorem dX11_ofRider_5 : decode cX11_ofRider 5 = .ok (.ifCond .eq 13, 3) := by decide +kernel
theorem dX11_ofRider_8 : decode cX11_ofRider 8 = .ok (.iload_n 2, 1) := by decide +kernel
theorem dX11_ofRider_9 : decode cX11_ofRider 9 = .ok (.ifCond .lt 9, 3) := by decide +kernel
theorem dX11_ofRider_12 : decode cX11_ofRider 12 = .ok (.iload_n 2, 1) := by decide +kernel
theorem dX11_ofRider_13 : decode cX11_ofRider 13 = .ok (.bipush 9, 2) := by decide +kernel
theorem dX11_ofRider_15 : decode cX11_ofRider 15 = .ok (.if_icmp .le 9, 3) := by decide +kernel
theorem dX11_ofRider_18 : decode cX11_ofRider 18 = .ok (.aload_n 0, 1) := by decide +kernel
theorem dX11_ofRider_19 : decode cX11_ofRider 19 = .ok (.iconst 1, 1) := by decide +kernel
theorem dX11_ofRider_20 : decode cX11_ofRider 20 = .ok (.invokevirtual 48, 3) := by decide +kernel
theorem dX11_ofRider_23 : decode cX11_ofRider 23 = .ok (.ireturn, 1) := by decide +kernel
theorem dX11_ofRider_24 : decode cX11_ofRider 24 = .ok (.aload_n 0, 1) := by decide +kernel
theorem dX11_ofRider_25 : decode cX11_ofRider 25 = .ok (.getfield 10, 3) := by decide +kernel
theorem dX11_ofRider_28 : decode cX11_ofRider 28 = .ok (.getfield 86, 3) := by decide +kernel
theorem dX11_ofRider_31 : decode cX11_ofRider 31 = .ok (.iload_n 1, 1) := by decide +kernel
theorem dX11_ofRider_32 : decode cX11_ofRider 32 = .ok (.iaload, 1) := by decide +kernel
theorem dX11_ofRider_33 : decode cX11_ofRider 33 = .ok (.istore_n 3, 1) := by decide +kernel
theorem dX11_ofRider_34 : decode cX11_ofRider 34 = .ok (.iload_n 2, 1) := by decide +kernel
theorem dX11_ofRider_35 : decode cX11_ofRider 35 = .ok (.tableswitch 155 0 8 #[49, 62, 75, 80, 85, 97, 109, 121, 138], 49) := by decide +kernel
theorem dX11_ofRider_84 : decode cX11_ofRider 84 = .ok (.aload_n 0, 1) := by decide +kernel
theorem dX11_ofRider_85 : decode cX11_ofRider 85 = .ok (.getfield 10, 3) := by decide +kernel
theorem dX11_ofRider_88 : decode cX11_ofRider 88 = .ok (.getfield 78, 3) := by decide +kernel
theorem dX11_ofRider_91 : decode cX11_ofRider 91 = .ok (.iload_n 1, 1) := by decide +kernel
theorem dX11_ofRider_92 : decode cX11_ofRider 92 = .ok (.aaload, 1) := by decide +kernel
theorem dX11_ofRider_93 : decode cX11_ofRider 93 = .ok (.getfield 92, 3) := by decide +kernel
theorem dX11_ofRider_96 : decode cX11_ofRider 96 = .ok (.ireturn, 1) := by decide +kernel
theorem dX11_ofRider_97 : decode cX11_ofRider 97 = .ok (.aload_n 0, 1) := by decide +kernel
theorem dX11_ofRider_98 : decode cX11_ofRider 98 = .ok (.getfield 10, 3) := by decide +kernel
theorem dX11_ofRider_101 : decode cX11_ofRider 101 = .ok (.getfield 78, 3) := by decide +kernel
theorem dX11_ofRider_104 : decode cX11_ofRider 104 = .ok (.iload_n 1, 1) := by decide +kernel
theorem dX11_ofRider_105 : decode cX11_ofRider 105 = .ok (.aaload, 1) := by decide +kernel
theorem dX11_ofRider_106 : decode cX11_ofRider 106 = .ok (.getfield 97, 3) := by decide +kernel
theorem dX11_ofRider_109 : decode cX11_ofRider 109 = .ok (.ireturn, 1) := by decide +kernel
theorem dX11_ofRider_110 : decode cX11_ofRider 110 = .ok (.iload_n 3, 1) := by decide +kernel
theorem dX11_ofRider_111 : decode cX11_ofRider 111 = .ok (.invokestatic 63, 3) := by decide +kernel
theorem dX11_ofRider_114 : decode cX11_ofRider 114 = .ok (.ireturn, 1) := by decide +kernel
theorem dX11_ofRider_115 : decode cX11_ofRider 115 = .ok (.iload_n 3, 1) := by decide +kernel
theorem dX11_ofRider_116 : decode cX11_ofRider 116 = .ok (.invokestatic 100, 3) := by decide +kernel
theorem dX11_ofRider_119 : decode cX11_ofRider 119 = .ok (.ireturn, 1) := by decide +kernel
theorem dX11_ofRider_120 : decode cX11_ofRider 120 = .ok (.iload_n 3, 1) := by decide +kernel
theorem dX11_ofRider_121 : decode cX11_ofRider 121 = .ok (.aload_n 0, 1) := by decide +kernel
theorem dX11_ofRider_122 : decode cX11_ofRider 122 = .ok (.getfield 10, 3) := by decide +kernel
theorem dX11_ofRider_125 : decode cX11_ofRider 125 = .ok (.getfield 52, 3) := by decide +kernel
theorem dX11_ofRider_128 : decode cX11_ofRider 128 = .ok (.invokestatic 105, 3) := by decide +kernel
theorem dX11_ofRider_131 : decode cX11_ofRider 131 = .ok (.ireturn, 1) := by decide +kernel
theorem dX11_ofRider_132 : decode cX11_ofRider 132 = .ok (.iload_n 3, 1) := by decide +kernel
theorem dX11_ofRider_133 : decode cX11_ofRider 133 = .ok (.aload_n 0, 1) := by decide +kernel
theorem dX11_ofRider_134 : decode cX11_ofRider 134 = .ok (.getfield 10, 3) := by decide +kernel
theorem dX11_ofRider_137 : decode cX11_ofRider 137 = .ok (.getfield 52, 3) := by decide +kernel
theorem dX11_ofRider_140 : decode cX11_ofRider 140 = .ok (.invokestatic 108, 3) := by decide +kernel
theorem dX11_ofRider_143 : decode cX11_ofRider 143 = .ok (.ireturn, 1) := by decide +kernel
theorem dX11_ofRider_144 : decode cX11_ofRider 144 = .ok (.iload_n 3, 1) := by decide +kernel
theorem dX11_ofRider_145 : decode cX11_ofRider 145 = .ok (.aload_n 0, 1) := by decide +kernel
theorem dX11_ofRider_146 : decode cX11_ofRider 146 = .ok (.getfield 10, 3) := by decide +kernel
theorem dX11_ofRider_149 : decode cX11_ofRider 149 = .ok (.getfield 52, 3) := by decide +kernel
theorem dX11_ofRider_152 : decode cX11_ofRider 152 = .ok (.invokestatic 111, 3) := by decide +kernel
theorem dX11_ofRider_155 : decode cX11_ofRider 155 = .ok (.ireturn, 1) := by decide +kernel
theorem dX11_ofRider_156 : decode cX11_ofRider 156 = .ok (.aload_n 0, 1) := by decide +kernel
theorem dX11_ofRider_157 : decode cX11_ofRider 157 = .ok (.getfield 10, 3) := by decide +kernel
theorem dX11_ofRider_160 : decode cX11_ofRider 160 = .ok (.iload_n 1, 1) := by decide +kernel
theorem dX11_ofRider_161 : decode cX11_ofRider 161 = .ok (.iload_n 3, 1) := by decide +kernel
theorem dX11_ofRider_162 : decode cX11_ofRider 162 = .ok (.aload_n 0, 1) := by decide +kernel
theorem dX11_ofRider_163 : decode cX11_ofRider 163 = .ok (.getfield 10, 3) := by decide +kernel
theorem dX11_ofRider_166 : decode cX11_ofRider 166 = .ok (.getfield 52, 3) := by decide +kernel
theorem dX11_ofRider_169 : decode cX11_ofRider 169 = .ok (.invokevirtual 114, 3) := by decide +kernel
theorem dX11_ofRider_172 : decode cX11_ofRider 172 = .ok (.ireturn, 1) := by decide +kernel
theorem dX11_ofRider_173 : decode cX11_ofRider 173 = .ok (.aload_n 0, 1) := by decide +kernel
theorem dX11_ofRider_174 : decode cX11_ofRider 174 = .ok (.getfield 10, 3) := by decide +kernel
theorem dX11_ofRider_177 : decode cX11_ofRider 177 = .ok (.iload_n 1, 1) := by decide +kernel
theorem dX11_ofRider_178 : decode cX11_ofRider 178 = .ok (.iload_n 3, 1) := by decide +kernel
theorem dX11_ofRider_179 : decode cX11_ofRider 179 = .ok (.aload_n 0, 1) := by decide +kernel
theorem dX11_ofRider_180 : decode cX11_ofRider 180 = .ok (.getfield 10, 3) := by decide +kernel
theorem dX11_ofRider_183 : decode cX11_ofRider 183 = .ok (.getfield 52, 3) := by decide +kernel
theorem dX11_ofRider_186 : decode cX11_ofRider 186 = .ok (.invokevirtual 117, 3) := by decide +kernel
theorem dX11_ofRider_189 : decode cX11_ofRider 189 = .ok (.ireturn, 1) := by decide +kernel
theorem dX11_ofRider_190 : decode cX11_ofRider 190 = .ok (.iload_n 3, 1) := by decide +kernel
theorem dX11_ofRider_191 : decode cX11_ofRider 191 = .ok (.aload_n 0, 1) := by decide +kernel
theorem dX11_ofRider_192 : decode cX11_ofRider 192 = .ok (.getfield 10, 3) := by decide +kernel
theorem dX11_ofRider_195 : decode cX11_ofRider 195 = .ok (.getfield 66, 3) := by decide +kernel
theorem dX11_ofRider_198 : decode cX11_ofRider 198 = .ok (.invokestatic 120, 3) := by decide +kernel
theorem dX11_ofRider_201 : decode cX11_ofRider 201 = .ok (.invokestatic 123, 3) := by decide +kernel
theorem dX11_ofRider_204 : decode cX11_ofRider 204 = .ok (.ifCond .eq 7, 3) := by decide +kernel
theorem dX11_ofRider_207 : decode cX11_ofRider 207 = .ok (.iconst 1, 1) := by decide +kernel
theorem dX11_ofRider_208 : decode cX11_ofRider 208 = .ok (.goto 4, 3) := by decide +kernel
theorem dX11_ofRider_211 : decode cX11_ofRider 211 = .ok (.iconst 0, 1) := by decide +kernel
theorem dX11_ofRider_212 : decode cX11_ofRider 212 = .ok (.ireturn, 1) := by decide +kernel
theorem dX11_story_0 : decode cX11_story 0 = .ok (.aload_n 0, 1) := by decide +kernel
theorem dX11_story_1 : decode cX11_story 1 = .ok (.iload_n 1, 1) := by decide +kernel
theorem dX11_story_2 : decode cX11_story 2 = .ok (.invokevirtual 89, 3) := by decide +kernel
theorem dX11_story_5 : decode cX11_story 5 = .ok (.ifCond .eq 10, 3) := by decide +kernel
theorem dX11_story_8 : decode cX11_story 8 = .ok (.iload_n 2, 1) := by decide +kernel
theorem dX11_story_9 : decode cX11_story 9 = .ok (.invokestatic 127, 3) := by decide +kernel
theorem dX11_story_12 : decode cX11_story 12 = .ok (.ifCond .ne 9, 3) := by decide +kernel
theorem dX11_story_15 : decode cX11_story 15 = .ok (.aload_n 0, 1) := by decide +kernel
theorem dX11_story_16 : decode cX11_story 16 = .ok (.iconst 1, 1) := by decide +kernel
theorem dX11_story_17 : decode cX11_story 17 = .ok (.invokevirtual 48, 3) := by decide +kernel
theorem dX11_story_20 : decode cX11_story 20 = .ok (.ireturn, 1) := by decide +kernel
theorem dX11_story_21 : decode cX11_story 21 = .ok (.aload_n 0, 1) := by decide +kernel
theorem dX11_story_22 : decode cX11_story 22 = .ok (.getfield 10, 3) := by decide +kernel
theorem dX11_story_25 : decode cX11_story 25 = .ok (.getfield 86, 3) := by decide +kernel
theorem dX11_story_28 : decode cX11_story 28 = .ok (.iload_n 1, 1) := by decide +kernel
theorem dX11_story_29 : decode cX11_story 29 = .ok (.iaload, 1) := by decide +kernel
theorem dX11_story_30 : decode cX11_story 30 = .ok (.invokestatic 63, 3) := by decide +kernel
theorem dX11_story_33 : decode cX11_story 33 = .ok (.istore_n 3, 1) := by decide +kernel
theorem dX11_story_34 : decode cX11_story 34 = .ok (.aload_n 0, 1) := by decide +kernel
theorem dX11_story_35 : decode cX11_story 35 = .ok (.getfield 10, 3) := by decide +kernel
theorem dX11_story_38 : decode cX11_story 38 = .ok (.getfield 86, 3) := by decide +kernel
theorem dX11_story_41 : decode cX11_story 41 = .ok (.iload_n 1, 1) := by decide +kernel
theorem dX11_story_42 : decode cX11_story 42 = .ok (.iload_n 2, 1) := by decide +kernel
theorem dX11_story_43 : decode cX11_story 43 = .ok (.invokestatic 130, 3) := by decide +kernel
theorem dX11_story_46 : decode cX11_story 46 = .ok (.iastore, 1) := by decide +kernel
theorem dX11_story_47 : decode cX11_story 47 = .ok (.iload_n 3, 1) := by decide +kernel
theorem dX11_story_48 : decode cX11_story 48 = .ok (.ireturn, 1) := by decide +kernel
theorem dX11_say_0 : decode cX11_say 0 = .ok (.aload_n 0, 1) := by decide +kernel
theorem dX11_say_1 : decode cX11_say 1 = .ok (.iload_n 1, 1) := by decide +kernel
theorem dX11_say_2 : decode cX11_say 2 = .ok (.invokevirtual 89, 3) := by decide +kernel
theorem dX11_say_5 : decode cX11_say 5 = .ok (.ifCond .eq 17, 3) := by decide +kernel
theorem dX11_say_8 : decode cX11_say 8 = .ok (.iload_n 2, 1) := by decide +kernel
theorem dX11_say_9 : decode cX11_say 9 = .ok (.invokestatic 41, 3) := by decide +kernel
theorem dX11_say_12 : decode cX11_say 12 = .ok (.ifCond .eq 10, 3) := by decide +kernel
theorem dX11_say_15 : decode cX11_say 15 = .ok (.iload_n 3, 1) := by decide +kernel
theorem dX11_say_16 : decode cX11_say 16 = .ok (.invokestatic 45, 3) := by decide +kernel
theorem dX11_say_19 : decode cX11_say 19 = .ok (.ifCond .ne 9, 3) := by decide +kernel
theorem dX11_say_22 : decode cX11_say 22 = .ok (.aload_n 0, 1) := by decide +kernel
theorem dX11_say_23 : decode cX11_say 23 = .ok (.iconst 1, 1) := by decide +kernel
theorem dX11_say_24 : decode cX11_say 24 = .ok (.invokevirtual 48, 3) := by decide +kernel
theorem dX11_say_27 : decode cX11_say 27 = .ok (.ireturn, 1) := by decide +kernel
theorem dX11_say_28 : decode cX11_say 28 = .ok (.aload_n 0, 1) := by decide +kernel
theorem dX11_say_29 : decode cX11_say 29 = .ok (.getfield 10, 3) := by decide +kernel
theorem dX11_say_32 : decode cX11_say 32 = .ok (.getfield 86, 3) := by decide +kernel
theorem dX11_say_35 : decode cX11_say 35 = .ok (.iload_n 1, 1) := by decide +kernel
theorem dX11_say_36 : decode cX11_say 36 = .ok (.iaload, 1) := by decide +kernel
theorem dX11_say_37 : decode cX11_say 37 = .ok (.iload_n 2, 1) := by decide +kernel
theorem dX11_say_38 : decode cX11_say 38 = .ok (.invokestatic 55, 3) := by decide +kernel
theorem dX11_say_41 : decode cX11_say 41 = .ok (.istore 4, 2) := by decide +kernel
theorem dX11_say_43 : decode cX11_say 43 = .ok (.aload_n 0, 1) := by decide +kernel
theorem dX11_say_44 : decode cX11_say 44 = .ok (.getfield 10, 3) := by decide +kernel
theorem dX11_say_47 : decode cX11_say 47 = .ok (.getfield 86, 3) := by decide +kernel
theorem dX11_say_50 : decode cX11_say 50 = .ok (.iload_n 1, 1) := by decide +kernel
theorem dX11_say_51 : decode cX11_say 51 = .ok (.aload_n 0, 1) := by decide +kernel
theorem dX11_say_52 : decode cX11_say 52 = .ok (.getfield 10, 3) := by decide +kernel
theorem dX11_say_55 : decode cX11_say 55 = .ok (.getfield 86, 3) := by decide +kernel
theorem dX11_say_58 : decode cX11_say 58 = .ok (.iload_n 1, 1) := by decide +kernel
theorem dX11_say_59 : decode cX11_say 59 = .ok (.iaload, 1) := by decide +kernel
theorem dX11_say_60 : decode cX11_say 60 = .ok (.iload_n 2, 1) := by decide +kernel
theorem dX11_say_61 : decode cX11_say 61 = .ok (.iload_n 3, 1) := by decide +kernel
theorem dX11_say_62 : decode cX11_say 62 = .ok (.invokestatic 59, 3) := by decide +kernel
theorem dX11_say_65 : decode cX11_say 65 = .ok (.iastore, 1) := by decide +kernel
theorem dX11_say_66 : decode cX11_say 66 = .ok (.iload 4, 2) := by decide +kernel
theorem dX11_say_68 : decode cX11_say 68 = .ok (.ireturn, 1) := by decide +kernel
theorem dX11_become_0 : decode cX11_become 0 = .ok (.aload_n 0, 1) := by decide +kernel
theorem dX11_become_1 : decode cX11_become 1 = .ok (.iload_n 1, 1) := by decide +kernel
theorem dX11_become_2 : decode cX11_become 2 = .ok (.invokevirtual 89, 3) := by decide +kernel
theorem dX11_become_5 : decode cX11_become 5 = .ok (.ifCond .eq 10, 3) := by decide +kernel
theorem dX11_become_8 : decode cX11_become 8 = .ok (.iload_n 2, 1) := by decide +kernel
theorem dX11_become_9 : decode cX11_become 9 = .ok (.invokestatic 72, 3) := by decide +kernel
theorem dX11_become_12 : decode cX11_become 12 = .ok (.ifCond .ne 9, 3) := by decide +kernel
theorem dX11_become_15 : decode cX11_become 15 = .ok (.aload_n 0, 1) := by decide +kernel
theorem dX11_become_16 : decode cX11_become 16 = .ok (.iconst 1, 1) := by decide +kernel
theorem dX11_become_17 : decode cX11_become 17 = .ok (.invokevirtual 48, 3) := by decide +kernel
theorem dX11_become_20 : decode cX11_become 20 = .ok (.ireturn, 1) := by decide +kernel
theorem dX11_become_21 : decode cX11_become 21 = .ok (.aload_n 0, 1) := by decide +kernel
theorem dX11_become_22 : decode cX11_become 22 = .ok (.getfield 10, 3) := by decide +kernel
theorem dX11_become_25 : decode cX11_become 25 = .ok (.getfield 78, 3) := by decide +kernel
theorem dX11_become_28 : decode cX11_become 28 = .ok (.iload_n 1, 1) := by decide +kernel
theorem dX11_become_29 : decode cX11_become 29 = .ok (.aaload, 1) := by decide +kernel
theorem dX11_become_30 : decode cX11_become 30 = .ok (.getfield 92, 3) := by decide +kernel
theorem dX11_become_33 : decode cX11_become 33 = .ok (.istore_n 3, 1) := by decide +kernel
theorem dX11_become_34 : decode cX11_become 34 = .ok (.aload_n 0, 1) := by decide +kernel
theorem dX11_become_35 : decode cX11_become 35 = .ok (.getfield 10, 3) := by decide +kernel
theorem dX11_become_38 : decode cX11_become 38 = .ok (.getfield 78, 3) := by decide +kernel
theorem dX11_become_41 : decode cX11_become 41 = .ok (.iload_n 1, 1) := by decide +kernel
theorem dX11_become_42 : decode cX11_become 42 = .ok (.iload_n 2, 1) := by decide +kernel
theorem dX11_become_43 : decode cX11_become 43 = .ok (.iload_n 1, 1) := by decide +kernel
theorem dX11_become_44 : decode cX11_become 44 = .ok (.invokestatic 82, 3) := by decide +kernel
theorem dX11_become_47 : decode cX11_become 47 = .ok (.aastore, 1) := by decide +kernel
theorem dX11_become_48 : decode cX11_become 48 = .ok (.iload_n 3, 1) := by decide +kernel
theorem dX11_become_49 : decode cX11_become 49 = .ok (.ireturn, 1) := by decide +kernel
theorem dX11_as_0 : decode cX11_as 0 = .ok (.aload_n 0, 1) := by decide +kernel
theorem dX11_as_1 : decode cX11_as 1 = .ok (.iload_n 1, 1) := by decide +kernel
theorem dX11_as_2 : decode cX11_as 2 = .ok (.invokevirtual 89, 3) := by decide +kernel
theorem dX11_as_5 : decode cX11_as 5 = .ok (.ifCond .eq 13, 3) := by decide +kernel
theorem dX11_as_8 : decode cX11_as 8 = .ok (.iload_n 2, 1) := by decide +kernel
theorem dX11_as_9 : decode cX11_as 9 = .ok (.ifCond .lt 9, 3) := by decide +kernel
theorem dX11_as_12 : decode cX11_as 12 = .ok (.iload_n 2, 1) := by decide +kernel
theorem dX11_as_13 : decode cX11_as 13 = .ok (.bipush 6, 2) := by decide +kernel
theorem dX11_as_15 : decode cX11_as 15 = .ok (.if_icmp .le 9, 3) := by decide +kernel
theorem dX11_as_18 : decode cX11_as 18 = .ok (.aload_n 0, 1) := by decide +kernel
theorem dX11_as_19 : decode cX11_as 19 = .ok (.iconst 1, 1) := by decide +kernel
theorem dX11_as_20 : decode cX11_as 20 = .ok (.invokevirtual 48, 3) := by decide +kernel
theorem dX11_as_23 : decode cX11_as 23 = .ok (.ireturn, 1) := by decide +kernel
theorem dX11_as_24 : decode cX11_as 24 = .ok (.aload_n 0, 1) := by decide +kernel
theorem dX11_as_25 : decode cX11_as 25 = .ok (.getfield 10, 3) := by decide +kernel
theorem dX11_as_28 : decode cX11_as 28 = .ok (.getfield 78, 3) := by decide +kernel
theorem dX11_as_31 : decode cX11_as 31 = .ok (.iload_n 1, 1) := by decide +kernel
theorem dX11_as_32 : decode cX11_as 32 = .ok (.aaload, 1) := by decide +kernel
theorem dX11_as_33 : decode cX11_as 33 = .ok (.astore_n 3, 1) := by decide +kernel
theorem dX11_as_34 : decode cX11_as 34 = .ok (.aload_n 3, 1) := by decide +kernel
theorem dX11_as_35 : decode cX11_as 35 = .ok (.iload_n 2, 1) := by decide +kernel
theorem dX11_as_36 : decode cX11_as 36 = .ok (.invokestatic 133, 3) := by decide +kernel
theorem dX11_as_39 : decode cX11_as 39 = .ok (.ifCond .eq 10, 3) := by decide +kernel
theorem dX11_as_42 : decode cX11_as 42 = .ok (.aload_n 3, 1) := by decide +kernel
theorem dX11_as_43 : decode cX11_as 43 = .ok (.getfield 97, 3) := by decide +kernel
theorem dX11_as_46 : decode cX11_as 46 = .ok (.goto 8, 3) := by decide +kernel
theorem dX11_as_49 : decode cX11_as 49 = .ok (.aload_n 0, 1) := by decide +kernel
theorem dX11_as_50 : decode cX11_as 50 = .ok (.iconst 5, 1) := by decide +kernel
theorem dX11_as_51 : decode cX11_as 51 = .ok (.invokevirtual 48, 3) := by decide +kernel
theorem dX11_as_54 : decode cX11_as 54 = .ok (.ireturn, 1) := by decide +kernel
theorem dX11_feed_0 : decode cX11_feed 0 = .ok (.iload_n 3, 1) := by decide +kernel
theorem dX11_feed_1 : decode cX11_feed 1 = .ok (.iconst 1, 1) := by decide +kernel
theorem dX11_feed_2 : decode cX11_feed 2 = .ok (.if_icmp .lt 9, 3) := by decide +kernel
theorem dX11_feed_5 : decode cX11_feed 5 = .ok (.iload_n 3, 1) := by decide +kernel
theorem dX11_feed_6 : decode cX11_feed 6 = .ok (.bipush 8, 2) := by decide +kernel
theorem dX11_feed_8 : decode cX11_feed 8 = .ok (.if_icmp .le 9, 3) := by decide +kernel
theorem dX11_feed_11 : decode cX11_feed 11 = .ok (.aload_n 0, 1) := by decide +kernel
theorem dX11_feed_12 : decode cX11_feed 12 = .ok (.iconst 1, 1) := by decide +kernel
theorem dX11_feed_13 : decode cX11_feed 13 = .ok (.invokevirtual 48, 3) := by decide +kernel
theorem dX11_feed_16 : decode cX11_feed 16 = .ok (.ireturn, 1) := by decide +kernel
theorem dX11_feed_17 : decode cX11_feed 17 = .ok (.aload_n 0, 1) := by decide +kernel
theorem dX11_feed_18 : decode cX11_feed 18 = .ok (.getfield 10, 3) := by decide +kernel
theorem dX11_feed_21 : decode cX11_feed 21 = .ok (.getfield 137, 3) := by decide +kernel
theorem dX11_feed_24 : decode cX11_feed 24 = .ok (.iload_n 3, 1) := by decide +kernel
theorem dX11_feed_25 : decode cX11_feed 25 = .ok (.iadd, 1) := by decide +kernel
theorem dX11_feed_26 : decode cX11_feed 26 = .ok (.bipush 50, 2) := by decide +kernel
theorem dX11_feed_28 : decode cX11_feed 28 = .ok (.if_icmp .le 9, 3) := by decide +kernel
theorem dX11_feed_31 : decode cX11_feed 31 = .ok (.aload_n 0, 1) := by decide +kernel
theorem dX11_feed_32 : decode cX11_feed 32 = .ok (.iconst 4, 1) := by decide +kernel
theorem dX11_feed_33 : decode cX11_feed 33 = .ok (.invokevirtual 48, 3) := by decide +kernel
theorem dX11_feed_36 : decode cX11_feed 36 = .ok (.ireturn, 1) := by decide +kernel
theorem dX11_feed_37 : decode cX11_feed 37 = .ok (.iconst 0, 1) := by decide +kernel
theorem dX11_feed_38 : decode cX11_feed 38 = .ok (.istore 4, 2) := by decide +kernel
theorem dX11_feed_40 : decode cX11_feed 40 = .ok (.iload 4, 2) := by decide +kernel
theorem dX11_feed_42 : decode cX11_feed 42 = .ok (.iload_n 3, 1) := by decide +kernel
theorem dX11_feed_43 : decode cX11_feed 43 = .ok (.if_icmp .ge 46, 3) := by decide +kernel
theorem dX11_feed_46 : decode cX11_feed 46 = .ok (.aload_n 0, 1) := by decide +kernel
theorem dX11_feed_47 : decode cX11_feed 47 = .ok (.getfield 10, 3) := by decide +kernel
theorem dX11_feed_50 : decode cX11_feed 50 = .ok (.getfield 140, 3) := by decide +kernel
theorem dX11_feed_53 : decode cX11_feed 53 = .ok (.aload_n 0, 1) := by decide +kernel
theorem dX11_feed_54 : decode cX11_feed 54 = .ok (.getfield 10, 3) := by decide +kernel
theorem dX11_feed_57 : decode cX11_feed 57 = .ok (.getfield 137, 3) := by decide +kernel
theorem dX11_feed_60 : decode cX11_feed 60 = .ok (.lload_n 1, 1) := by decide +kernel
theorem dX11_feed_61 : decode cX11_feed 61 = .ok (.bipush 8, 2) := by decide +kernel
theorem dX11_feed_63 : decode cX11_feed 63 = .ok (.iload 4, 2) := by decide +kernel
theorem dX11_feed_65 : decode cX11_feed 65 = .ok (.imul, 1) := by decide +kernel
theorem dX11_feed_66 : decode cX11_feed 66 = .ok (.lshr, 1) := by decide +kernel
theorem dX11_feed_67 : decode cX11_feed 67 = .ok (.l2i, 1) := by decide +kernel
theorem dX11_feed_68 : decode cX11_feed 68 = .ok (.i2b, 1) := by decide +kernel
theorem dX11_feed_69 : decode cX11_feed 69 = .ok (.bastore, 1) := by decide +kernel
theorem dX11_feed_70 : decode cX11_feed 70 = .ok (.aload_n 0, 1) := by decide +kernel
theorem dX11_feed_71 : decode cX11_feed 71 = .ok (.getfield 10, 3) := by decide +kernel
theorem dX11_feed_74 : decode cX11_feed 74 = .ok (.dup, 1) := by decide +kernel
theorem dX11_feed_75 : decode cX11_feed 75 = .ok (.getfield 137, 3) := by decide +kernel
theorem dX11_feed_78 : decode cX11_feed 78 = .ok (.iconst 1, 1) := by decide +kernel
theorem dX11_feed_79 : decode cX11_feed 79 = .ok (.iadd, 1) := by decide +kernel
theorem dX11_feed_80 : decode cX11_feed 80 = .ok (.putfield 137, 3) := by decide +kernel
theorem dX11_feed_83 : decode cX11_feed 83 = .ok (.iinc 4 1, 3) := by decide +kernel
theorem dX11_feed_86 : decode cX11_feed 86 = .ok (.goto (-46), 3) := by decide +kernel
theorem dX11_feed_89 : decode cX11_feed 89 = .ok (.aload_n 0, 1) := by decide +kernel
theorem dX11_feed_90 : decode cX11_feed 90 = .ok (.getfield 10, 3) := by decide +kernel
theorem dX11_feed_93 : decode cX11_feed 93 = .ok (.getfield 137, 3) := by decide +kernel
theorem dX11_feed_96 : decode cX11_feed 96 = .ok (.ireturn, 1) := by decide +kernel
theorem dX11_text_0 : decode cX11_text 0 = .ok (.iload_n 1, 1) := by decide +kernel
theorem dX11_text_1 : decode cX11_text 1 = .ok (.invokestatic 144, 3) := by decide +kernel
theorem dX11_text_4 : decode cX11_text 4 = .ok (.ifCond .ne 9, 3) := by decide +kernel
theorem dX11_text_7 : decode cX11_text 7 = .ok (.aload_n 0, 1) := by decide +kernel
theorem dX11_text_8 : decode cX11_text 8 = .ok (.iconst 1, 1) := by decide +kernel
theorem dX11_text_9 : decode cX11_text 9 = .ok (.invokevirtual 48, 3) := by decide +kernel
theorem dX11_text_12 : decode cX11_text 12 = .ok (.ireturn, 1) := by decide +kernel
theorem dX11_text_13 : decode cX11_text 13 = .ok (.aload_n 0, 1) := by decide +kernel
theorem dX11_text_14 : decode cX11_text 14 = .ok (.getfield 10, 3) := by decide +kernel
theorem dX11_text_17 : decode cX11_text 17 = .ok (.iload_n 1, 1) := by decide +kernel
theorem dX11_text_18 : decode cX11_text 18 = .ok (.invokevirtual 147, 3) := by decide +kernel
theorem dX11_text_21 : decode cX11_text 21 = .ok (.istore_n 2, 1) := by decide +kernel
theorem dX11_text_22 : decode cX11_text 22 = .ok (.iload_n 2, 1) := by decide +kernel
theorem dX11_text_23 : decode cX11_text 23 = .ok (.ifCond .ge 7, 3) := by decide +kernel
theorem dX11_text_26 : decode cX11_text 26 = .ok (.iconst 1, 1) := by decide +kernel
theorem dX11_text_27 : decode cX11_text 27 = .ok (.goto 7, 3) := by decide +kernel
theorem dX11_text_30 : decode cX11_text 30 = .ok (.bipush (-10), 2) := by decide +kernel
theorem dX11_text_32 : decode cX11_text 32 = .ok (.iload_n 2, 1) := by decide +kernel
theorem dX11_text_33 : decode cX11_text 33 = .ok (.isub, 1) := by decide +kernel
theorem dX11_text_34 : decode cX11_text 34 = .ok (.ireturn, 1) := by decide +kernel
theorem dX11_law_0 : decode cX11_law 0 = .ok (.iload_n 1, 1) := by decide +kernel
theorem dX11_law_1 : decode cX11_law 1 = .ok (.invokestatic 144, 3) := by decide +kernel
theorem dX11_law_4 : decode cX11_law 4 = .ok (.ifCond .ne 9, 3) := by decide +kernel
theorem dX11_law_7 : decode cX11_law 7 = .ok (.aload_n 0, 1) := by decide +kernel
theorem dX11_law_8 : decode cX11_law 8 = .ok (.iconst 1, 1) := by decide +kernel
theorem dX11_law_9 : decode cX11_law 9 = .ok (.invokevirtual 48, 3) := by decide +kernel
theorem dX11_law_12 : decode cX11_law 12 = .ok (.ireturn, 1) := by decide +kernel
theorem dX11_law_13 : decode cX11_law 13 = .ok (.aload_n 0, 1) := by decide +kernel
theorem dX11_law_14 : decode cX11_law 14 = .ok (.getfield 10, 3) := by decide +kernel
theorem dX11_law_17 : decode cX11_law 17 = .ok (.iload_n 1, 1) := by decide +kernel
theorem dX11_law_18 : decode cX11_law 18 = .ok (.invokevirtual 150, 3) := by decide +kernel
theorem dX11_law_21 : decode cX11_law 21 = .ok (.iload_n 2, 1) := by decide +kernel
theorem dX11_law_22 : decode cX11_law 22 = .ok (.iload_n 3, 1) := by decide +kernel
theorem dX11_law_23 : decode cX11_law 23 = .ok (.iload 4, 2) := by decide +kernel
theorem dX11_law_25 : decode cX11_law 25 = .ok (.invokevirtual 154, 3) := by decide +kernel
theorem dX11_law_28 : decode cX11_law 28 = .ok (.ireturn, 1) := by decide +kernel
theorem dX11_ride_0 : decode cX11_ride 0 = .ok (.aload_n 0, 1) := by decide +kernel
theorem dX11_ride_1 : decode cX11_ride 1 = .ok (.iload_n 1, 1) := by decide +kernel
theorem dX11_ride_2 : decode cX11_ride 2 = .ok (.invokevirtual 89, 3) := by decide +kernel
theorem dX11_ride_5 : decode cX11_ride 5 = .ok (.ifCond .ne 9, 3) := by decide +kernel
theorem dX11_ride_8 : decode cX11_ride 8 = .ok (.aload_n 0, 1) := by decide +kernel
theorem dX11_ride_9 : decode cX11_ride 9 = .ok (.iconst 1, 1) := by decide +kernel
theorem dX11_ride_10 : decode cX11_ride 10 = .ok (.invokevirtual 48, 3) := by decide +kernel
theorem dX11_ride_13 : decode cX11_ride 13 = .ok (.ireturn, 1) := by decide +kernel
theorem dX11_ride_14 : decode cX11_ride 14 = .ok (.aload_n 0, 1) := by decide +kernel
theorem dX11_ride_15 : decode cX11_ride 15 = .ok (.getfield 10, 3) := by decide +kernel
theorem dX11_ride_18 : decode cX11_ride 18 = .ok (.iload_n 1, 1) := by decide +kernel
theorem dX11_ride_19 : decode cX11_ride 19 = .ok (.aload_n 0, 1) := by decide +kernel
theorem dX11_ride_20 : decode cX11_ride 20 = .ok (.getfield 10, 3) := by decide +kernel
theorem dX11_ride_23 : decode cX11_ride 23 = .ok (.getfield 86, 3) := by decide +kernel
theorem dX11_ride_26 : decode cX11_ride 26 = .ok (.iload_n 1, 1) := by decide +kernel
theorem dX11_ride_27 : decode cX11_ride 27 = .ok (.iaload, 1) := by decide +kernel
theorem dX11_ride_28 : decode cX11_ride 28 = .ok (.aload_n 0, 1) := by decide +kernel
theorem dX11_ride_29 : decode cX11_ride 29 = .ok (.getfield 10, 3) := by decide +kernel
theorem dX11_ride_32 : decode cX11_ride 32 = .ok (.getfield 52, 3) := by decide +kernel
theorem dX11_ride_35 : decode cX11_ride 35 = .ok (.invokevirtual 117, 3) := by decide +kernel
theorem dX11_ride_38 : decode cX11_ride 38 = .ok (.istore_n 2, 1) := by decide +kernel
theorem dX11_ride_39 : decode cX11_ride 39 = .ok (.aload_n 0, 1) := by decide +kernel
theorem dX11_ride_40 : decode cX11_ride 40 = .ok (.getfield 10, 3) := by decide +kernel
theorem dX11_ride_43 : decode cX11_ride 43 = .ok (.aload_n 0, 1) := by decide +kernel
theorem dX11_ride_44 : decode cX11_ride 44 = .ok (.getfield 10, 3) := by decide +kernel
theorem dX11_ride_47 : decode cX11_ride 47 = .ok (.iload_n 1, 1) := by decide +kernel
theorem dX11_ride_48 : decode cX11_ride 48 = .ok (.aload_n 0, 1) := by decide +kernel
theorem dX11_ride_49 : decode cX11_ride 49 = .ok (.getfield 10, 3) := by decide +kernel
theorem dX11_ride_52 : decode cX11_ride 52 = .ok (.getfield 52, 3) := by decide +kernel
theorem dX11_ride_55 : decode cX11_ride 55 = .ok (.invokevirtual 159, 3) := by decide +kernel
theorem dX11_ride_58 : decode cX11_ride 58 = .ok (.putfield 52, 3) := by decide +kernel
theorem dX11_ride_61 : decode cX11_ride 61 = .ok (.aload_n 0, 1) := by decide +kernel
theorem dX11_ride_62 : decode cX11_ride 62 = .ok (.getfield 10, 3) := by decide +kernel
theorem dX11_ride_65 : decode cX11_ride 65 = .ok (.iconst 1, 1) := by decide +kernel
theorem dX11_ride_66 : decode cX11_ride 66 = .ok (.invokevirtual 162, 3) := by decide +kernel
theorem dX11_ride_69 : decode cX11_ride 69 = .ok (.iload_n 2, 1) := by decide +kernel
theorem dX11_ride_70 : decode cX11_ride 70 = .ok (.ireturn, 1) := by decide +kernel
theorem dX11_days_0 : decode cX11_days 0 = .ok (.iload_n 1, 1) := by decide +kernel
theorem dX11_days_1 : decode cX11_days 1 = .ok (.iconst 1, 1) := by decide +kernel
theorem dX11_days_2 : decode cX11_days 2 = .ok (.if_icmp .lt 9, 3) := by decide +kernel
theorem dX11_days_5 : decode cX11_days 5 = .ok (.iload_n 1, 1) := by decide +kernel
theorem dX11_days_6 : decode cX11_days 6 = .ok (.bipush 60, 2) := by decide +kernel
theorem dX11_days_8 : decode cX11_days 8 = .ok (.if_icmp .le 9, 3) := by decide +kernel
theorem dX11_days_11 : decode cX11_days 11 = .ok (.aload_n 0, 1) := by decide +kernel
theorem dX11_days_12 : decode cX11_days 12 = .ok (.iconst 1, 1) := by decide +kernel
theorem dX11_days_13 : decode cX11_days 13 = .ok (.invokevirtual 48, 3) := by decide +kernel
theorem dX11_days_16 : decode cX11_days 16 = .ok (.ireturn, 1) := by decide +kernel
theorem dX11_days_17 : decode cX11_days 17 = .ok (.aload_n 0, 1) := by decide +kernel
theorem dX11_days_18 : decode cX11_days 18 = .ok (.getfield 10, 3) := by decide +kernel
theorem dX11_days_21 : decode cX11_days 21 = .ok (.getfield 166, 3) := by decide +kernel
theorem dX11_days_24 : decode cX11_days 24 = .ok (.iload_n 1, 1) := by decide +kernel
theorem dX11_days_25 : decode cX11_days 25 = .ok (.iadd, 1) := by decide +kernel
theorem dX11_days_26 : decode cX11_days 26 = .ok (.sipush 9999, 3) := by decide +kernel
theorem dX11_days_29 : decode cX11_days 29 = .ok (.if_icmp .le 9, 3) := by decide +kernel
theorem dX11_days_32 : decode cX11_days 32 = .ok (.aload_n 0, 1) := by decide +kernel
theorem dX11_days_33 : decode cX11_days 33 = .ok (.iconst 3, 1) := by decide +kernel
theorem dX11_days_34 : decode cX11_days 34 = .ok (.invokevirtual 48, 3) := by decide +kernel
theorem dX11_days_37 : decode cX11_days 37 = .ok (.ireturn, 1) := by decide +kernel
theorem dX11_days_38 : decode cX11_days 38 = .ok (.iconst 0, 1) := by decide +kernel
theorem dX11_days_39 : decode cX11_days 39 = .ok (.istore_n 2, 1) := by decide +kernel
theorem dX11_days_40 : decode cX11_days 40 = .ok (.iload_n 2, 1) := by decide +kernel
theorem dX11_days_41 : decode cX11_days 41 = .ok (.iload_n 1, 1) := by decide +kernel
theorem dX11_days_42 : decode cX11_days 42 = .ok (.if_icmp .ge 30, 3) := by decide +kernel
theorem dX11_days_45 : decode cX11_days 45 = .ok (.aload_n 0, 1) := by decide +kernel
theorem dX11_days_46 : decode cX11_days 46 = .ok (.getfield 10, 3) := by decide +kernel
theorem dX11_days_49 : decode cX11_days 49 = .ok (.aload_n 0, 1) := by decide +kernel
theorem dX11_days_50 : decode cX11_days 50 = .ok (.getfield 10, 3) := by decide +kernel
theorem dX11_days_53 : decode cX11_days 53 = .ok (.aload_n 0, 1) := by decide +kernel
theorem dX11_days_54 : decode cX11_days 54 = .ok (.getfield 10, 3) := by decide +kernel
theorem dX11_days_57 : decode cX11_days 57 = .ok (.getfield 52, 3) := by decide +kernel
theorem dX11_days_60 : decode cX11_days 60 = .ok (.invokevirtual 169, 3) := by decide +kernel
theorem dX11_days_63 : decode cX11_days 63 = .ok (.putfield 52, 3) := by decide +kernel
theorem dX11_days_66 : decode cX11_days 66 = .ok (.iinc 2 1, 3) := by decide +kernel
theorem dX11_days_69 : decode cX11_days 69 = .ok (.goto (-29), 3) := by decide +kernel
theorem dX11_days_72 : decode cX11_days 72 = .ok (.aload_n 0, 1) := by decide +kernel
theorem dX11_days_73 : decode cX11_days 73 = .ok (.getfield 10, 3) := by decide +kernel
theorem dX11_days_76 : decode cX11_days 76 = .ok (.iload_n 1, 1) := by decide +kernel
theorem dX11_days_77 : decode cX11_days 77 = .ok (.invokevirtual 172, 3) := by decide +kernel
theorem dX11_days_80 : decode cX11_days 80 = .ok (.aload_n 0, 1) := by decide +kernel
theorem dX11_days_81 : decode cX11_days 81 = .ok (.getfield 10, 3) := by decide +kernel
theorem dX11_days_84 : decode cX11_days 84 = .ok (.getfield 52, 3) := by decide +kernel
theorem dX11_days_87 : decode cX11_days 87 = .ok (.invokestatic 63, 3) := by decide +kernel
theorem dX11_days_90 : decode cX11_days 90 = .ok (.ireturn, 1) := by decide +kernel
theorem dX11_rumours_0 : decode cX11_rumours 0 = .ok (.iload_n 1, 1) := by decide +kernel
theorem dX11_rumours_1 : decode cX11_rumours 1 = .ok (.iconst 1, 1) := by decide +kernel
theorem dX11_rumours_2 : decode cX11_rumours 2 = .ok (.if_icmp .lt 9, 3) := by decide +kernel
theorem dX11_rumours_5 : decode cX11_rumours 5 = .ok (.iload_n 1, 1) := by decide +kernel
theorem dX11_rumours_6 : decode cX11_rumours 6 = .ok (.bipush 40, 2) := by decide +kernel
theorem dX11_rumours_8 : decode cX11_rumours 8 = .ok (.if_icmp .le 9, 3) := by decide +kernel
theorem dX11_rumours_11 : decode cX11_rumours 11 = .ok (.aload_n 0, 1) := by decide +kernel
theorem dX11_rumours_12 : decode cX11_rumours 12 = .ok (.iconst 1, 1) := by decide +kernel
theorem dX11_rumours_13 : decode cX11_rumours 13 = .ok (.invokevirtual 48, 3) := by decide +kernel
theorem dX11_rumours_16 : decode cX11_rumours 16 = .ok (.ireturn, 1) := by decide +kernel
theorem dX11_rumours_17 : decode cX11_rumours 17 = .ok (.aload_n 0, 1) := by decide +kernel
theorem dX11_rumours_18 : decode cX11_rumours 18 = .ok (.getfield 10, 3) := by decide +kernel
theorem dX11_rumours_21 : decode cX11_rumours 21 = .ok (.getfield 166, 3) := by decide +kernel
theorem dX11_rumours_24 : decode cX11_rumours 24 = .ok (.iload_n 1, 1) := by decide +kernel
theorem dX11_rumours_25 : decode cX11_rumours 25 = .ok (.iadd, 1) := by decide +kernel
theorem dX11_rumours_26 : decode cX11_rumours 26 = .ok (.sipush 9999, 3) := by decide +kernel
theorem dX11_rumours_29 : decode cX11_rumours 29 = .ok (.if_icmp .le 9, 3) := by decide +kernel
theorem dX11_rumours_32 : decode cX11_rumours 32 = .ok (.aload_n 0, 1) := by decide +kernel
theorem dX11_rumours_33 : decode cX11_rumours 33 = .ok (.iconst 3, 1) := by decide +kernel
theorem dX11_rumours_34 : decode cX11_rumours 34 = .ok (.invokevirtual 48, 3) := by decide +kernel
theorem dX11_rumours_37 : decode cX11_rumours 37 = .ok (.ireturn, 1) := by decide +kernel
theorem dX11_rumours_38 : decode cX11_rumours 38 = .ok (.iconst 0, 1) := by decide +kernel
theorem dX11_rumours_39 : decode cX11_rumours 39 = .ok (.istore_n 2, 1) := by decide +kernel
theorem dX11_rumours_40 : decode cX11_rumours 40 = .ok (.iload_n 2, 1) := by decide +kernel
theorem dX11_rumours_41 : decode cX11_rumours 41 = .ok (.iload_n 1, 1) := by decide +kernel
theorem dX11_rumours_42 : decode cX11_rumours 42 = .ok (.if_icmp .ge 58, 3) := by decide +kernel
theorem dX11_rumours_45 : decode cX11_rumours 45 = .ok (.aload_n 0, 1) := by decide +kernel
theorem dX11_rumours_46 : decode cX11_rumours 46 = .ok (.getfield 10, 3) := by decide +kernel
theorem dX11_rumours_49 : decode cX11_rumours 49 = .ok (.invokevirtual 175, 3) := by decide +kernel
theorem dX11_rumours_52 : decode cX11_rumours 52 = .ok (.bipush 8, 2) := by decide +kernel
theorem dX11_rumours_54 : decode cX11_rumours 54 = .ok (.irem, 1) := by decide +kernel
theorem dX11_rumours_55 : decode cX11_rumours 55 = .ok (.istore_n 3, 1) := by decide +kernel
theorem dX11_rumours_56 : decode cX11_rumours 56 = .ok (.aload_n 0, 1) := by decide +kernel
theorem dX11_rumours_57 : decode cX11_rumours 57 = .ok (.getfield 10, 3) := by decide +kernel
theorem dX11_rumours_60 : decode cX11_rumours 60 = .ok (.invokevirtual 175, 3) := by decide +kernel
theorem dX11_rumours_63 : decode cX11_rumours 63 = .ok (.iconst 3, 1) := by decide +kernel
theorem dX11_rumours_64 : decode cX11_rumours 64 = .ok (.irem, 1) := by decide +kernel
theorem dX11_rumours_65 : decode cX11_rumours 65 = .ok (.istore 4, 2) := by decide +kernel
theorem dX11_rumours_67 : decode cX11_rumours 67 = .ok (.aload_n 0, 1) := by decide +kernel
theorem dX11_rumours_68 : decode cX11_rumours 68 = .ok (.getfield 10, 3) := by decide +kernel
theorem dX11_rumours_71 : decode cX11_rumours 71 = .ok (.aload_n 0, 1) := by decide +kernel
theorem dX11_rumours_72 : decode cX11_rumours 72 = .ok (.getfield 10, 3) := by decide +kernel
theorem dX11_rumours_75 : decode cX11_rumours 75 = .ok (.aload_n 0, 1) := by decide +kernel
theorem dX11_rumours_76 : decode cX11_rumours 76 = .ok (.getfield 10, 3) := by decide +kernel
theorem dX11_rumours_79 : decode cX11_rumours 79 = .ok (.getfield 52, 3) := by decide +kernel
theorem dX11_rumours_82 : decode cX11_rumours 82 = .ok (.iload_n 3, 1) := by decide +kernel
theorem dX11_rumours_83 : decode cX11_rumours 83 = .ok (.iload 4, 2) := by decide +kernel
theorem dX11_rumours_85 : decode cX11_rumours 85 = .ok (.invokestatic 59, 3) := by decide +kernel
theorem dX11_rumours_88 : decode cX11_rumours 88 = .ok (.invokevirtual 169, 3) := by decide +kernel
theorem dX11_rumours_91 : decode cX11_rumours 91 = .ok (.putfield 52, 3) := by decide +kernel
theorem dX11_rumours_94 : decode cX11_rumours 94 = .ok (.iinc 2 1, 3) := by decide +kernel
theorem dX11_rumours_97 : decode cX11_rumours 97 = .ok (.goto (-57), 3) := by decide +kernel
theorem dX11_rumours_100 : decode cX11_rumours 100 = .ok (.aload_n 0, 1) := by decide +kernel
theorem dX11_rumours_101 : decode cX11_rumours 101 = .ok (.getfield 10, 3) := by decide +kernel
theorem dX11_rumours_104 : decode cX11_rumours 104 = .ok (.iload_n 1, 1) := by decide +kernel
theorem dX11_rumours_105 : decode cX11_rumours 105 = .ok (.invokevirtual 172, 3) := by decide +kernel
theorem dX11_rumours_108 : decode cX11_rumours 108 = .ok (.aload_n 0, 1) := by decide +kernel
theorem dX11_rumours_109 : decode cX11_rumours 109 = .ok (.getfield 10, 3) := by decide +kernel
theorem dX11_rumours_112 : decode cX11_rumours 112 = .ok (.getfield 52, 3) := by decide +kernel
theorem dX11_rumours_115 : decode cX11_rumours 115 = .ok (.invokestatic 63, 3) := by decide +kernel
theorem dX11_rumours_118 : decode cX11_rumours 118 = .ok (.ireturn, 1) := by decide +kernel
theorem dX11_together_0 : decode cX11_together 0 = .ok (.iload_n 1, 1) := by decide +kernel
theorem dX11_together_1 : decode cX11_together 1 = .ok (.iconst 1, 1) := by decide +kernel
theorem dX11_together_2 : decode cX11_together 2 = .ok (.if_icmp .lt 16, 3) := by decide +kernel
theorem dX11_together_5 : decode cX11_together 5 = .ok (.iload_n 1, 1) := by decide +kernel
theorem dX11_together_6 : decode cX11_together 6 = .ok (.iconst 1, 1) := by decide +kernel
theorem dX11_together_7 : decode cX11_together 7 = .ok (.aload_n 0, 1) := by decide +kernel
theorem dX11_together_8 : decode cX11_together 8 = .ok (.getfield 10, 3) := by decide +kernel
theorem dX11_together_11 : decode cX11_together 11 = .ok (.getfield 75, 3) := by decide +kernel
theorem dX11_together_14 : decode cX11_together 14 = .ok (.ishl, 1) := by decide +kernel
theorem dX11_together_15 : decode cX11_together 15 = .ok (.if_icmp .lt 9, 3) := by decide +kernel
theorem dX11_together_18 : decode cX11_together 18 = .ok (.aload_n 0, 1) := by decide +kernel
theorem dX11_together_19 : decode cX11_together 19 = .ok (.iconst 1, 1) := by decide +kernel
theorem dX11_together_20 : decode cX11_together 20 = .ok (.invokevirtual 48, 3) := by decide +kernel
theorem dX11_together_23 : decode cX11_together 23 = .ok (.ireturn, 1) := by decide +kernel
theorem dX11_together_24 : decode cX11_together 24 = .ok (.aload_n 0, 1) := by decide +kernel
theorem dX11_together_25 : decode cX11_together 25 = .ok (.getfield 10, 3) := by decide +kernel
theorem dX11_together_28 : decode cX11_together 28 = .ok (.iload_n 1, 1) := by decide +kernel
theorem dX11_together_29 : decode cX11_together 29 = .ok (.invokevirtual 179, 3) := by decide +kernel
theorem dX11_together_32 : decode cX11_together 32 = .ok (.ireturn, 1) := by decide +kernel
theorem dX11_bestWith_0 : decode cX11_bestWith 0 = .ok (.aload_n 0, 1) := by decide +kernel
theorem dX11_bestWith_1 : decode cX11_bestWith 1 = .ok (.iload_n 1, 1) := by decide +kernel
theorem dX11_bestWith_2 : decode cX11_bestWith 2 = .ok (.invokevirtual 89, 3) := by decide +kernel
theorem dX11_bestWith_5 : decode cX11_bestWith 5 = .ok (.ifCond .eq 12, 3) := by decide +kernel
theorem dX11_bestWith_8 : decode cX11_bestWith 8 = .ok (.iload_n 2, 1) := by decide +kernel
theorem dX11_bestWith_9 : decode cX11_bestWith 9 = .ok (.ifCond .lt 8, 3) := by decide +kernel
theorem dX11_bestWith_12 : decode cX11_bestWith 12 = .ok (.iload_n 2, 1) := by decide +kernel
theorem dX11_bestWith_13 : decode cX11_bestWith 13 = .ok (.iconst 1, 1) := by decide +kernel
theorem dX11_bestWith_14 : decode cX11_bestWith 14 = .ok (.if_icmp .le 9, 3) := by decide +kernel
theorem dX11_bestWith_17 : decode cX11_bestWith 17 = .ok (.aload_n 0, 1) := by decide +kernel
theorem dX11_bestWith_18 : decode cX11_bestWith 18 = .ok (.iconst 1, 1) := by decide +kernel
theorem dX11_bestWith_19 : decode cX11_bestWith 19 = .ok (.invokevirtual 48, 3) := by decide +kernel
theorem dX11_bestWith_22 : decode cX11_bestWith 22 = .ok (.ireturn, 1) := by decide +kernel
theorem dX11_bestWith_23 : decode cX11_bestWith 23 = .ok (.iconst 0, 1) := by decide +kernel
theorem dX11_bestWith_24 : decode cX11_bestWith 24 = .ok (.istore_n 3, 1) := by decide +kernel
theorem dX11_bestWith_25 : decode cX11_bestWith 25 = .ok (.bipush (-2), 2) := by decide +kernel
theorem dX11_bestWith_27 : decode cX11_bestWith 27 = .ok (.istore 4, 2) := by decide +kernel
theorem dX11_bestWith_29 : decode cX11_bestWith 29 = .ok (.iconst 1, 1) := by decide +kernel
theorem dX11_bestWith_30 : decode cX11_bestWith 30 = .ok (.istore 5, 2) := by decide +kernel
theorem dX11_bestWith_32 : decode cX11_bestWith 32 = .ok (.iload 5, 2) := by decide +kernel
theorem dX11_bestWith_34 : decode cX11_bestWith 34 = .ok (.iconst 1, 1) := by decide +kernel
theorem dX11_bestWith_35 : decode cX11_bestWith 35 = .ok (.aload_n 0, 1) := by decide +kernel
theorem dX11_bestWith_36 : decode cX11_bestWith 36 = .ok (.getfield 10, 3) := by decide +kernel
theorem dX11_bestWith_39 : decode cX11_bestWith 39 = .ok (.getfield 75, 3) := by decide +kernel
theorem dX11_bestWith_42 : decode cX11_bestWith 42 = .ok (.ishl, 1) := by decide +kernel
theorem dX11_bestWith_43 : decode cX11_bestWith 43 = .ok (.if_icmp .ge 77, 3) := by decide +kernel
theorem dX11_bestWith_46 : decode cX11_bestWith 46 = .ok (.iload 5, 2) := by decide +kernel
theorem dX11_bestWith_48 : decode cX11_bestWith 48 = .ok (.iload_n 1, 1) := by decide +kernel
theorem dX11_bestWith_49 : decode cX11_bestWith 49 = .ok (.ishr, 1) := by decide +kernel
theorem dX11_bestWith_50 : decode cX11_bestWith 50 = .ok (.iconst 1, 1) := by decide +kernel
theorem dX11_bestWith_51 : decode cX11_bestWith 51 = .ok (.iand, 1) := by decide +kernel
theorem dX11_bestWith_52 : decode cX11_bestWith 52 = .ok (.ifCond .ne 6, 3) := by decide +kernel
theorem dX11_bestWith_55 : decode cX11_bestWith 55 = .ok (.goto 59, 3) := by decide +kernel
theorem dX11_bestWith_58 : decode cX11_bestWith 58 = .ok (.aload_n 0, 1) := by decide +kernel
theorem dX11_bestWith_59 : decode cX11_bestWith 59 = .ok (.getfield 10, 3) := by decide +kernel
theorem dX11_bestWith_62 : decode cX11_bestWith 62 = .ok (.iload 5, 2) := by decide +kernel
theorem dX11_bestWith_64 : decode cX11_bestWith 64 = .ok (.invokevirtual 179, 3) := by decide +kernel
theorem dX11_bestWith_67 : decode cX11_bestWith 67 = .ok (.istore 6, 2) := by decide +kernel
theorem dX11_bestWith_69 : decode cX11_bestWith 69 = .ok (.iload 5, 2) := by decide +kernel
theorem dX11_bestWith_71 : decode cX11_bestWith 71 = .ok (.invokestatic 100, 3) := by decide +kernel
theorem dX11_bestWith_74 : decode cX11_bestWith 74 = .ok (.iload_n 3, 1) := by decide +kernel
theorem dX11_bestWith_75 : decode cX11_bestWith 75 = .ok (.invokestatic 100, 3) := by decide +kernel
theorem dX11_bestWith_78 : decode cX11_bestWith 78 = .ok (.if_icmp .ge 7, 3) := by decide +kernel
theorem dX11_bestWith_81 : decode cX11_bestWith 81 = .ok (.iconst 1, 1) := by decide +kernel
theorem dX11_bestWith_82 : decode cX11_bestWith 82 = .ok (.goto 4, 3) := by decide +kernel
theorem dX11_bestWith_85 : decode cX11_bestWith 85 = .ok (.iconst 0, 1) := by decide +kernel
theorem dX11_bestWith_86 : decode cX11_bestWith 86 = .ok (.istore 7, 2) := by decide +kernel
theorem dX11_bestWith_88 : decode cX11_bestWith 88 = .ok (.iload 6, 2) := by decide +kernel
theorem dX11_bestWith_90 : decode cX11_bestWith 90 = .ok (.iload 4, 2) := by decide +kernel
theorem dX11_bestWith_92 : decode cX11_bestWith 92 = .ok (.if_icmp .gt 15, 3) := by decide +kernel
theorem dX11_bestWith_95 : decode cX11_bestWith 95 = .ok (.iload 6, 2) := by decide +kernel
theorem dX11_bestWith_97 : decode cX11_bestWith 97 = .ok (.iload 4, 2) := by decide +kernel
theorem dX11_bestWith_99 : decode cX11_bestWith 99 = .ok (.if_icmp .ne 15, 3) := by decide +kernel
theorem dX11_bestWith_102 : decode cX11_bestWith 102 = .ok (.iload 7, 2) := by decide +kernel
theorem dX11_bestWith_104 : decode cX11_bestWith 104 = .ok (.ifCond .eq 10, 3) := by decide +kernel
theorem dX11_bestWith_107 : decode cX11_bestWith 107 = .ok (.iload 5, 2) := by decide +kernel
theorem dX11_bestWith_109 : decode cX11_bestWith 109 = .ok (.istore_n 3, 1) := by decide +kernel
theorem dX11_bestWith_110 : decode cX11_bestWith 110 = .ok (.iload 6, 2) := by decide +kernel
theorem dX11_bestWith_112 : decode cX11_bestWith 112 = .ok (.istore 4, 2) := by decide +kernel
theorem dX11_bestWith_114 : decode cX11_bestWith 114 = .ok (.iinc 5 1, 3) := by decide +kernel
theorem dX11_bestWith_117 : decode cX11_bestWith 117 = .ok (.goto (-85), 3) := by decide +kernel
theorem dX11_bestWith_120 : decode cX11_bestWith 120 = .ok (.iload_n 2, 1) := by decide +kernel
theorem dX11_bestWith_121 : decode cX11_bestWith 121 = .ok (.ifCond .ne 7, 3) := by decide +kernel
theorem dX11_bestWith_124 : decode cX11_bestWith 124 = .ok (.iload_n 3, 1) := by decide +kernel
theorem dX11_bestWith_125 : decode cX11_bestWith 125 = .ok (.goto 5, 3) := by decide +kernel
theorem dX11_bestWith_128 : decode cX11_bestWith 128 = .ok (.iload 4, 2) := by decide +kernel
theorem dX11_bestWith_130 : decode cX11_bestWith 130 = .ok (.ireturn, 1) := by decide +kernel
theorem dX11_shortest_0 : decode cX11_shortest 0 = .ok (.aload_n 0, 1) := by decide +kernel
theorem dX11_shortest_1 : decode cX11_shortest 1 = .ok (.iload_n 1, 1) := by decide +kernel
theorem dX11_shortest_2 : decode cX11_shortest 2 = .ok (.invokevirtual 89, 3) := by decide +kernel
theorem dX11_shortest_5 : decode cX11_shortest 5 = .ok (.ifCond .eq 10, 3) := by decide +kernel
theorem dX11_shortest_8 : decode cX11_shortest 8 = .ok (.iload_n 2, 1) := by decide +kernel
theorem dX11_shortest_9 : decode cX11_shortest 9 = .ok (.invokestatic 182, 3) := by decide +kernel
theorem dX11_shortest_12 : decode cX11_shortest 12 = .ok (.ifCond .ne 9, 3) := by decide +kernel
theorem dX11_shortest_15 : decode cX11_shortest 15 = .ok (.aload_n 0, 1) := by decide +kernel
theorem dX11_shortest_16 : decode cX11_shortest 16 = .ok (.iconst 1, 1) := by decide +kernel
theorem dX11_shortest_17 : decode cX11_shortest 17 = .ok (.invokevirtual 48, 3) := by decide +kernel
theorem dX11_shortest_20 : decode cX11_shortest 20 = .ok (.ireturn, 1) := by decide +kernel
theorem dX11_shortest_21 : decode cX11_shortest 21 = .ok (.aload_n 0, 1) := by decide +kernel
theorem dX11_shortest_22 : decode cX11_shortest 22 = .ok (.iload_n 1, 1) := by decide +kernel
theorem dX11_shortest_23 : decode cX11_shortest 23 = .ok (.iload_n 2, 1) := by decide +kernel
theorem dX11_shortest_24 : decode cX11_shortest 24 = .ok (.sipush 255, 3) := by decide +kernel
theorem dX11_shortest_27 : decode cX11_shortest 27 = .ok (.invokestatic 185, 3) := by decide +kernel
theorem dX11_shortest_30 : decode cX11_shortest 30 = .ok (.invokevirtual 188, 3) := by decide +kernel
theorem dX11_shortest_33 : decode cX11_shortest 33 = .ok (.ireturn, 1) := by decide +kernel
theorem dX11_truest_0 : decode cX11_truest 0 = .ok (.aload_n 0, 1) := by decide +kernel
theorem dX11_truest_1 : decode cX11_truest 1 = .ok (.iload_n 1, 1) := by decide +kernel
theorem dX11_truest_2 : decode cX11_truest 2 = .ok (.invokevirtual 89, 3) := by decide +kernel
theorem dX11_truest_5 : decode cX11_truest 5 = .ok (.ifCond .eq 10, 3) := by decide +kernel
theorem dX11_truest_8 : decode cX11_truest 8 = .ok (.iload_n 2, 1) := by decide +kernel
theorem dX11_truest_9 : decode cX11_truest 9 = .ok (.invokestatic 182, 3) := by decide +kernel
theorem dX11_truest_12 : decode cX11_truest 12 = .ok (.ifCond .ne 9, 3) := by decide +kernel
theorem dX11_truest_15 : decode cX11_truest 15 = .ok (.aload_n 0, 1) := by decide +kernel
theorem dX11_truest_16 : decode cX11_truest 16 = .ok (.iconst 1, 1) := by decide +kernel
theorem dX11_truest_17 : decode cX11_truest 17 = .ok (.invokevirtual 48, 3) := by decide +kernel
theorem dX11_truest_20 : decode cX11_truest 20 = .ok (.ireturn, 1) := by decide +kernel
theorem dX11_truest_21 : decode cX11_truest 21 = .ok (.aload_n 0, 1) := by decide +kernel
theorem dX11_truest_22 : decode cX11_truest 22 = .ok (.iload_n 1, 1) := by decide +kernel
theorem dX11_truest_23 : decode cX11_truest 23 = .ok (.iload_n 2, 1) := by decide +kernel
theorem dX11_truest_24 : decode cX11_truest 24 = .ok (.aload_n 0, 1) := by decide +kernel
theorem dX11_truest_25 : decode cX11_truest 25 = .ok (.getfield 10, 3) := by decide +kernel
theorem dX11_truest_28 : decode cX11_truest 28 = .ok (.getfield 66, 3) := by decide +kernel
theorem dX11_truest_31 : decode cX11_truest 31 = .ok (.invokestatic 120, 3) := by decide +kernel
theorem dX11_truest_34 : decode cX11_truest 34 = .ok (.invokevirtual 188, 3) := by decide +kernel
theorem dX11_truest_37 : decode cX11_truest 37 = .ok (.ireturn, 1) := by decide +kernel
theorem dX11_out_0 : decode cX11_out 0 = .ok (.aload_n 0, 1) := by decide +kernel
theorem dX11_out_1 : decode cX11_out 1 = .ok (.iload_n 1, 1) := by decide +kernel
theorem dX11_out_2 : decode cX11_out 2 = .ok (.invokevirtual 89, 3) := by decide +kernel
theorem dX11_out_5 : decode cX11_out 5 = .ok (.ifCond .eq 10, 3) := by decide +kernel
theorem dX11_out_8 : decode cX11_out 8 = .ok (.iload_n 2, 1) := by decide +kernel
theorem dX11_out_9 : decode cX11_out 9 = .ok (.invokestatic 182, 3) := by decide +kernel
theorem dX11_out_12 : decode cX11_out 12 = .ok (.ifCond .ne 9, 3) := by decide +kernel
theorem dX11_out_15 : decode cX11_out 15 = .ok (.aload_n 0, 1) := by decide +kernel
theorem dX11_out_16 : decode cX11_out 16 = .ok (.iconst 1, 1) := by decide +kernel
theorem dX11_out_17 : decode cX11_out 17 = .ok (.invokevirtual 48, 3) := by decide +kernel
theorem dX11_out_20 : decode cX11_out 20 = .ok (.ireturn, 1) := by decide +kernel
theorem dX11_out_21 : decode cX11_out 21 = .ok (.aload_n 0, 1) := by decide +kernel
theorem dX11_out_22 : decode cX11_out 22 = .ok (.getfield 10, 3) := by decide +kernel
theorem dX11_out_25 : decode cX11_out 25 = .ok (.getfield 86, 3) := by decide +kernel
theorem dX11_out_28 : decode cX11_out 28 = .ok (.iload_n 1, 1) := by decide +kernel
theorem dX11_out_29 : decode cX11_out 29 = .ok (.iaload, 1) := by decide +kernel
theorem dX11_out_30 : decode cX11_out 30 = .ok (.istore_n 3, 1) := by decide +kernel
theorem dX11_out_31 : decode cX11_out 31 = .ok (.iconst (-1), 1) := by decide +kernel
theorem dX11_out_32 : decode cX11_out 32 = .ok (.istore 4, 2) := by decide +kernel
theorem dX11_out_34 : decode cX11_out 34 = .ok (.bipush 9, 2) := by decide +kernel
theorem dX11_out_36 : decode cX11_out 36 = .ok (.istore 5, 2) := by decide +kernel
theorem dX11_out_38 : decode cX11_out 38 = .ok (.iconst 0, 1) := by decide +kernel
theorem dX11_out_39 : decode cX11_out 39 = .ok (.istore 6, 2) := by decide +kernel
theorem dX11_out_41 : decode cX11_out 41 = .ok (.iload 6, 2) := by decide +kernel
theorem dX11_out_43 : decode cX11_out 43 = .ok (.sipush 255, 3) := by decide +kernel
theorem dX11_out_46 : decode cX11_out 46 = .ok (.if_icmp .gt 74, 3) := by decide +kernel
theorem dX11_out_49 : decode cX11_out 49 = .ok (.iload_n 3, 1) := by decide +kernel
theorem dX11_out_50 : decode cX11_out 50 = .ok (.iload 6, 2) := by decide +kernel
theorem dX11_out_52 : decode cX11_out 52 = .ok (.invokestatic 185, 3) := by decide +kernel
theorem dX11_out_55 : decode cX11_out 55 = .ok (.iconst (-1), 1) := by decide +kernel
theorem dX11_out_56 : decode cX11_out 56 = .ok (.ixor, 1) := by decide +kernel
theorem dX11_out_57 : decode cX11_out 57 = .ok (.iand, 1) := by decide +kernel
theorem dX11_out_58 : decode cX11_out 58 = .ok (.istore 7, 2) := by decide +kernel
theorem dX11_out_60 : decode cX11_out 60 = .ok (.iload 6, 2) := by decide +kernel
theorem dX11_out_62 : decode cX11_out 62 = .ok (.iload_n 3, 1) := by decide +kernel
theorem dX11_out_63 : decode cX11_out 63 = .ok (.invokestatic 191, 3) := by decide +kernel
theorem dX11_out_66 : decode cX11_out 66 = .ok (.invokestatic 123, 3) := by decide +kernel
theorem dX11_out_69 : decode cX11_out 69 = .ok (.ifCond .eq 45, 3) := by decide +kernel
theorem dX11_out_72 : decode cX11_out 72 = .ok (.iload 6, 2) := by decide +kernel
theorem dX11_out_74 : decode cX11_out 74 = .ok (.invokestatic 100, 3) := by decide +kernel
theorem dX11_out_77 : decode cX11_out 77 = .ok (.iload 5, 2) := by decide +kernel
theorem dX11_out_79 : decode cX11_out 79 = .ok (.if_icmp .ge 35, 3) := by decide +kernel
theorem dX11_out_82 : decode cX11_out 82 = .ok (.aload_n 0, 1) := by decide +kernel
theorem dX11_out_83 : decode cX11_out 83 = .ok (.getfield 10, 3) := by decide +kernel
theorem dX11_out_86 : decode cX11_out 86 = .ok (.iload_n 1, 1) := by decide +kernel
theorem dX11_out_87 : decode cX11_out 87 = .ok (.iload 7, 2) := by decide +kernel
theorem dX11_out_89 : decode cX11_out 89 = .ok (.aload_n 0, 1) := by decide +kernel
theorem dX11_out_90 : decode cX11_out 90 = .ok (.getfield 10, 3) := by decide +kernel
theorem dX11_out_93 : decode cX11_out 93 = .ok (.getfield 52, 3) := by decide +kernel
theorem dX11_out_96 : decode cX11_out 96 = .ok (.invokevirtual 117, 3) := by decide +kernel
theorem dX11_out_99 : decode cX11_out 99 = .ok (.iload_n 2, 1) := by decide +kernel
theorem dX11_out_100 : decode cX11_out 100 = .ok (.if_icmp .lt 14, 3) := by decide +kernel
theorem dX11_out_103 : decode cX11_out 103 = .ok (.iload 6, 2) := by decide +kernel
theorem dX11_out_105 : decode cX11_out 105 = .ok (.istore 4, 2) := by decide +kernel
theorem dX11_out_107 : decode cX11_out 107 = .ok (.iload 6, 2) := by decide +kernel
theorem dX11_out_109 : decode cX11_out 109 = .ok (.invokestatic 100, 3) := by decide +kernel
theorem dX11_out_112 : decode cX11_out 112 = .ok (.istore 5, 2) := by decide +kernel
theorem dX11_out_114 : decode cX11_out 114 = .ok (.iinc 6 1, 3) := by decide +kernel
theorem dX11_out_117 : decode cX11_out 117 = .ok (.goto (-76), 3) := by decide +kernel
theorem dX11_out_120 : decode cX11_out 120 = .ok (.iload 4, 2) := by decide +kernel
theorem dX11_out_122 : decode cX11_out 122 = .ok (.ifCond .ge 11, 3) := by decide +kernel
theorem dX11_out_125 : decode cX11_out 125 = .ok (.aload_n 0, 1) := by decide +kernel
theorem dX11_out_126 : decode cX11_out 126 = .ok (.iconst 2, 1) := by decide +kernel
theorem dX11_out_127 : decode cX11_out 127 = .ok (.invokevirtual 48, 3) := by decide +kernel
theorem dX11_out_130 : decode cX11_out 130 = .ok (.goto 5, 3) := by decide +kernel
theorem dX11_out_133 : decode cX11_out 133 = .ok (.iload 4, 2) := by decide +kernel
theorem dX11_out_135 : decode cX11_out 135 = .ok (.ireturn, 1) := by decide +kernel
theorem dX11_when_0 : decode cX11_when 0 = .ok (.aload_n 0, 1) := by decide +kernel
theorem dX11_when_1 : decode cX11_when 1 = .ok (.iload_n 1, 1) := by decide +kernel
theorem dX11_when_2 : decode cX11_when 2 = .ok (.invokevirtual 89, 3) := by decide +kernel
theorem dX11_when_5 : decode cX11_when 5 = .ok (.ifCond .eq 10, 3) := by decide +kernel
theorem dX11_when_8 : decode cX11_when 8 = .ok (.iload_n 2, 1) := by decide +kernel
theorem dX11_when_9 : decode cX11_when 9 = .ok (.invokestatic 182, 3) := by decide +kernel
theorem dX11_when_12 : decode cX11_when 12 = .ok (.ifCond .ne 9, 3) := by decide +kernel
theorem dX11_when_15 : decode cX11_when 15 = .ok (.aload_n 0, 1) := by decide +kernel
theorem dX11_when_16 : decode cX11_when 16 = .ok (.iconst 1, 1) := by decide +kernel
theorem dX11_when_17 : decode cX11_when 17 = .ok (.invokevirtual 48, 3) := by decide +kernel
theorem dX11_when_20 : decode cX11_when 20 = .ok (.ireturn, 1) := by decide +kernel
theorem dX11_when_21 : decode cX11_when 21 = .ok (.aload_n 0, 1) := by decide +kernel
theorem dX11_when_22 : decode cX11_when 22 = .ok (.getfield 10, 3) := by decide +kernel
theorem dX11_when_25 : decode cX11_when 25 = .ok (.getfield 52, 3) := by decide +kernel
theorem dX11_when_28 : decode cX11_when 28 = .ok (.istore_n 3, 1) := by decide +kernel
theorem dX11_when_29 : decode cX11_when 29 = .ok (.iconst 0, 1) := by decide +kernel
theorem dX11_when_30 : decode cX11_when 30 = .ok (.istore 4, 2) := by decide +kernel
theorem dX11_when_32 : decode cX11_when 32 = .ok (.iload 4, 2) := by decide +kernel
theorem dX11_when_34 : decode cX11_when 34 = .ok (.bipush 60, 2) := by decide +kernel
theorem dX11_when_36 : decode cX11_when 36 = .ok (.if_icmp .gt 43, 3) := by decide +kernel
theorem dX11_when_39 : decode cX11_when 39 = .ok (.aload_n 0, 1) := by decide +kernel
theorem dX11_when_40 : decode cX11_when 40 = .ok (.getfield 10, 3) := by decide +kernel
theorem dX11_when_43 : decode cX11_when 43 = .ok (.iload_n 1, 1) := by decide +kernel
theorem dX11_when_44 : decode cX11_when 44 = .ok (.aload_n 0, 1) := by decide +kernel
theorem dX11_when_45 : decode cX11_when 45 = .ok (.getfield 10, 3) := by decide +kernel
theorem dX11_when_48 : decode cX11_when 48 = .ok (.getfield 86, 3) := by decide +kernel
theorem dX11_when_51 : decode cX11_when 51 = .ok (.iload_n 1, 1) := by decide +kernel
theorem dX11_when_52 : decode cX11_when 52 = .ok (.iaload, 1) := by decide +kernel
theorem dX11_when_53 : decode cX11_when 53 = .ok (.iload_n 3, 1) := by decide +kernel
theorem dX11_when_54 : decode cX11_when 54 = .ok (.invokevirtual 117, 3) := by decide +kernel
theorem dX11_when_57 : decode cX11_when 57 = .ok (.iload_n 2, 1) := by decide +kernel
theorem dX11_when_58 : decode cX11_when 58 = .ok (.if_icmp .lt 6, 3) := by decide +kernel
theorem dX11_when_61 : decode cX11_when 61 = .ok (.iload 4, 2) := by decide +kernel
theorem dX11_when_63 : decode cX11_when 63 = .ok (.ireturn, 1) := by decide +kernel
theorem dX11_when_64 : decode cX11_when 64 = .ok (.aload_n 0, 1) := by decide +kernel
theorem dX11_when_65 : decode cX11_when 65 = .ok (.getfield 10, 3) := by decide +kernel
theorem dX11_when_68 : decode cX11_when 68 = .ok (.iload_n 3, 1) := by decide +kernel
theorem dX11_when_69 : decode cX11_when 69 = .ok (.invokevirtual 169, 3) := by decide +kernel
theorem dX11_when_72 : decode cX11_when 72 = .ok (.istore_n 3, 1) := by decide +kernel
theorem dX11_when_73 : decode cX11_when 73 = .ok (.iinc 4 1, 3) := by decide +kernel
theorem dX11_when_76 : decode cX11_when 76 = .ok (.goto (-44), 3) := by decide +kernel
theorem dX11_when_79 : decode cX11_when 79 = .ok (.aload_n 0, 1) := by decide +kernel
theorem dX11_when_80 : decode cX11_when 80 = .ok (.iconst 2, 1) := by decide +kernel
theorem dX11_when_81 : decode cX11_when 81 = .ok (.invokevirtual 48, 3) := by decide +kernel
theorem dX11_when_84 : decode cX11_when 84 = .ok (.ireturn, 1) := by decide +kernel
theorem dX11_still_0 : decode cX11_still 0 = .ok (.aload_n 0, 1) := by decide +kernel
theorem dX11_still_1 : decode cX11_still 1 = .ok (.getfield 10, 3) := by decide +kernel
theorem dX11_still_4 : decode cX11_still 4 = .ok (.getfield 52, 3) := by decide +kernel
theorem dX11_still_7 : decode cX11_still 7 = .ok (.istore_n 1, 1) := by decide +kernel
theorem dX11_still_8 : decode cX11_still 8 = .ok (.iconst 0, 1) := by decide +kernel
theorem dX11_still_9 : decode cX11_still 9 = .ok (.istore_n 2, 1) := by decide +kernel
theorem dX11_still_10 : decode cX11_still 10 = .ok (.iload_n 2, 1) := by decide +kernel
theorem dX11_still_11 : decode cX11_still 11 = .ok (.bipush 60, 2) := by decide +kernel
theorem dX11_still_13 : decode cX11_still 13 = .ok (.if_icmp .gt 27, 3) := by decide +kernel
theorem dX11_still_16 : decode cX11_still 16 = .ok (.aload_n 0, 1) := by decide +kernel
theorem dX11_still_17 : decode cX11_still 17 = .ok (.getfield 10, 3) := by decide +kernel
theorem dX11_still_20 : decode cX11_still 20 = .ok (.iload_n 1, 1) := by decide +kernel
theorem dX11_still_21 : decode cX11_still 21 = .ok (.invokevirtual 169, 3) := by decide +kernel
theorem dX11_still_24 : decode cX11_still 24 = .ok (.istore_n 3, 1) := by decide +kernel
theorem dX11_still_25 : decode cX11_still 25 = .ok (.iload_n 3, 1) := by decide +kernel
theorem dX11_still_26 : decode cX11_still 26 = .ok (.iload_n 1, 1) := by decide +kernel
theorem dX11_still_27 : decode cX11_still 27 = .ok (.if_icmp .ne 5, 3) := by decide +kernel
theorem dX11_still_30 : decode cX11_still 30 = .ok (.iload_n 2, 1) := by decide +kernel
theorem dX11_still_31 : decode cX11_still 31 = .ok (.ireturn, 1) := by decide +kernel
theorem dX11_still_32 : decode cX11_still 32 = .ok (.iload_n 3, 1) := by decide +kernel
theorem dX11_still_33 : decode cX11_still 33 = .ok (.istore_n 1, 1) := by decide +kernel
theorem dX11_still_34 : decode cX11_still 34 = .ok (.iinc 2 1, 3) := by decide +kernel
theorem dX11_still_37 : decode cX11_still 37 = .ok (.goto (-27), 3) := by decide +kernel
theorem dX11_still_40 : decode cX11_still 40 = .ok (.aload_n 0, 1) := by decide +kernel
theorem dX11_still_41 : decode cX11_still 41 = .ok (.iconst 2, 1) := by decide +kernel
theorem dX11_still_42 : decode cX11_still 42 = .ok (.invokevirtual 48, 3) := by decide +kernel
theorem dX11_still_45 : decode cX11_still 45 = .ok (.ireturn, 1) := by decide +kernel
theorem dX11_then_0 : decode cX11_then 0 = .ok (.iload_n 1, 1) := by decide +kernel
theorem dX11_then_1 : decode cX11_then 1 = .ok (.ifCond .lt 9, 3) := by decide +kernel
theorem dX11_then_4 : decode cX11_then 4 = .ok (.iload_n 1, 1) := by decide +kernel
theorem dX11_then_5 : decode cX11_then 5 = .ok (.bipush 60, 2) := by decide +kernel
theorem dX11_then_7 : decode cX11_then 7 = .ok (.if_icmp .le 9, 3) := by decide +kernel
theorem dX11_then_10 : decode cX11_then 10 = .ok (.aload_n 0, 1) := by decide +kernel
theorem dX11_then_11 : decode cX11_then 11 = .ok (.iconst 1, 1) := by decide +kernel
theorem dX11_then_12 : decode cX11_then 12 = .ok (.invokevirtual 48, 3) := by decide +kernel
theorem dX11_then_15 : decode cX11_then 15 = .ok (.ireturn, 1) := by decide +kernel
theorem dX11_then_16 : decode cX11_then 16 = .ok (.aload_n 0, 1) := by decide +kernel
theorem dX11_then_17 : decode cX11_then 17 = .ok (.getfield 10, 3) := by decide +kernel
theorem dX11_then_20 : decode cX11_then 20 = .ok (.getfield 52, 3) := by decide +kernel
theorem dX11_then_23 : decode cX11_then 23 = .ok (.istore_n 2, 1) := by decide +kernel
theorem dX11_then_24 : decode cX11_then 24 = .ok (.iconst 0, 1) := by decide +kernel
theorem dX11_then_25 : decode cX11_then 25 = .ok (.istore_n 3, 1) := by decide +kernel
theorem dX11_then_26 : decode cX11_then 26 = .ok (.iload_n 3, 1) := by decide +kernel
theorem dX11_then_27 : decode cX11_then 27 = .ok (.iload_n 1, 1) := by decide +kernel
theorem dX11_then_28 : decode cX11_then 28 = .ok (.if_icmp .ge 18, 3) := by decide +kernel
theorem dX11_then_31 : decode cX11_then 31 = .ok (.aload_n 0, 1) := by decide +kernel
theorem dX11_then_32 : decode cX11_then 32 = .ok (.getfield 10, 3) := by decide +kernel
theorem dX11_then_35 : decode cX11_then 35 = .ok (.iload_n 2, 1) := by decide +kernel
theorem dX11_then_36 : decode cX11_then 36 = .ok (.invokevirtual 169, 3) := by decide +kernel
theorem dX11_then_39 : decode cX11_then 39 = .ok (.istore_n 2, 1) := by decide +kernel
theorem dX11_then_40 : decode cX11_then 40 = .ok (.iinc 3 1, 3) := by decide +kernel
theorem dX11_then_43 : decode cX11_then 43 = .ok (.goto (-17), 3) := by decide +kernel
theorem dX11_then_46 : decode cX11_then 46 = .ok (.iload_n 2, 1) := by decide +kernel
theorem dX11_then_47 : decode cX11_then 47 = .ok (.invokestatic 63, 3) := by decide +kernel
theorem dX11_then_50 : decode cX11_then 50 = .ok (.ireturn, 1) := by decide +kernel
theorem dX11_believed_0 : decode cX11_believed 0 = .ok (.iload_n 1, 1) := by decide +kernel
theorem dX11_believed_1 : decode cX11_believed 1 = .ok (.invokestatic 194, 3) := by decide +kernel
theorem dX11_believed_4 : decode cX11_believed 4 = .ok (.ifCond .eq 12, 3) := by decide +kernel
theorem dX11_believed_7 : decode cX11_believed 7 = .ok (.iload_n 2, 1) := by decide +kernel
theorem dX11_believed_8 : decode cX11_believed 8 = .ok (.ifCond .lt 8, 3) := by decide +kernel
theorem dX11_believed_11 : decode cX11_believed 11 = .ok (.iload_n 2, 1) := by decide +kernel
theorem dX11_believed_12 : decode cX11_believed 12 = .ok (.iconst 1, 1) := by decide +kernel
theorem dX11_believed_13 : decode cX11_believed 13 = .ok (.if_icmp .le 9, 3) := by decide +kernel
theorem dX11_believed_16 : decode cX11_believed 16 = .ok (.aload_n 0, 1) := by decide +kernel
theorem dX11_believed_17 : decode cX11_believed 17 = .ok (.iconst 1, 1) := by decide +kernel
theorem dX11_believed_18 : decode cX11_believed 18 = .ok (.invokevirtual 48, 3) := by decide +kernel
theorem dX11_believed_21 : decode cX11_believed 21 = .ok (.ireturn, 1) := by decide +kernel
theorem dX11_believed_22 : decode cX11_believed 22 = .ok (.aload_n 0, 1) := by decide +kernel
theorem dX11_believed_23 : decode cX11_believed 23 = .ok (.getfield 25, 3) := by decide +kernel
theorem dX11_believed_26 : decode cX11_believed 26 = .ok (.iload_n 1, 1) := by decide +kernel
theorem dX11_believed_27 : decode cX11_believed 27 = .ok (.aaload, 1) := by decide +kernel
theorem dX11_believed_28 : decode cX11_believed 28 = .ok (.astore_n 3, 1) := by decide +kernel
theorem dX11_believed_29 : decode cX11_believed 29 = .ok (.aload_n 0, 1) := by decide +kernel
theorem dX11_believed_30 : decode cX11_believed 30 = .ok (.aload_n 3, 1) := by decide +kernel
theorem dX11_believed_31 : decode cX11_believed 31 = .ok (.invokevirtual 197, 3) := by decide +kernel
theorem dX11_believed_34 : decode cX11_believed 34 = .ok (.ifCond .ne 9, 3) := by decide +kernel
theorem dX11_believed_37 : decode cX11_believed 37 = .ok (.aload_n 0, 1) := by decide +kernel
theorem dX11_believed_38 : decode cX11_believed 38 = .ok (.iconst 2, 1) := by decide +kernel
theorem dX11_believed_39 : decode cX11_believed 39 = .ok (.invokevirtual 48, 3) := by decide +kernel
theorem dX11_believed_42 : decode cX11_believed 42 = .ok (.ireturn, 1) := by decide +kernel
theorem dX11_believed_43 : decode cX11_believed 43 = .ok (.iconst 0, 1) := by decide +kernel
theorem dX11_believed_44 : decode cX11_believed 44 = .ok (.istore 4, 2) := by decide +kernel
theorem dX11_believed_46 : decode cX11_believed 46 = .ok (.iconst (-1), 1) := by decide +kernel
theorem dX11_believed_47 : decode cX11_believed 47 = .ok (.istore 5, 2) := by decide +kernel
theorem dX11_believed_49 : decode cX11_believed 49 = .ok (.iconst 0, 1) := by decide +kernel
theorem dX11_believed_50 : decode cX11_believed 50 = .ok (.istore 6, 2) := by decide +kernel
theorem dX11_believed_52 : decode cX11_believed 52 = .ok (.iconst 0, 1) := by decide +kernel
theorem dX11_believed_53 : decode cX11_believed 53 = .ok (.istore 7, 2) := by decide +kernel
theorem dX11_believed_55 : decode cX11_believed 55 = .ok (.iload 7, 2) := by decide +kernel
theorem dX11_believed_57 : decode cX11_believed 57 = .ok (.sipush 6561, 3) := by decide +kernel
theorem dX11_believed_60 : decode cX11_believed 60 = .ok (.if_icmp .ge 46, 3) := by decide +kernel
theorem dX11_believed_63 : decode cX11_believed 63 = .ok (.aload_n 0, 1) := by decide +kernel
theorem dX11_believed_64 : decode cX11_believed 64 = .ok (.getfield 10, 3) := by decide +kernel
theorem dX11_believed_67 : decode cX11_believed 67 = .ok (.aload_n 3, 1) := by decide +kernel
theorem dX11_believed_68 : decode cX11_believed 68 = .ok (.iload 6, 2) := by decide +kernel
theorem dX11_believed_70 : decode cX11_believed 70 = .ok (.invokevirtual 201, 3) := by decide +kernel
theorem dX11_believed_73 : decode cX11_believed 73 = .ok (.ifCond .eq 20, 3) := by decide +kernel
theorem dX11_believed_76 : decode cX11_believed 76 = .ok (.iinc 4 1, 3) := by decide +kernel
theorem dX11_believed_79 : decode cX11_believed 79 = .ok (.iload 5, 2) := by decide +kernel
theorem dX11_believed_81 : decode cX11_believed 81 = .ok (.ifCond .ge 8, 3) := by decide +kernel
theorem dX11_believed_84 : decode cX11_believed 84 = .ok (.iload 7, 2) := by decide +kernel
theorem dX11_believed_86 : decode cX11_believed 86 = .ok (.goto 5, 3) := by decide +kernel
theorem dX11_believed_89 : decode cX11_believed 89 = .ok (.iload 5, 2) := by decide +kernel
theorem dX11_believed_91 : decode cX11_believed 91 = .ok (.istore 5, 2) := by decide +kernel
theorem dX11_believed_93 : decode cX11_believed 93 = .ok (.iload 6, 2) := by decide +kernel
theorem dX11_believed_95 : decode cX11_believed 95 = .ok (.invokestatic 205, 3) := by decide +kernel
theorem dX11_believed_98 : decode cX11_believed 98 = .ok (.istore 6, 2) := by decide +kernel
theorem dX11_believed_100 : decode cX11_believed 100 = .ok (.iinc 7 1, 3) := by decide +kernel
theorem dX11_believed_103 : decode cX11_believed 103 = .ok (.goto (-48), 3) := by decide +kernel
theorem dX11_believed_106 : decode cX11_believed 106 = .ok (.iload_n 2, 1) := by decide +kernel
theorem dX11_believed_107 : decode cX11_believed 107 = .ok (.ifCond .ne 6, 3) := by decide +kernel
theorem dX11_believed_110 : decode cX11_believed 110 = .ok (.iload 4, 2) := by decide +kernel
theorem dX11_believed_112 : decode cX11_believed 112 = .ok (.ireturn, 1) := by decide +kernel
theorem dX11_believed_113 : decode cX11_believed 113 = .ok (.iload 5, 2) := by decide +kernel
theorem dX11_believed_115 : decode cX11_believed 115 = .ok (.ifCond .ge 11, 3) := by decide +kernel
theorem dX11_believed_118 : decode cX11_believed 118 = .ok (.aload_n 0, 1) := by decide +kernel
theorem dX11_believed_119 : decode cX11_believed 119 = .ok (.iconst 2, 1) := by decide +kernel
theorem dX11_believed_120 : decode cX11_believed 120 = .ok (.invokevirtual 48, 3) := by decide +kernel
theorem dX11_believed_123 : decode cX11_believed 123 = .ok (.goto 5, 3) := by decide +kernel
theorem dX11_believed_126 : decode cX11_believed 126 = .ok (.iload 5, 2) := by decide +kernel
theorem dX11_believed_128 : decode cX11_believed 128 = .ok (.ireturn, 1) := by decide +kernel
theorem dX11_word_0 : decode cX11_word 0 = .ok (.iload_n 1, 1) := by decide +kernel
theorem dX11_word_1 : decode cX11_word 1 = .ok (.invokestatic 194, 3) := by decide +kernel
theorem dX11_word_4 : decode cX11_word 4 = .ok (.ifCond .eq 20, 3) := by decide +kernel
theorem dX11_word_7 : decode cX11_word 7 = .ok (.aload_n 0, 1) := by decide +kernel
theorem dX11_word_8 : decode cX11_word 8 = .ok (.iload_n 2, 1) := by decide +kernel
theorem dX11_word_9 : decode cX11_word 9 = .ok (.invokevirtual 89, 3) := by decide +kernel
theorem dX11_word_12 : decode cX11_word 12 = .ok (.ifCond .eq 12, 3) := by decide +kernel
theorem dX11_word_15 : decode cX11_word 15 = .ok (.iload_n 3, 1) := by decide +kernel
theorem dX11_word_16 : decode cX11_word 16 = .ok (.ifCond .lt 8, 3) := by decide +kernel
theorem dX11_word_19 : decode cX11_word 19 = .ok (.iload_n 3, 1) := by decide +kernel
theorem dX11_word_20 : decode cX11_word 20 = .ok (.iconst 1, 1) := by decide +kernel
theorem dX11_word_21 : decode cX11_word 21 = .ok (.if_icmp .le 9, 3) := by decide +kernel
theorem dX11_word_24 : decode cX11_word 24 = .ok (.aload_n 0, 1) := by decide +kernel
theorem dX11_word_25 : decode cX11_word 25 = .ok (.iconst 1, 1) := by decide +kernel
theorem dX11_word_26 : decode cX11_word 26 = .ok (.invokevirtual 48, 3) := by decide +kernel
theorem dX11_word_29 : decode cX11_word 29 = .ok (.ireturn, 1) := by decide +kernel
theorem dX11_word_30 : decode cX11_word 30 = .ok (.aload_n 0, 1) := by decide +kernel
theorem dX11_word_31 : decode cX11_word 31 = .ok (.getfield 25, 3) := by decide +kernel
theorem dX11_word_34 : decode cX11_word 34 = .ok (.iload_n 1, 1) := by decide +kernel
theorem dX11_word_35 : decode cX11_word 35 = .ok (.aaload, 1) := by decide +kernel
theorem dX11_word_36 : decode cX11_word 36 = .ok (.astore 4, 2) := by decide +kernel
theorem dX11_word_38 : decode cX11_word 38 = .ok (.aload_n 0, 1) := by decide +kernel
theorem dX11_word_39 : decode cX11_word 39 = .ok (.aload 4, 2) := by decide +kernel
theorem dX11_word_41 : decode cX11_word 41 = .ok (.invokevirtual 197, 3) := by decide +kernel
theorem dX11_word_44 : decode cX11_word 44 = .ok (.ifCond .ne 9, 3) := by decide +kernel
theorem dX11_word_47 : decode cX11_word 47 = .ok (.aload_n 0, 1) := by decide +kernel
theorem dX11_word_48 : decode cX11_word 48 = .ok (.iconst 2, 1) := by decide +kernel
theorem dX11_word_49 : decode cX11_word 49 = .ok (.invokevirtual 48, 3) := by decide +kernel
theorem dX11_word_52 : decode cX11_word 52 = .ok (.ireturn, 1) := by decide +kernel
theorem dX11_word_53 : decode cX11_word 53 = .ok (.iconst 0, 1) := by decide +kernel
theorem dX11_word_54 : decode cX11_word 54 = .ok (.istore 5, 2) := by decide +kernel
theorem dX11_word_56 : decode cX11_word 56 = .ok (.iconst 0, 1) := by decide +kernel
theorem dX11_word_57 : decode cX11_word 57 = .ok (.istore 6, 2) := by decide +kernel
theorem dX11_word_59 : decode cX11_word 59 = .ok (.iconst 0, 1) := by decide +kernel
theorem dX11_word_60 : decode cX11_word 60 = .ok (.istore 7, 2) := by decide +kernel
theorem dX11_word_62 : decode cX11_word 62 = .ok (.iconst 0, 1) := by decide +kernel
theorem dX11_word_63 : decode cX11_word 63 = .ok (.istore 8, 2) := by decide +kernel
theorem dX11_word_65 : decode cX11_word 65 = .ok (.iload 8, 2) := by decide +kernel
theorem dX11_word_67 : decode cX11_word 67 = .ok (.sipush 6561, 3) := by decide +kernel
theorem dX11_word_70 : decode cX11_word 70 = .ok (.if_icmp .ge 53, 3) := by decide +kernel
theorem dX11_word_73 : decode cX11_word 73 = .ok (.aload_n 0, 1) := by decide +kernel
theorem dX11_word_74 : decode cX11_word 74 = .ok (.getfield 10, 3) := by decide +kernel
theorem dX11_word_77 : decode cX11_word 77 = .ok (.aload 4, 2) := by decide +kernel
theorem dX11_word_79 : decode cX11_word 79 = .ok (.iload 7, 2) := by decide +kernel
theorem dX11_word_81 : decode cX11_word 81 = .ok (.invokevirtual 201, 3) := by decide +kernel
theorem dX11_word_84 : decode cX11_word 84 = .ok (.ifCond .eq 26, 3) := by decide +kernel
theorem dX11_word_87 : decode cX11_word 87 = .ok (.iload 5, 2) := by decide +kernel
theorem dX11_word_89 : decode cX11_word 89 = .ok (.iload 7, 2) := by decide +kernel
theorem dX11_word_91 : decode cX11_word 91 = .ok (.ior, 1) := by decide +kernel
theorem dX11_word_92 : decode cX11_word 92 = .ok (.istore 5, 2) := by decide +kernel
theorem dX11_word_94 : decode cX11_word 94 = .ok (.iload 6, 2) := by decide +kernel
theorem dX11_word_96 : decode cX11_word 96 = .ok (.sipush 255, 3) := by decide +kernel
theorem dX11_word_99 : decode cX11_word 99 = .ok (.iload 7, 2) := by decide +kernel
theorem dX11_word_101 : decode cX11_word 101 = .ok (.invokestatic 191, 3) := by decide +kernel
theorem dX11_word_104 : decode cX11_word 104 = .ok (.iconst (-1), 1) := by decide +kernel
theorem dX11_word_105 : decode cX11_word 105 = .ok (.ixor, 1) := by decide +kernel
theorem dX11_word_106 : decode cX11_word 106 = .ok (.iand, 1) := by decide +kernel
theorem dX11_word_107 : decode cX11_word 107 = .ok (.ior, 1) := by decide +kernel
theorem dX11_word_108 : decode cX11_word 108 = .ok (.istore 6, 2) := by decide +kernel
theorem dX11_word_110 : decode cX11_word 110 = .ok (.iload 7, 2) := by decide +kernel
theorem dX11_word_112 : decode cX11_word 112 = .ok (.invokestatic 205, 3) := by decide +kernel
theorem dX11_word_115 : decode cX11_word 115 = .ok (.istore 7, 2) := by decide +kernel
theorem dX11_word_117 : decode cX11_word 117 = .ok (.iinc 8 1, 3) := by decide +kernel
theorem dX11_word_120 : decode cX11_word 120 = .ok (.goto (-55), 3) := by decide +kernel
theorem dX11_word_123 : decode cX11_word 123 = .ok (.iload 5, 2) := by decide +kernel
theorem dX11_word_125 : decode cX11_word 125 = .ok (.ifCond .ne 14, 3) := by decide +kernel
theorem dX11_word_128 : decode cX11_word 128 = .ok (.iload 6, 2) := by decide +kernel
theorem dX11_word_130 : decode cX11_word 130 = .ok (.ifCond .ne 9, 3) := by decide +kernel
theorem dX11_word_133 : decode cX11_word 133 = .ok (.aload_n 0, 1) := by decide +kernel
theorem dX11_word_134 : decode cX11_word 134 = .ok (.iconst 2, 1) := by decide +kernel
theorem dX11_word_135 : decode cX11_word 135 = .ok (.invokevirtual 48, 3) := by decide +kernel
theorem dX11_word_138 : decode cX11_word 138 = .ok (.ireturn, 1) := by decide +kernel
theorem dX11_word_139 : decode cX11_word 139 = .ok (.aload_n 0, 1) := by decide +kernel
theorem dX11_word_140 : decode cX11_word 140 = .ok (.iload_n 2, 1) := by decide +kernel
theorem dX11_word_141 : decode cX11_word 141 = .ok (.iload 5, 2) := by decide +kernel
theorem dX11_word_143 : decode cX11_word 143 = .ok (.iload 6, 2) := by decide +kernel
theorem dX11_word_145 : decode cX11_word 145 = .ok (.iload_n 3, 1) := by decide +kernel
theorem dX11_word_146 : decode cX11_word 146 = .ok (.invokevirtual 208, 3) := by decide +kernel
theorem dX11_word_149 : decode cX11_word 149 = .ok (.ireturn, 1) := by decide +kernel
theorem dX11_seed_0 : decode cX11_seed 0 = .ok (.aload_n 0, 1) := by decide +kernel
theorem dX11_seed_1 : decode cX11_seed 1 = .ok (.getfield 10, 3) := by decide +kernel
theorem dX11_seed_4 : decode cX11_seed 4 = .ok (.getfield 212, 3) := by decide +kernel
theorem dX11_seed_7 : decode cX11_seed 7 = .ok (.istore_n 2, 1) := by decide +kernel
theorem dX11_seed_8 : decode cX11_seed 8 = .ok (.aload_n 0, 1) := by decide +kernel
theorem dX11_seed_9 : decode cX11_seed 9 = .ok (.getfield 10, 3) := by decide +kernel
theorem dX11_seed_12 : decode cX11_seed 12 = .ok (.iload_n 1, 1) := by decide +kernel
theorem dX11_seed_13 : decode cX11_seed 13 = .ok (.putfield 212, 3) := by decide +kernel
theorem dX11_seed_16 : decode cX11_seed 16 = .ok (.iload_n 2, 1) := by decide +kernel
theorem dX11_seed_17 : decode cX11_seed 17 = .ok (.ireturn, 1) := by decide +kernel
theorem dX11_voice_0 : decode cX11_voice 0 = .ok (.aload_n 0, 1) := by decide +kernel
theorem dX11_voice_1 : decode cX11_voice 1 = .ok (.iload_n 1, 1) := by decide +kernel
theorem dX11_voice_2 : decode cX11_voice 2 = .ok (.invokevirtual 89, 3) := by decide +kernel
theorem dX11_voice_5 : decode cX11_voice 5 = .ok (.ifCond .eq 12, 3) := by decide +kernel
theorem dX11_voice_8 : decode cX11_voice 8 = .ok (.iload_n 2, 1) := by decide +kernel
theorem dX11_voice_9 : decode cX11_voice 9 = .ok (.ifCond .lt 8, 3) := by decide +kernel
theorem dX11_voice_12 : decode cX11_voice 12 = .ok (.iload_n 2, 1) := by decide +kernel
theorem dX11_voice_13 : decode cX11_voice 13 = .ok (.iconst 3, 1) := by decide +kernel
theorem dX11_voice_14 : decode cX11_voice 14 = .ok (.if_icmp .le 9, 3) := by decide +kernel
theorem dX11_voice_17 : decode cX11_voice 17 = .ok (.aload_n 0, 1) := by decide +kernel
theorem dX11_voice_18 : decode cX11_voice 18 = .ok (.iconst 1, 1) := by decide +kernel
theorem dX11_voice_19 : decode cX11_voice 19 = .ok (.invokevirtual 48, 3) := by decide +kernel
theorem dX11_voice_22 : decode cX11_voice 22 = .ok (.ireturn, 1) := by decide +kernel
theorem dX11_voice_23 : decode cX11_voice 23 = .ok (.aload_n 0, 1) := by decide +kernel
theorem dX11_voice_24 : decode cX11_voice 24 = .ok (.getfield 10, 3) := by decide +kernel
theorem dX11_voice_27 : decode cX11_voice 27 = .ok (.getfield 78, 3) := by decide +kernel
theorem dX11_voice_30 : decode cX11_voice 30 = .ok (.iload_n 1, 1) := by decide +kernel
theorem dX11_voice_31 : decode cX11_voice 31 = .ok (.aaload, 1) := by decide +kernel
theorem dX11_voice_32 : decode cX11_voice 32 = .ok (.astore 4, 2) := by decide +kernel
theorem dX11_voice_34 : decode cX11_voice 34 = .ok (.aload_n 0, 1) := by decide +kernel
theorem dX11_voice_35 : decode cX11_voice 35 = .ok (.getfield 32, 3) := by decide +kernel
theorem dX11_voice_38 : decode cX11_voice 38 = .ok (.iconst 0, 1) := by decide +kernel
theorem dX11_voice_39 : decode cX11_voice 39 = .ok (.putfield 215, 3) := by decide +kernel
theorem dX11_voice_42 : decode cX11_voice 42 = .ok (.iload_n 2, 1) := by decide +kernel
theorem dX11_voice_43 : decode cX11_voice 43 = .ok (.tableswitch 58 0 2 #[25, 36, 47], 25) := by decide +kernel
theorem dX11_voice_68 : decode cX11_voice 68 = .ok (.aload 4, 2) := by decide +kernel
theorem dX11_voice_70 : decode cX11_voice 70 = .ok (.aload_n 0, 1) := by decide +kernel
theorem dX11_voice_71 : decode cX11_voice 71 = .ok (.getfield 32, 3) := by decide +kernel
theorem dX11_voice_74 : decode cX11_voice 74 = .ok (.iload_n 3, 1) := by decide +kernel
theorem dX11_voice_75 : decode cX11_voice 75 = .ok (.invokevirtual 218, 3) := by decide +kernel
theorem dX11_voice_78 : decode cX11_voice 78 = .ok (.ireturn, 1) := by decide +kernel
theorem dX11_voice_79 : decode cX11_voice 79 = .ok (.aload 4, 2) := by decide +kernel
theorem dX11_voice_81 : decode cX11_voice 81 = .ok (.aload_n 0, 1) := by decide +kernel
theorem dX11_voice_82 : decode cX11_voice 82 = .ok (.getfield 32, 3) := by decide +kernel
theorem dX11_voice_85 : decode cX11_voice 85 = .ok (.iload_n 3, 1) := by decide +kernel
theorem dX11_voice_86 : decode cX11_voice 86 = .ok (.invokevirtual 222, 3) := by decide +kernel
theorem dX11_voice_89 : decode cX11_voice 89 = .ok (.ireturn, 1) := by decide +kernel
theorem dX11_voice_90 : decode cX11_voice 90 = .ok (.aload 4, 2) := by decide +kernel
theorem dX11_voice_92 : decode cX11_voice 92 = .ok (.aload_n 0, 1) := by decide +kernel
theorem dX11_voice_93 : decode cX11_voice 93 = .ok (.getfield 32, 3) := by decide +kernel
theorem dX11_voice_96 : decode cX11_voice 96 = .ok (.iload_n 3, 1) := by decide +kernel
theorem dX11_voice_97 : decode cX11_voice 97 = .ok (.invokevirtual 225, 3) := by decide +kernel
theorem dX11_voice_100 : decode cX11_voice 100 = .ok (.ireturn, 1) := by decide +kernel
theorem dX11_voice_101 : decode cX11_voice 101 = .ok (.aload 4, 2) := by decide +kernel
theorem dX11_voice_103 : decode cX11_voice 103 = .ok (.aload_n 0, 1) := by decide +kernel
theorem dX11_voice_104 : decode cX11_voice 104 = .ok (.getfield 32, 3) := by decide +kernel
theorem dX11_voice_107 : decode cX11_voice 107 = .ok (.iload_n 3, 1) := by decide +kernel
theorem dX11_voice_108 : decode cX11_voice 108 = .ok (.invokevirtual 228, 3) := by decide +kernel
theorem dX11_voice_111 : decode cX11_voice 111 = .ok (.ireturn, 1) := by decide +kernel
theorem dX11_trace_0 : decode cX11_trace 0 = .ok (.iload_n 1, 1) := by decide +kernel
theorem dX11_trace_1 : decode cX11_trace 1 = .ok (.ifCond .lt 14, 3) := by decide +kernel
theorem dX11_trace_4 : decode cX11_trace 4 = .ok (.iload_n 1, 1) := by decide +kernel
theorem dX11_trace_5 : decode cX11_trace 5 = .ok (.aload_n 0, 1) := by decide +kernel
theorem dX11_trace_6 : decode cX11_trace 6 = .ok (.getfield 32, 3) := by decide +kernel
theorem dX11_trace_9 : decode cX11_trace 9 = .ok (.getfield 215, 3) := by decide +kernel
theorem dX11_trace_12 : decode cX11_trace 12 = .ok (.if_icmp .lt 11, 3) := by decide +kernel
theorem dX11_trace_15 : decode cX11_trace 15 = .ok (.aload_n 0, 1) := by decide +kernel
theorem dX11_trace_16 : decode cX11_trace 16 = .ok (.iconst 2, 1) := by decide +kernel
theorem dX11_trace_17 : decode cX11_trace 17 = .ok (.invokevirtual 48, 3) := by decide +kernel
theorem dX11_trace_20 : decode cX11_trace 20 = .ok (.goto 12, 3) := by decide +kernel
theorem dX11_trace_23 : decode cX11_trace 23 = .ok (.aload_n 0, 1) := by decide +kernel
theorem dX11_trace_24 : decode cX11_trace 24 = .ok (.getfield 32, 3) := by decide +kernel
theorem dX11_trace_27 : decode cX11_trace 27 = .ok (.getfield 231, 3) := by decide +kernel
theorem dX11_trace_30 : decode cX11_trace 30 = .ok (.iload_n 1, 1) := by decide +kernel
theorem dX11_trace_31 : decode cX11_trace 31 = .ok (.iaload, 1) := by decide +kernel
theorem dX11_trace_32 : decode cX11_trace 32 = .ok (.ireturn, 1) := by decide +kernel
theorem dX11_sheet_0 : decode cX11_sheet 0 = .ok (.iload_n 1, 1) := by decide +kernel
theorem dX11_sheet_1 : decode cX11_sheet 1 = .ok (.invokestatic 194, 3) := by decide +kernel
theorem dX11_sheet_4 : decode cX11_sheet 4 = .ok (.ifCond .eq 25, 3) := by decide +kernel
theorem dX11_sheet_7 : decode cX11_sheet 7 = .ok (.iload_n 2, 1) := by decide +kernel
theorem dX11_sheet_8 : decode cX11_sheet 8 = .ok (.ifCond .eq 27, 3) := by decide +kernel
theorem dX11_sheet_11 : decode cX11_sheet 11 = .ok (.iload_n 2, 1) := by decide +kernel
theorem dX11_sheet_12 : decode cX11_sheet 12 = .ok (.bipush 8, 2) := by decide +kernel
theorem dX11_sheet_14 : decode cX11_sheet 14 = .ok (.if_icmp .eq 21, 3) := by decide +kernel
theorem dX11_sheet_17 : decode cX11_sheet 17 = .ok (.iload_n 2, 1) := by decide +kernel
theorem dX11_sheet_18 : decode cX11_sheet 18 = .ok (.bipush 16, 2) := by decide +kernel
theorem dX11_sheet_20 : decode cX11_sheet 20 = .ok (.if_icmp .eq 15, 3) := by decide +kernel
theorem dX11_sheet_23 : decode cX11_sheet 23 = .ok (.iload_n 2, 1) := by decide +kernel
theorem dX11_sheet_24 : decode cX11_sheet 24 = .ok (.bipush 32, 2) := by decide +kernel
theorem dX11_sheet_26 : decode cX11_sheet 26 = .ok (.if_icmp .eq 9, 3) := by decide +kernel
theorem dX11_sheet_29 : decode cX11_sheet 29 = .ok (.aload_n 0, 1) := by decide +kernel
theorem dX11_sheet_30 : decode cX11_sheet 30 = .ok (.iconst 1, 1) := by decide +kernel
theorem dX11_sheet_31 : decode cX11_sheet 31 = .ok (.invokevirtual 48, 3) := by decide +kernel
theorem dX11_sheet_34 : decode cX11_sheet 34 = .ok (.ireturn, 1) := by decide +kernel
theorem dX11_sheet_35 : decode cX11_sheet 35 = .ok (.iload_n 2, 1) := by decide +kernel
theorem dX11_sheet_36 : decode cX11_sheet 36 = .ok (.ifCond .eq 13, 3) := by decide +kernel
theorem dX11_sheet_39 : decode cX11_sheet 39 = .ok (.iload_n 3, 1) := by decide +kernel
theorem dX11_sheet_40 : decode cX11_sheet 40 = .ok (.ifCond .ge 9, 3) := by decide +kernel
theorem dX11_sheet_43 : decode cX11_sheet 43 = .ok (.aload_n 0, 1) := by decide +kernel
theorem dX11_sheet_44 : decode cX11_sheet 44 = .ok (.iconst 3, 1) := by decide +kernel
theorem dX11_sheet_45 : decode cX11_sheet 45 = .ok (.invokevirtual 48, 3) := by decide +kernel
theorem dX11_sheet_48 : decode cX11_sheet 48 = .ok (.ireturn, 1) := by decide +kernel
theorem dX11_sheet_49 : decode cX11_sheet 49 = .ok (.iload_n 2, 1) := by decide +kernel
theorem dX11_sheet_50 : decode cX11_sheet 50 = .ok (.ifCond .eq 15, 3) := by decide +kernel
theorem dX11_sheet_53 : decode cX11_sheet 53 = .ok (.iload_n 3, 1) := by decide +kernel
theorem dX11_sheet_54 : decode cX11_sheet 54 = .ok (.bipush 40, 2) := by decide +kernel
theorem dX11_sheet_56 : decode cX11_sheet 56 = .ok (.if_icmp .le 9, 3) := by decide +kernel
theorem dX11_sheet_59 : decode cX11_sheet 59 = .ok (.aload_n 0, 1) := by decide +kernel
theorem dX11_sheet_60 : decode cX11_sheet 60 = .ok (.iconst 1, 1) := by decide +kernel
theorem dX11_sheet_61 : decode cX11_sheet 61 = .ok (.invokevirtual 48, 3) := by decide +kernel
theorem dX11_sheet_64 : decode cX11_sheet 64 = .ok (.ireturn, 1) := by decide +kernel
theorem dX11_sheet_65 : decode cX11_sheet 65 = .ok (.aload_n 0, 1) := by decide +kernel
theorem dX11_sheet_66 : decode cX11_sheet 66 = .ok (.getfield 25, 3) := by decide +kernel
theorem dX11_sheet_69 : decode cX11_sheet 69 = .ok (.iload_n 1, 1) := by decide +kernel
theorem dX11_sheet_70 : decode cX11_sheet 70 = .ok (.aaload, 1) := by decide +kernel
theorem dX11_sheet_71 : decode cX11_sheet 71 = .ok (.iload_n 2, 1) := by decide +kernel
theorem dX11_sheet_72 : decode cX11_sheet 72 = .ok (.iload_n 3, 1) := by decide +kernel
theorem dX11_sheet_73 : decode cX11_sheet 73 = .ok (.invokevirtual 234, 3) := by decide +kernel
theorem dX11_sheet_76 : decode cX11_sheet 76 = .ok (.iconst 1, 1) := by decide +kernel
theorem dX11_sheet_77 : decode cX11_sheet 77 = .ok (.ireturn, 1) := by decide +kernel
theorem dX11_put_0 : decode cX11_put 0 = .ok (.iload_n 1, 1) := by decide +kernel
theorem dX11_put_1 : decode cX11_put 1 = .ok (.invokestatic 194, 3) := by decide +kernel
theorem dX11_put_4 : decode cX11_put 4 = .ok (.ifCond .ne 9, 3) := by decide +kernel
theorem dX11_put_7 : decode cX11_put 7 = .ok (.aload_n 0, 1) := by decide +kernel
theorem dX11_put_8 : decode cX11_put 8 = .ok (.iconst 1, 1) := by decide +kernel
theorem dX11_put_9 : decode cX11_put 9 = .ok (.invokevirtual 48, 3) := by decide +kernel
theorem dX11_put_12 : decode cX11_put 12 = .ok (.ireturn, 1) := by decide +kernel
theorem dX11_put_13 : decode cX11_put 13 = .ok (.aload_n 0, 1) := by decide +kernel
theorem dX11_put_14 : decode cX11_put 14 = .ok (.getfield 25, 3) := by decide +kernel
theorem dX11_put_17 : decode cX11_put 17 = .ok (.iload_n 1, 1) := by decide +kernel
theorem dX11_put_18 : decode cX11_put 18 = .ok (.aaload, 1) := by decide +kernel
theorem dX11_put_19 : decode cX11_put 19 = .ok (.astore 4, 2) := by decide +kernel
theorem dX11_put_21 : decode cX11_put 21 = .ok (.aload 4, 2) := by decide +kernel
theorem dX11_put_23 : decode cX11_put 23 = .ok (.invokevirtual 238, 3) := by decide +kernel
theorem dX11_put_26 : decode cX11_put 26 = .ok (.ifCond .eq 9, 3) := by decide +kernel
theorem dX11_put_29 : decode cX11_put 29 = .ok (.aload_n 0, 1) := by decide +kernel
theorem dX11_put_30 : decode cX11_put 30 = .ok (.iconst 2, 1) := by decide +kernel
theorem dX11_put_31 : decode cX11_put 31 = .ok (.invokevirtual 48, 3) := by decide +kernel
theorem dX11_put_34 : decode cX11_put 34 = .ok (.ireturn, 1) := by decide +kernel
theorem dX11_put_35 : decode cX11_put 35 = .ok (.iload_n 2, 1) := by decide +kernel
theorem dX11_put_36 : decode cX11_put 36 = .ok (.ifCond .lt 12, 3) := by decide +kernel
theorem dX11_put_39 : decode cX11_put 39 = .ok (.iload_n 2, 1) := by decide +kernel
theorem dX11_put_40 : decode cX11_put 40 = .ok (.aload 4, 2) := by decide +kernel
theorem dX11_put_42 : decode cX11_put 42 = .ok (.getfield 242, 3) := by decide +kernel
theorem dX11_put_45 : decode cX11_put 45 = .ok (.if_icmp .lt 9, 3) := by decide +kernel
theorem dX11_put_48 : decode cX11_put 48 = .ok (.aload_n 0, 1) := by decide +kernel
theorem dX11_put_49 : decode cX11_put 49 = .ok (.iconst 1, 1) := by decide +kernel
theorem dX11_put_50 : decode cX11_put 50 = .ok (.invokevirtual 48, 3) := by decide +kernel
theorem dX11_put_53 : decode cX11_put 53 = .ok (.ireturn, 1) := by decide +kernel
theorem dX11_put_54 : decode cX11_put 54 = .ok (.aload 4, 2) := by decide +kernel
theorem dX11_put_56 : decode cX11_put 56 = .ok (.getfield 243, 3) := by decide +kernel
theorem dX11_put_59 : decode cX11_put 59 = .ok (.iload_n 2, 1) := by decide +kernel
theorem dX11_put_60 : decode cX11_put 60 = .ok (.aload 4, 2) := by decide +kernel
theorem dX11_put_62 : decode cX11_put 62 = .ok (.iload_n 3, 1) := by decide +kernel
theorem dX11_put_63 : decode cX11_put 63 = .ok (.invokevirtual 246, 3) := by decide +kernel
theorem dX11_put_66 : decode cX11_put 66 = .ok (.iastore, 1) := by decide +kernel
theorem dX11_put_67 : decode cX11_put 67 = .ok (.iconst 1, 1) := by decide +kernel
theorem dX11_put_68 : decode cX11_put 68 = .ok (.ireturn, 1) := by decide +kernel
theorem dX11_move_0 : decode cX11_move 0 = .ok (.iload_n 1, 1) := by decide +kernel
theorem dX11_move_1 : decode cX11_move 1 = .ok (.invokestatic 194, 3) := by decide +kernel
theorem dX11_move_4 : decode cX11_move 4 = .ok (.ifCond .eq 10, 3) := by decide +kernel
theorem dX11_move_7 : decode cX11_move 7 = .ok (.iload_n 3, 1) := by decide +kernel
theorem dX11_move_8 : decode cX11_move 8 = .ok (.invokestatic 194, 3) := by decide +kernel
theorem dX11_move_11 : decode cX11_move 11 = .ok (.ifCond .ne 9, 3) := by decide +kernel
theorem dX11_move_14 : decode cX11_move 14 = .ok (.aload_n 0, 1) := by decide +kernel
theorem dX11_move_15 : decode cX11_move 15 = .ok (.iconst 1, 1) := by decide +kernel
theorem dX11_move_16 : decode cX11_move 16 = .ok (.invokevirtual 48, 3) := by decide +kernel
theorem dX11_move_19 : decode cX11_move 19 = .ok (.ireturn, 1) := by decide +kernel
theorem dX11_move_20 : decode cX11_move 20 = .ok (.aload_n 0, 1) := by decide +kernel
theorem dX11_move_21 : decode cX11_move 21 = .ok (.getfield 25, 3) := by decide +kernel
theorem dX11_move_24 : decode cX11_move 24 = .ok (.iload_n 1, 1) := by decide +kernel
theorem dX11_move_25 : decode cX11_move 25 = .ok (.aaload, 1) := by decide +kernel
theorem dX11_move_26 : decode cX11_move 26 = .ok (.astore 6, 2) := by decide +kernel
theorem dX11_move_28 : decode cX11_move 28 = .ok (.aload_n 0, 1) := by decide +kernel
theorem dX11_move_29 : decode cX11_move 29 = .ok (.getfield 25, 3) := by decide +kernel
theorem dX11_move_32 : decode cX11_move 32 = .ok (.iload_n 3, 1) := by decide +kernel
theorem dX11_move_33 : decode cX11_move 33 = .ok (.aaload, 1) := by decide +kernel
theorem dX11_move_34 : decode cX11_move 34 = .ok (.astore 7, 2) := by decide +kernel
theorem dX11_move_36 : decode cX11_move 36 = .ok (.aload 6, 2) := by decide +kernel
theorem dX11_move_38 : decode cX11_move 38 = .ok (.invokevirtual 238, 3) := by decide +kernel
theorem dX11_move_41 : decode cX11_move 41 = .ok (.ifCond .ne 11, 3) := by decide +kernel
theorem dX11_move_44 : decode cX11_move 44 = .ok (.aload 7, 2) := by decide +kernel
theorem dX11_move_46 : decode cX11_move 46 = .ok (.invokevirtual 238, 3) := by decide +kernel
theorem dX11_move_49 : decode cX11_move 49 = .ok (.ifCond .eq 9, 3) := by decide +kernel
theorem dX11_move_52 : decode cX11_move 52 = .ok (.aload_n 0, 1) := by decide +kernel
theorem dX11_move_53 : decode cX11_move 53 = .ok (.iconst 2, 1) := by decide +kernel
theorem dX11_move_54 : decode cX11_move 54 = .ok (.invokevirtual 48, 3) := by decide +kernel
theorem dX11_move_57 : decode cX11_move 57 = .ok (.ireturn, 1) := by decide +kernel
theorem dX11_move_58 : decode cX11_move 58 = .ok (.aload 6, 2) := by decide +kernel
theorem dX11_move_60 : decode cX11_move 60 = .ok (.getfield 249, 3) := by decide +kernel
theorem dX11_move_63 : decode cX11_move 63 = .ok (.aload 7, 2) := by decide +kernel
theorem dX11_move_65 : decode cX11_move 65 = .ok (.getfield 249, 3) := by decide +kernel
theorem dX11_move_68 : decode cX11_move 68 = .ok (.if_icmp .eq 9, 3) := by decide +kernel
theorem dX11_move_71 : decode cX11_move 71 = .ok (.aload_n 0, 1) := by decide +kernel
theorem dX11_move_72 : decode cX11_move 72 = .ok (.iconst 5, 1) := by decide +kernel
theorem dX11_move_73 : decode cX11_move 73 = .ok (.invokevirtual 48, 3) := by decide +kernel
theorem dX11_move_76 : decode cX11_move 76 = .ok (.ireturn, 1) := by decide +kernel
theorem dX11_move_77 : decode cX11_move 77 = .ok (.aload 6, 2) := by decide +kernel
theorem dX11_move_79 : decode cX11_move 79 = .ok (.iload_n 2, 1) := by decide +kernel
theorem dX11_move_80 : decode cX11_move 80 = .ok (.iload 5, 2) := by decide +kernel
theorem dX11_move_82 : decode cX11_move 82 = .ok (.invokevirtual 252, 3) := by decide +kernel
theorem dX11_move_85 : decode cX11_move 85 = .ok (.ifCond .eq 15, 3) := by decide +kernel
theorem dX11_move_88 : decode cX11_move 88 = .ok (.aload 7, 2) := by decide +kernel
theorem dX11_move_90 : decode cX11_move 90 = .ok (.iload 4, 2) := by decide +kernel
theorem dX11_move_92 : decode cX11_move 92 = .ok (.iload 5, 2) := by decide +kernel
theorem dX11_move_94 : decode cX11_move 94 = .ok (.invokevirtual 252, 3) := by decide +kernel
theorem dX11_move_97 : decode cX11_move 97 = .ok (.ifCond .ne 9, 3) := by decide +kernel
theorem dX11_move_100 : decode cX11_move 100 = .ok (.aload_n 0, 1) := by decide +kernel
theorem dX11_move_101 : decode cX11_move 101 = .ok (.iconst 1, 1) := by decide +kernel
theorem dX11_move_102 : decode cX11_move 102 = .ok (.invokevirtual 48, 3) := by decide +kernel
theorem dX11_move_105 : decode cX11_move 105 = .ok (.ireturn, 1) := by decide +kernel
theorem dX11_move_106 : decode cX11_move 106 = .ok (.aload 6, 2) := by decide +kernel
theorem dX11_move_108 : decode cX11_move 108 = .ok (.getfield 243, 3) := by decide +kernel
theorem dX11_move_111 : decode cX11_move 111 = .ok (.iload_n 2, 1) := by decide +kernel
theorem dX11_move_112 : decode cX11_move 112 = .ok (.aload 7, 2) := by decide +kernel
theorem dX11_move_114 : decode cX11_move 114 = .ok (.getfield 243, 3) := by decide +kernel
theorem dX11_move_117 : decode cX11_move 117 = .ok (.iload 4, 2) := by decide +kernel
theorem dX11_move_119 : decode cX11_move 119 = .ok (.iload 5, 2) := by decide +kernel
theorem dX11_move_121 : decode cX11_move 121 = .ok (.invokestatic 255, 3) := by decide +kernel
theorem dX11_move_124 : decode cX11_move 124 = .ok (.iload 5, 2) := by decide +kernel
theorem dX11_move_126 : decode cX11_move 126 = .ok (.ireturn, 1) := by decide +kernel
theorem dX11_stories_0 : decode cX11_stories 0 = .ok (.iload_n 1, 1) := by decide +kernel
theorem dX11_stories_1 : decode cX11_stories 1 = .ok (.invokestatic 194, 3) := by decide +kernel
theorem dX11_stories_4 : decode cX11_stories 4 = .ok (.ifCond .ne 9, 3) := by decide +kernel
theorem dX11_stories_7 : decode cX11_stories 7 = .ok (.aload_n 0, 1) := by decide +kernel
theorem dX11_stories_8 : decode cX11_stories 8 = .ok (.iconst 1, 1) := by decide +kernel
theorem dX11_stories_9 : decode cX11_stories 9 = .ok (.invokevirtual 48, 3) := by decide +kernel
theorem dX11_stories_12 : decode cX11_stories 12 = .ok (.ireturn, 1) := by decide +kernel
theorem dX11_stories_13 : decode cX11_stories 13 = .ok (.aload_n 0, 1) := by decide +kernel
theorem dX11_stories_14 : decode cX11_stories 14 = .ok (.getfield 25, 3) := by decide +kernel
theorem dX11_stories_17 : decode cX11_stories 17 = .ok (.iload_n 1, 1) := by decide +kernel
theorem dX11_stories_18 : decode cX11_stories 18 = .ok (.aaload, 1) := by decide +kernel
theorem dX11_stories_19 : decode cX11_stories 19 = .ok (.astore_n 2, 1) := by decide +kernel
theorem dX11_stories_20 : decode cX11_stories 20 = .ok (.aload_n 2, 1) := by decide +kernel
theorem dX11_stories_21 : decode cX11_stories 21 = .ok (.invokevirtual 238, 3) := by decide +kernel
theorem dX11_stories_24 : decode cX11_stories 24 = .ok (.ifCond .eq 9, 3) := by decide +kernel
theorem dX11_stories_27 : decode cX11_stories 27 = .ok (.aload_n 0, 1) := by decide +kernel
theorem dX11_stories_28 : decode cX11_stories 28 = .ok (.iconst 2, 1) := by decide +kernel
theorem dX11_stories_29 : decode cX11_stories 29 = .ok (.invokevirtual 48, 3) := by decide +kernel
theorem dX11_stories_32 : decode cX11_stories 32 = .ok (.ireturn, 1) := by decide +kernel
theorem dX11_stories_33 : decode cX11_stories 33 = .ok (.iconst 0, 1) := by decide +kernel
theorem dX11_stories_34 : decode cX11_stories 34 = .ok (.istore_n 3, 1) := by decide +kernel
theorem dX11_stories_35 : decode cX11_stories 35 = .ok (.iload_n 3, 1) := by decide +kernel
theorem dX11_stories_36 : decode cX11_stories 36 = .ok (.aload_n 2, 1) := by decide +kernel
theorem dX11_stories_37 : decode cX11_stories 37 = .ok (.getfield 242, 3) := by decide +kernel
theorem dX11_stories_40 : decode cX11_stories 40 = .ok (.if_icmp .ge 50, 3) := by decide +kernel
theorem dX11_stories_43 : decode cX11_stories 43 = .ok (.iload_n 3, 1) := by decide +kernel
theorem dX11_stories_44 : decode cX11_stories 44 = .ok (.aload_n 0, 1) := by decide +kernel
theorem dX11_stories_45 : decode cX11_stories 45 = .ok (.getfield 10, 3) := by decide +kernel
theorem dX11_stories_48 : decode cX11_stories 48 = .ok (.getfield 75, 3) := by decide +kernel
theorem dX11_stories_51 : decode cX11_stories 51 = .ok (.if_icmp .ge 39, 3) := by decide +kernel
theorem dX11_stories_54 : decode cX11_stories 54 = .ok (.aload_n 2, 1) := by decide +kernel
theorem dX11_stories_55 : decode cX11_stories 55 = .ok (.getfield 243, 3) := by decide +kernel
theorem dX11_stories_58 : decode cX11_stories 58 = .ok (.iload_n 3, 1) := by decide +kernel
theorem dX11_stories_59 : decode cX11_stories 59 = .ok (.iaload, 1) := by decide +kernel
theorem dX11_stories_60 : decode cX11_stories 60 = .ok (.invokestatic 127, 3) := by decide +kernel
theorem dX11_stories_63 : decode cX11_stories 63 = .ok (.ifCond .eq 27, 3) := by decide +kernel
theorem dX11_stories_66 : decode cX11_stories 66 = .ok (.aload_n 0, 1) := by decide +kernel
theorem dX11_stories_67 : decode cX11_stories 67 = .ok (.getfield 10, 3) := by decide +kernel
theorem dX11_stories_70 : decode cX11_stories 70 = .ok (.getfield 86, 3) := by decide +kernel
theorem dX11_stories_73 : decode cX11_stories 73 = .ok (.iload_n 3, 1) := by decide +kernel
theorem dX11_stories_74 : decode cX11_stories 74 = .ok (.aload_n 2, 1) := by decide +kernel
theorem dX11_stories_75 : decode cX11_stories 75 = .ok (.getfield 243, 3) := by decide +kernel
theorem dX11_stories_78 : decode cX11_stories 78 = .ok (.iload_n 3, 1) := by decide +kernel
theorem dX11_stories_79 : decode cX11_stories 79 = .ok (.iaload, 1) := by decide +kernel
theorem dX11_stories_80 : decode cX11_stories 80 = .ok (.invokestatic 130, 3) := by decide +kernel
theorem dX11_stories_83 : decode cX11_stories 83 = .ok (.iastore, 1) := by decide +kernel
theorem dX11_stories_84 : decode cX11_stories 84 = .ok (.iinc 3 1, 3) := by decide +kernel
theorem dX11_stories_87 : decode cX11_stories 87 = .ok (.goto (-52), 3) := by decide +kernel
theorem dX11_stories_90 : decode cX11_stories 90 = .ok (.iload_n 3, 1) := by decide +kernel
theorem dX11_stories_91 : decode cX11_stories 91 = .ok (.ireturn, 1) := by decide +kernel
theorem dX11_judge_0 : decode cX11_judge 0 = .ok (.iload_n 1, 1) := by decide +kernel
theorem dX11_judge_1 : decode cX11_judge 1 = .ok (.invokestatic 194, 3) := by decide +kernel
theorem dX11_judge_4 : decode cX11_judge 4 = .ok (.ifCond .ne 9, 3) := by decide +kernel
theorem dX11_judge_7 : decode cX11_judge 7 = .ok (.aload_n 0, 1) := by decide +kernel
theorem dX11_judge_8 : decode cX11_judge 8 = .ok (.iconst 1, 1) := by decide +kernel
theorem dX11_judge_9 : decode cX11_judge 9 = .ok (.invokevirtual 48, 3) := by decide +kernel
theorem dX11_judge_12 : decode cX11_judge 12 = .ok (.ireturn, 1) := by decide +kernel
theorem dX11_judge_13 : decode cX11_judge 13 = .ok (.aload_n 0, 1) := by decide +kernel
theorem dX11_judge_14 : decode cX11_judge 14 = .ok (.getfield 25, 3) := by decide +kernel
theorem dX11_judge_17 : decode cX11_judge 17 = .ok (.iload_n 1, 1) := by decide +kernel
theorem dX11_judge_18 : decode cX11_judge 18 = .ok (.aaload, 1) := by decide +kernel
theorem dX11_judge_19 : decode cX11_judge 19 = .ok (.astore_n 2, 1) := by decide +kernel
theorem dX11_judge_20 : decode cX11_judge 20 = .ok (.aload_n 2, 1) := by decide +kernel
theorem dX11_judge_21 : decode cX11_judge 21 = .ok (.invokevirtual 238, 3) := by decide +kernel
theorem dX11_judge_24 : decode cX11_judge 24 = .ok (.ifCond .eq 9, 3) := by decide +kernel
theorem dX11_judge_27 : decode cX11_judge 27 = .ok (.aload_n 0, 1) := by decide +kernel
theorem dX11_judge_28 : decode cX11_judge 28 = .ok (.iconst 2, 1) := by decide +kernel
theorem dX11_judge_29 : decode cX11_judge 29 = .ok (.invokevirtual 48, 3) := by decide +kernel
theorem dX11_judge_32 : decode cX11_judge 32 = .ok (.ireturn, 1) := by decide +kernel
theorem dX11_judge_33 : decode cX11_judge 33 = .ok (.iconst 0, 1) := by decide +kernel
theorem dX11_judge_34 : decode cX11_judge 34 = .ok (.istore_n 3, 1) := by decide +kernel
theorem dX11_judge_35 : decode cX11_judge 35 = .ok (.iload_n 3, 1) := by decide +kernel
theorem dX11_judge_36 : decode cX11_judge 36 = .ok (.aload_n 2, 1) := by decide +kernel
theorem dX11_judge_37 : decode cX11_judge 37 = .ok (.getfield 242, 3) := by decide +kernel
theorem dX11_judge_40 : decode cX11_judge 40 = .ok (.if_icmp .ge 53, 3) := by decide +kernel
theorem dX11_judge_43 : decode cX11_judge 43 = .ok (.iload_n 3, 1) := by decide +kernel
theorem dX11_judge_44 : decode cX11_judge 44 = .ok (.aload_n 0, 1) := by decide +kernel
theorem dX11_judge_45 : decode cX11_judge 45 = .ok (.getfield 10, 3) := by decide +kernel
theorem dX11_judge_48 : decode cX11_judge 48 = .ok (.getfield 75, 3) := by decide +kernel
theorem dX11_judge_51 : decode cX11_judge 51 = .ok (.if_icmp .ge 42, 3) := by decide +kernel
theorem dX11_judge_54 : decode cX11_judge 54 = .ok (.aload_n 2, 1) := by decide +kernel
theorem dX11_judge_55 : decode cX11_judge 55 = .ok (.getfield 243, 3) := by decide +kernel
theorem dX11_judge_58 : decode cX11_judge 58 = .ok (.iload_n 3, 1) := by decide +kernel
theorem dX11_judge_59 : decode cX11_judge 59 = .ok (.iaload, 1) := by decide +kernel
theorem dX11_judge_60 : decode cX11_judge 60 = .ok (.aload_n 0, 1) := by decide +kernel
theorem dX11_judge_61 : decode cX11_judge 61 = .ok (.getfield 10, 3) := by decide +kernel
theorem dX11_judge_64 : decode cX11_judge 64 = .ok (.iload_n 3, 1) := by decide +kernel
theorem dX11_judge_65 : decode cX11_judge 65 = .ok (.aload_n 0, 1) := by decide +kernel
theorem dX11_judge_66 : decode cX11_judge 66 = .ok (.getfield 10, 3) := by decide +kernel
theorem dX11_judge_69 : decode cX11_judge 69 = .ok (.getfield 86, 3) := by decide +kernel
theorem dX11_judge_72 : decode cX11_judge 72 = .ok (.iload_n 3, 1) := by decide +kernel
theorem dX11_judge_73 : decode cX11_judge 73 = .ok (.iaload, 1) := by decide +kernel
theorem dX11_judge_74 : decode cX11_judge 74 = .ok (.aload_n 0, 1) := by decide +kernel
theorem dX11_judge_75 : decode cX11_judge 75 = .ok (.getfield 10, 3) := by decide +kernel
theorem dX11_judge_78 : decode cX11_judge 78 = .ok (.getfield 52, 3) := by decide +kernel
theorem dX11_judge_81 : decode cX11_judge 81 = .ok (.invokevirtual 117, 3) := by decide +kernel
theorem dX11_judge_84 : decode cX11_judge 84 = .ok (.if_icmp .ne 9, 3) := by decide +kernel
theorem dX11_judge_87 : decode cX11_judge 87 = .ok (.iinc 3 1, 3) := by decide +kernel
theorem dX11_judge_90 : decode cX11_judge 90 = .ok (.goto (-55), 3) := by decide +kernel
theorem dX11_judge_93 : decode cX11_judge 93 = .ok (.iload_n 3, 1) := by decide +kernel
theorem dX11_judge_94 : decode cX11_judge 94 = .ok (.aload_n 2, 1) := by decide +kernel
theorem dX11_judge_95 : decode cX11_judge 95 = .ok (.getfield 242, 3) := by decide +kernel
theorem dX11_judge_98 : decode cX11_judge 98 = .ok (.if_icmp .ne 18, 3) := by decide +kernel
theorem dX11_judge_101 : decode cX11_judge 101 = .ok (.iload_n 3, 1) := by decide +kernel
theorem dX11_judge_102 : decode cX11_judge 102 = .ok (.aload_n 0, 1) := by decide +kernel
theorem dX11_judge_103 : decode cX11_judge 103 = .ok (.getfield 10, 3) := by decide +kernel
theorem dX11_judge_106 : decode cX11_judge 106 = .ok (.getfield 75, 3) := by decide +kernel
theorem dX11_judge_109 : decode cX11_judge 109 = .ok (.if_icmp .ne 7, 3) := by decide +kernel
theorem dX11_judge_112 : decode cX11_judge 112 = .ok (.iconst (-1), 1) := by decide +kernel
theorem dX11_judge_113 : decode cX11_judge 113 = .ok (.goto 4, 3) := by decide +kernel
theorem dX11_judge_116 : decode cX11_judge 116 = .ok (.iload_n 3, 1) := by decide +kernel
theorem dX11_judge_117 : decode cX11_judge 117 = .ok (.ireturn, 1) := by decide +kernel
theorem dX11_image_0 : decode cX11_image 0 = .ok (.aload_n 0, 1) := by decide +kernel
theorem dX11_image_1 : decode cX11_image 1 = .ok (.getfield 16, 3) := by decide +kernel
theorem dX11_image_4 : decode cX11_image 4 = .ok (.ifnonnull 14, 3) := by decide +kernel
theorem dX11_image_7 : decode cX11_image 7 = .ok (.aload_n 0, 1) := by decide +kernel
theorem dX11_image_8 : decode cX11_image 8 = .ok (.new 7, 3) := by decide +kernel
theorem dX11_image_11 : decode cX11_image 11 = .ok (.dup, 1) := by decide +kernel
theorem dX11_image_12 : decode cX11_image 12 = .ok (.invokespecial 9, 3) := by decide +kernel
theorem dX11_image_15 : decode cX11_image 15 = .ok (.putfield 16, 3) := by decide +kernel
theorem dX11_image_18 : decode cX11_image 18 = .ok (.aload_n 0, 1) := by decide +kernel
theorem dX11_image_19 : decode cX11_image 19 = .ok (.getfield 16, 3) := by decide +kernel
theorem dX11_image_22 : decode cX11_image 22 = .ok (.aload_n 0, 1) := by decide +kernel
theorem dX11_image_23 : decode cX11_image 23 = .ok (.getfield 10, 3) := by decide +kernel
theorem dX11_image_26 : decode cX11_image 26 = .ok (.invokevirtual 261, 3) := by decide +kernel
theorem dX11_image_29 : decode cX11_image 29 = .ok (.aload_n 0, 1) := by decide +kernel
theorem dX11_image_30 : decode cX11_image 30 = .ok (.dup, 1) := by decide +kernel
theorem dX11_image_31 : decode cX11_image 31 = .ok (.getfield 19, 3) := by decide +kernel
theorem dX11_image_34 : decode cX11_image 34 = .ok (.iconst 1, 1) := by decide +kernel
theorem dX11_image_35 : decode cX11_image 35 = .ok (.iadd, 1) := by decide +kernel
theorem dX11_image_36 : decode cX11_image 36 = .ok (.putfield 19, 3) := by decide +kernel
theorem dX11_image_39 : decode cX11_image 39 = .ok (.aload_n 0, 1) := by decide +kernel
theorem dX11_image_40 : decode cX11_image 40 = .ok (.getfield 19, 3) := by decide +kernel
theorem dX11_image_43 : decode cX11_image 43 = .ok (.ireturn, 1) := by decide +kernel
theorem dX11_restore_0 : decode cX11_restore 0 = .ok (.aload_n 0, 1) := by decide +kernel
theorem dX11_restore_1 : decode cX11_restore 1 = .ok (.getfield 16, 3) := by decide +kernel
theorem dX11_restore_4 : decode cX11_restore 4 = .ok (.ifnonnull 9, 3) := by decide +kernel
theorem dX11_restore_7 : decode cX11_restore 7 = .ok (.aload_n 0, 1) := by decide +kernel
theorem dX11_restore_8 : decode cX11_restore 8 = .ok (.iconst 2, 1) := by decide +kernel
theorem dX11_restore_9 : decode cX11_restore 9 = .ok (.invokevirtual 48, 3) := by decide +kernel
theorem dX11_restore_12 : decode cX11_restore 12 = .ok (.ireturn, 1) := by decide +kernel
theorem dX11_restore_13 : decode cX11_restore 13 = .ok (.aload_n 0, 1) := by decide +kernel
theorem dX11_restore_14 : decode cX11_restore 14 = .ok (.getfield 10, 3) := by decide +kernel
theorem dX11_restore_17 : decode cX11_restore 17 = .ok (.aload_n 0, 1) := by decide +kernel
theorem dX11_restore_18 : decode cX11_restore 18 = .ok (.getfield 16, 3) := by decide +kernel
theorem dX11_restore_21 : decode cX11_restore 21 = .ok (.invokevirtual 261, 3) := by decide +kernel
theorem dX11_restore_24 : decode cX11_restore 24 = .ok (.aload_n 0, 1) := by decide +kernel
theorem dX11_restore_25 : decode cX11_restore 25 = .ok (.getfield 10, 3) := by decide +kernel
theorem dX11_restore_28 : decode cX11_restore 28 = .ok (.getfield 166, 3) := by decide +kernel
theorem dX11_restore_31 : decode cX11_restore 31 = .ok (.ireturn, 1) := by decide +kernel
theorem dX11_tell_0 : decode cX11_tell 0 = .ok (.aload_n 0, 1) := by decide +kernel
theorem dX11_tell_1 : decode cX11_tell 1 = .ok (.getfield 10, 3) := by decide +kernel
theorem dX11_tell_4 : decode cX11_tell 4 = .ok (.getfield 265, 3) := by decide +kernel
theorem dX11_tell_7 : decode cX11_tell 7 = .ok (.bipush 20, 2) := by decide +kernel
theorem dX11_tell_9 : decode cX11_tell 9 = .ok (.if_icmp .lt 9, 3) := by decide +kernel
theorem dX11_tell_12 : decode cX11_tell 12 = .ok (.aload_n 0, 1) := by decide +kernel
theorem dX11_tell_13 : decode cX11_tell 13 = .ok (.iconst 4, 1) := by decide +kernel
theorem dX11_tell_14 : decode cX11_tell 14 = .ok (.invokevirtual 48, 3) := by decide +kernel
theorem dX11_tell_17 : decode cX11_tell 17 = .ok (.ireturn, 1) := by decide +kernel
theorem dX11_tell_18 : decode cX11_tell 18 = .ok (.aload_n 0, 1) := by decide +kernel
theorem dX11_tell_19 : decode cX11_tell 19 = .ok (.getfield 10, 3) := by decide +kernel
theorem dX11_tell_22 : decode cX11_tell 22 = .ok (.getfield 268, 3) := by decide +kernel
theorem dX11_tell_25 : decode cX11_tell 25 = .ok (.aload_n 0, 1) := by decide +kernel
theorem dX11_tell_26 : decode cX11_tell 26 = .ok (.getfield 10, 3) := by decide +kernel
theorem dX11_tell_29 : decode cX11_tell 29 = .ok (.getfield 265, 3) := by decide +kernel
theorem dX11_tell_32 : decode cX11_tell 32 = .ok (.iload_n 1, 1) := by decide +kernel
theorem dX11_tell_33 : decode cX11_tell 33 = .ok (.iastore, 1) := by decide +kernel
theorem dX11_tell_34 : decode cX11_tell 34 = .ok (.aload_n 0, 1) := by decide +kernel
theorem dX11_tell_35 : decode cX11_tell 35 = .ok (.getfield 10, 3) := by decide +kernel
theorem dX11_tell_38 : decode cX11_tell 38 = .ok (.dup, 1) := by decide +kernel
theorem dX11_tell_39 : decode cX11_tell 39 = .ok (.getfield 265, 3) := by decide +kernel
theorem dX11_tell_42 : decode cX11_tell 42 = .ok (.iconst 1, 1) := by decide +kernel
theorem dX11_tell_43 : decode cX11_tell 43 = .ok (.iadd, 1) := by decide +kernel
theorem dX11_tell_44 : decode cX11_tell 44 = .ok (.putfield 265, 3) := by decide +kernel
theorem dX11_tell_47 : decode cX11_tell 47 = .ok (.aload_n 0, 1) := by decide +kernel
theorem dX11_tell_48 : decode cX11_tell 48 = .ok (.getfield 10, 3) := by decide +kernel
theorem dX11_tell_51 : decode cX11_tell 51 = .ok (.getfield 265, 3) := by decide +kernel
theorem dX11_tell_54 : decode cX11_tell 54 = .ok (.ireturn, 1) := by decide +kernel
theorem dX11_check_0 : decode cX11_check 0 = .ok (.aload_n 0, 1) := by decide +kernel
theorem dX11_check_1 : decode cX11_check 1 = .ok (.getfield 10, 3) := by decide +kernel
theorem dX11_check_4 : decode cX11_check 4 = .ok (.getfield 265, 3) := by decide +kernel
theorem dX11_check_7 : decode cX11_check 7 = .ok (.istore_n 1, 1) := by decide +kernel
theorem dX11_check_8 : decode cX11_check 8 = .ok (.aload_n 0, 1) := by decide +kernel
theorem dX11_check_9 : decode cX11_check 9 = .ok (.getfield 10, 3) := by decide +kernel
theorem dX11_check_12 : decode cX11_check 12 = .ok (.iconst 0, 1) := by decide +kernel
theorem dX11_check_13 : decode cX11_check 13 = .ok (.putfield 265, 3) := by decide +kernel
theorem dX11_check_16 : decode cX11_check 16 = .ok (.aload_n 0, 1) := by decide +kernel
theorem dX11_check_17 : decode cX11_check 17 = .ok (.getfield 10, 3) := by decide +kernel
theorem dX11_check_20 : decode cX11_check 20 = .ok (.getfield 52, 3) := by decide +kernel
theorem dX11_check_23 : decode cX11_check 23 = .ok (.istore_n 2, 1) := by decide +kernel
theorem dX11_check_24 : decode cX11_check 24 = .ok (.iconst 0, 1) := by decide +kernel
theorem dX11_check_25 : decode cX11_check 25 = .ok (.istore_n 3, 1) := by decide +kernel
theorem dX11_check_26 : decode cX11_check 26 = .ok (.iload_n 3, 1) := by decide +kernel
theorem dX11_check_27 : decode cX11_check 27 = .ok (.iload_n 1, 1) := by decide +kernel
theorem dX11_check_28 : decode cX11_check 28 = .ok (.if_icmp .ge 38, 3) := by decide +kernel
theorem dX11_check_31 : decode cX11_check 31 = .ok (.aload_n 0, 1) := by decide +kernel
theorem dX11_check_32 : decode cX11_check 32 = .ok (.getfield 10, 3) := by decide +kernel
theorem dX11_check_35 : decode cX11_check 35 = .ok (.iload_n 2, 1) := by decide +kernel
theorem dX11_check_36 : decode cX11_check 36 = .ok (.invokevirtual 169, 3) := by decide +kernel
theorem dX11_check_39 : decode cX11_check 39 = .ok (.istore_n 2, 1) := by decide +kernel
theorem dX11_check_40 : decode cX11_check 40 = .ok (.aload_n 0, 1) := by decide +kernel
theorem dX11_check_41 : decode cX11_check 41 = .ok (.getfield 10, 3) := by decide +kernel
theorem dX11_check_44 : decode cX11_check 44 = .ok (.getfield 268, 3) := by decide +kernel
theorem dX11_check_47 : decode cX11_check 47 = .ok (.iload_n 3, 1) := by decide +kernel
theorem dX11_check_48 : decode cX11_check 48 = .ok (.iaload, 1) := by decide +kernel
theorem dX11_check_49 : decode cX11_check 49 = .ok (.iload_n 2, 1) := by decide +kernel
theorem dX11_check_50 : decode cX11_check 50 = .ok (.invokestatic 63, 3) := by decide +kernel
theorem dX11_check_53 : decode cX11_check 53 = .ok (.if_icmp .eq 7, 3) := by decide +kernel
theorem dX11_check_56 : decode cX11_check 56 = .ok (.iconst 1, 1) := by decide +kernel
theorem dX11_check_57 : decode cX11_check 57 = .ok (.iload_n 3, 1) := by decide +kernel
theorem dX11_check_58 : decode cX11_check 58 = .ok (.iadd, 1) := by decide +kernel
theorem dX11_check_59 : decode cX11_check 59 = .ok (.ireturn, 1) := by decide +kernel
theorem dX11_check_60 : decode cX11_check 60 = .ok (.iinc 3 1, 3) := by decide +kernel
theorem dX11_check_63 : decode cX11_check 63 = .ok (.goto (-37), 3) := by decide +kernel
theorem dX11_check_66 : decode cX11_check 66 = .ok (.iconst 0, 1) := by decide +kernel
theorem dX11_check_67 : decode cX11_check 67 = .ok (.ireturn, 1) := by decide +kernel
theorem dX11_count_0 : decode cX11_count 0 = .ok (.iload_n 1, 1) := by decide +kernel
theorem dX11_count_1 : decode cX11_count 1 = .ok (.tableswitch 164 0 10 #[59, 67, 75, 83, 94, 116, 124, 132, 140, 148, 156], 59) := by decide +kernel
theorem dX11_count_60 : decode cX11_count 60 = .ok (.aload_n 0, 1) := by decide +kernel
theorem dX11_count_61 : decode cX11_count 61 = .ok (.getfield 10, 3) := by decide +kernel
theorem dX11_count_64 : decode cX11_count 64 = .ok (.getfield 75, 3) := by decide +kernel
theorem dX11_count_67 : decode cX11_count 67 = .ok (.ireturn, 1) := by decide +kernel
theorem dX11_count_68 : decode cX11_count 68 = .ok (.aload_n 0, 1) := by decide +kernel
theorem dX11_count_69 : decode cX11_count 69 = .ok (.getfield 10, 3) := by decide +kernel
theorem dX11_count_72 : decode cX11_count 72 = .ok (.getfield 166, 3) := by decide +kernel
theorem dX11_count_75 : decode cX11_count 75 = .ok (.ireturn, 1) := by decide +kernel
theorem dX11_count_76 : decode cX11_count 76 = .ok (.aload_n 0, 1) := by decide +kernel
theorem dX11_count_77 : decode cX11_count 77 = .ok (.getfield 10, 3) := by decide +kernel
theorem dX11_count_80 : decode cX11_count 80 = .ok (.getfield 271, 3) := by decide +kernel
theorem dX11_count_83 : decode cX11_count 83 = .ok (.ireturn, 1) := by decide +kernel
theorem dX11_count_84 : decode cX11_count 84 = .ok (.aload_n 0, 1) := by decide +kernel
theorem dX11_count_85 : decode cX11_count 85 = .ok (.getfield 10, 3) := by decide +kernel
theorem dX11_count_88 : decode cX11_count 88 = .ok (.getfield 52, 3) := by decide +kernel
theorem dX11_count_91 : decode cX11_count 91 = .ok (.invokestatic 100, 3) := by decide +kernel
theorem dX11_count_94 : decode cX11_count 94 = .ok (.ireturn, 1) := by decide +kernel
theorem dX11_count_95 : decode cX11_count 95 = .ok (.aload_n 0, 1) := by decide +kernel
theorem dX11_count_96 : decode cX11_count 96 = .ok (.getfield 10, 3) := by decide +kernel
theorem dX11_count_99 : decode cX11_count 99 = .ok (.getfield 52, 3) := by decide +kernel
theorem dX11_count_102 : decode cX11_count 102 = .ok (.aload_n 0, 1) := by decide +kernel
theorem dX11_count_103 : decode cX11_count 103 = .ok (.getfield 10, 3) := by decide +kernel
theorem dX11_count_106 : decode cX11_count 106 = .ok (.getfield 66, 3) := by decide +kernel
theorem dX11_count_109 : decode cX11_count 109 = .ok (.invokestatic 120, 3) := by decide +kernel
theorem dX11_count_112 : decode cX11_count 112 = .ok (.iand, 1) := by decide +kernel
theorem dX11_count_113 : decode cX11_count 113 = .ok (.invokestatic 100, 3) := by decide +kernel
theorem dX11_count_116 : decode cX11_count 116 = .ok (.ireturn, 1) := by decide +kernel
theorem dX11_count_117 : decode cX11_count 117 = .ok (.aload_n 0, 1) := by decide +kernel
theorem dX11_count_118 : decode cX11_count 118 = .ok (.getfield 10, 3) := by decide +kernel
theorem dX11_count_121 : decode cX11_count 121 = .ok (.getfield 69, 3) := by decide +kernel
theorem dX11_count_124 : decode cX11_count 124 = .ok (.ireturn, 1) := by decide +kernel
theorem dX11_count_125 : decode cX11_count 125 = .ok (.aload_n 0, 1) := by decide +kernel
theorem dX11_count_126 : decode cX11_count 126 = .ok (.getfield 10, 3) := by decide +kernel
theorem dX11_count_129 : decode cX11_count 129 = .ok (.getfield 66, 3) := by decide +kernel
theorem dX11_count_132 : decode cX11_count 132 = .ok (.ireturn, 1) := by decide +kernel
theorem dX11_count_133 : decode cX11_count 133 = .ok (.aload_n 0, 1) := by decide +kernel
theorem dX11_count_134 : decode cX11_count 134 = .ok (.getfield 10, 3) := by decide +kernel
theorem dX11_count_137 : decode cX11_count 137 = .ok (.getfield 137, 3) := by decide +kernel
theorem dX11_count_140 : decode cX11_count 140 = .ok (.ireturn, 1) := by decide +kernel
theorem dX11_count_141 : decode cX11_count 141 = .ok (.aload_n 0, 1) := by decide +kernel
theorem dX11_count_142 : decode cX11_count 142 = .ok (.getfield 10, 3) := by decide +kernel
theorem dX11_count_145 : decode cX11_count 145 = .ok (.getfield 265, 3) := by decide +kernel
theorem dX11_count_148 : decode cX11_count 148 = .ok (.ireturn, 1) := by decide +kernel
theorem dX11_count_149 : decode cX11_count 149 = .ok (.aload_n 0, 1) := by decide +kernel
theorem dX11_count_150 : decode cX11_count 150 = .ok (.getfield 32, 3) := by decide +kernel
theorem dX11_count_153 : decode cX11_count 153 = .ok (.getfield 215, 3) := by decide +kernel
theorem dX11_count_156 : decode cX11_count 156 = .ok (.ireturn, 1) := by decide +kernel
theorem dX11_count_157 : decode cX11_count 157 = .ok (.aload_n 0, 1) := by decide +kernel
theorem dX11_count_158 : decode cX11_count 158 = .ok (.getfield 10, 3) := by decide +kernel
theorem dX11_count_161 : decode cX11_count 161 = .ok (.getfield 212, 3) := by decide +kernel
theorem dX11_count_164 : decode cX11_count 164 = .ok (.ireturn, 1) := by decide +kernel
theorem dX11_count_165 : decode cX11_count 165 = .ok (.aload_n 0, 1) := by decide +kernel
theorem dX11_count_166 : decode cX11_count 166 = .ok (.iconst 1, 1) := by decide +kernel
theorem dX11_count_167 : decode cX11_count 167 = .ok (.invokevirtual 48, 3) := by decide +kernel
theorem dX11_count_170 : decode cX11_count 170 = .ok (.ireturn, 1) := by decide +kernel
theorem dX11_told_0 : decode cX11_told 0 = .ok (.iload_n 1, 1) := by decide +kernel
theorem dX11_told_1 : decode cX11_told 1 = .ok (.iconst 1, 1) := by decide +kernel
theorem dX11_told_2 : decode cX11_told 2 = .ok (.if_icmp .lt 8, 3) := by decide +kernel
theorem dX11_told_5 : decode cX11_told 5 = .ok (.iload_n 1, 1) := by decide +kernel
theorem dX11_told_6 : decode cX11_told 6 = .ok (.iconst 5, 1) := by decide +kernel
theorem dX11_told_7 : decode cX11_told 7 = .ok (.if_icmp .le 11, 3) := by decide +kernel
theorem dX11_told_10 : decode cX11_told 10 = .ok (.aload_n 0, 1) := by decide +kernel
theorem dX11_told_11 : decode cX11_told 11 = .ok (.iconst 1, 1) := by decide +kernel
theorem dX11_told_12 : decode cX11_told 12 = .ok (.invokevirtual 48, 3) := by decide +kernel
theorem dX11_told_15 : decode cX11_told 15 = .ok (.goto 9, 3) := by decide +kernel
theorem dX11_told_18 : decode cX11_told 18 = .ok (.aload_n 0, 1) := by decide +kernel
theorem dX11_told_19 : decode cX11_told 19 = .ok (.getfield 36, 3) := by decide +kernel
theorem dX11_told_22 : decode cX11_told 22 = .ok (.iload_n 1, 1) := by decide +kernel
theorem dX11_told_23 : decode cX11_told 23 = .ok (.iaload, 1) := by decide +kernel
theorem dX11_told_24 : decode cX11_told 24 = .ok (.ireturn, 1) := by decide +kernel
theorem dX11_error_0 : decode cX11_error 0 = .ok (.aload_n 0, 1) := by decide +kernel
theorem dX11_error_1 : decode cX11_error 1 = .ok (.getfield 36, 3) := by decide +kernel
theorem dX11_error_4 : decode cX11_error 4 = .ok (.iload_n 1, 1) := by decide +kernel
theorem dX11_error_5 : decode cX11_error 5 = .ok (.dup2, 1) := by decide +kernel
theorem dX11_error_6 : decode cX11_error 6 = .ok (.iaload, 1) := by decide +kernel
theorem dX11_error_7 : decode cX11_error 7 = .ok (.iconst 1, 1) := by decide +kernel
theorem dX11_error_8 : decode cX11_error 8 = .ok (.iadd, 1) := by decide +kernel
theorem dX11_error_9 : decode cX11_error 9 = .ok (.iastore, 1) := by decide +kernel
theorem dX11_error_10 : decode cX11_error 10 = .ok (.ldc_w 274, 3) := by decide +kernel
theorem dX11_error_13 : decode cX11_error 13 = .ok (.iload_n 1, 1) := by decide +kernel
theorem dX11_error_14 : decode cX11_error 14 = .ok (.isub, 1) := by decide +kernel
theorem dX11_error_15 : decode cX11_error 15 = .ok (.ireturn, 1) := by decide +kernel
theorem dX11_isRider_0 : decode cX11_isRider 0 = .ok (.iload_n 1, 1) := by decide +kernel
theorem dX11_isRider_1 : decode cX11_isRider 1 = .ok (.ifCond .lt 18, 3) := by decide +kernel
theorem dX11_isRider_4 : decode cX11_isRider 4 = .ok (.iload_n 1, 1) := by decide +kernel
theorem dX11_isRider_5 : decode cX11_isRider 5 = .ok (.aload_n 0, 1) := by decide +kernel
theorem dX11_isRider_6 : decode cX11_isRider 6 = .ok (.getfield 10, 3) := by decide +kernel
theorem dX11_isRider_9 : decode cX11_isRider 9 = .ok (.getfield 75, 3) := by decide +kernel
theorem dX11_isRider_12 : decode cX11_isRider 12 = .ok (.if_icmp .ge 7, 3) := by decide +kernel
theorem dX11_isRider_15 : decode cX11_isRider 15 = .ok (.iconst 1, 1) := by decide +kernel
theorem dX11_isRider_16 : decode cX11_isRider 16 = .ok (.goto 4, 3) := by decide +kernel
theorem dX11_isRider_19 : decode cX11_isRider 19 = .ok (.iconst 0, 1) := by decide +kernel
theorem dX11_isRider_20 : decode cX11_isRider 20 = .ok (.ireturn, 1) := by decide +kernel
theorem dX11_isFact_0 : decode cX11_isFact 0 = .ok (.iload_n 0, 1) := by decide +kernel
theorem dX11_isFact_1 : decode cX11_isFact 1 = .ok (.ifCond .lt 13, 3) := by decide +kernel
theorem dX11_isFact_4 : decode cX11_isFact 4 = .ok (.iload_n 0, 1) := by decide +kernel
theorem dX11_isFact_5 : decode cX11_isFact 5 = .ok (.bipush 8, 2) := by decide +kernel
theorem dX11_isFact_7 : decode cX11_isFact 7 = .ok (.if_icmp .ge 7, 3) := by decide +kernel
theorem dX11_isFact_10 : decode cX11_isFact 10 = .ok (.iconst 1, 1) := by decide +kernel
theorem dX11_isFact_11 : decode cX11_isFact 11 = .ok (.goto 4, 3) := by decide +kernel
theorem dX11_isFact_14 : decode cX11_isFact 14 = .ok (.iconst 0, 1) := by decide +kernel
theorem dX11_isFact_15 : decode cX11_isFact 15 = .ok (.ireturn, 1) := by decide +kernel
theorem dX11_isSaying_0 : decode cX11_isSaying 0 = .ok (.iload_n 0, 1) := by decide +kernel
theorem dX11_isSaying_1 : decode cX11_isSaying 1 = .ok (.ifCond .lt 12, 3) := by decide +kernel
theorem dX11_isSaying_4 : decode cX11_isSaying 4 = .ok (.iload_n 0, 1) := by decide +kernel
theorem dX11_isSaying_5 : decode cX11_isSaying 5 = .ok (.iconst 2, 1) := by decide +kernel
theorem dX11_isSaying_6 : decode cX11_isSaying 6 = .ok (.if_icmp .gt 7, 3) := by decide +kernel
theorem dX11_isSaying_9 : decode cX11_isSaying 9 = .ok (.iconst 1, 1) := by decide +kernel
theorem dX11_isSaying_10 : decode cX11_isSaying 10 = .ok (.goto 4, 3) := by decide +kernel
theorem dX11_isSaying_13 : decode cX11_isSaying 13 = .ok (.iconst 0, 1) := by decide +kernel
theorem dX11_isSaying_14 : decode cX11_isSaying 14 = .ok (.ireturn, 1) := by decide +kernel
theorem dX11_isStory_0 : decode cX11_isStory 0 = .ok (.iload_n 0, 1) := by decide +kernel
theorem dX11_isStory_1 : decode cX11_isStory 1 = .ok (.ifCond .lt 14, 3) := by decide +kernel
theorem dX11_isStory_4 : decode cX11_isStory 4 = .ok (.iload_n 0, 1) := by decide +kernel
theorem dX11_isStory_5 : decode cX11_isStory 5 = .ok (.sipush 6561, 3) := by decide +kernel
theorem dX11_isStory_8 : decode cX11_isStory 8 = .ok (.if_icmp .ge 7, 3) := by decide +kernel
theorem dX11_isStory_11 : decode cX11_isStory 11 = .ok (.iconst 1, 1) := by decide +kernel
theorem dX11_isStory_12 : decode cX11_isStory 12 = .ok (.goto 4, 3) := by decide +kernel
theorem dX11_isStory_15 : decode cX11_isStory 15 = .ok (.iconst 0, 1) := by decide +kernel
theorem dX11_isStory_16 : decode cX11_isStory 16 = .ok (.ireturn, 1) := by decide +kernel
theorem dX11_isKindWithNumber_0 : decode cX11_isKindWithNumber 0 = .ok (.iload_n 0, 1) := by decide +kernel
theorem dX11_isKindWithNumber_1 : decode cX11_isKindWithNumber 1 = .ok (.ifCond .lt 13, 3) := by decide +kernel
theorem dX11_isKindWithNumber_4 : decode cX11_isKindWithNumber 4 = .ok (.iload_n 0, 1) := by decide +kernel
theorem dX11_isKindWithNumber_5 : decode cX11_isKindWithNumber 5 = .ok (.bipush 69, 2) := by decide +kernel
theorem dX11_isKindWithNumber_7 : decode cX11_isKindWithNumber 7 = .ok (.if_icmp .gt 7, 3) := by decide +kernel
theorem dX11_isKindWithNumber_10 : decode cX11_isKindWithNumber 10 = .ok (.iconst 1, 1) := by decide +kernel
theorem dX11_isKindWithNumber_11 : decode cX11_isKindWithNumber 11 = .ok (.goto 4, 3) := by decide +kernel
theorem dX11_isKindWithNumber_14 : decode cX11_isKindWithNumber 14 = .ok (.iconst 0, 1) := by decide +kernel
theorem dX11_isKindWithNumber_15 : decode cX11_isKindWithNumber 15 = .ok (.ireturn, 1) := by decide +kernel
theorem dX11_isUse_0 : decode cX11_isUse 0 = .ok (.iload_n 0, 1) := by decide +kernel
theorem dX11_isUse_1 : decode cX11_isUse 1 = .ok (.ifCond .eq 8, 3) := by decide +kernel
theorem dX11_isUse_4 : decode cX11_isUse 4 = .ok (.iload_n 0, 1) := by decide +kernel
theorem dX11_isUse_5 : decode cX11_isUse 5 = .ok (.iconst 1, 1) := by decide +kernel
theorem dX11_isUse_6 : decode cX11_isUse 6 = .ok (.if_icmp .ne 7, 3) := by decide +kernel
theorem dX11_isUse_9 : decode cX11_isUse 9 = .ok (.iconst 1, 1) := by decide +kernel
theorem dX11_isUse_10 : decode cX11_isUse 10 = .ok (.goto 4, 3) := by decide +kernel
theorem dX11_isUse_13 : decode cX11_isUse 13 = .ok (.iconst 0, 1) := by decide +kernel
theorem dX11_isUse_14 : decode cX11_isUse 14 = .ok (.ireturn, 1) := by decide +kernel
theorem dX11_isGoal_0 : decode cX11_isGoal 0 = .ok (.iload_n 0, 1) := by decide +kernel
theorem dX11_isGoal_1 : decode cX11_isGoal 1 = .ok (.ifCond .lt 13, 3) := by decide +kernel
theorem dX11_isGoal_4 : decode cX11_isGoal 4 = .ok (.iload_n 0, 1) := by decide +kernel
theorem dX11_isGoal_5 : decode cX11_isGoal 5 = .ok (.bipush 9, 2) := by decide +kernel
theorem dX11_isGoal_7 : decode cX11_isGoal 7 = .ok (.if_icmp .gt 7, 3) := by decide +kernel
theorem dX11_isGoal_10 : decode cX11_isGoal 10 = .ok (.iconst 1, 1) := by decide +kernel
theorem dX11_isGoal_11 : decode cX11_isGoal 11 = .ok (.goto 4, 3) := by decide +kernel
theorem dX11_isGoal_14 : decode cX11_isGoal 14 = .ok (.iconst 0, 1) := by decide +kernel
theorem dX11_isGoal_15 : decode cX11_isGoal 15 = .ok (.ireturn, 1) := by decide +kernel
theorem dX11_isSheet_0 : decode cX11_isSheet 0 = .ok (.iload_n 0, 1) := by decide +kernel
theorem dX11_isSheet_1 : decode cX11_isSheet 1 = .ok (.ifCond .lt 12, 3) := by decide +kernel
theorem dX11_isSheet_4 : decode cX11_isSheet 4 = .ok (.iload_n 0, 1) := by decide +kernel
theorem dX11_isSheet_5 : decode cX11_isSheet 5 = .ok (.iconst 4, 1) := by decide +kernel
theorem dX11_isSheet_6 : decode cX11_isSheet 6 = .ok (.if_icmp .ge 7, 3) := by decide +kernel
theorem dX11_isSheet_9 : decode cX11_isSheet 9 = .ok (.iconst 1, 1) := by decide +kernel
theorem dX11_isSheet_10 : decode cX11_isSheet 10 = .ok (.goto 4, 3) := by decide +kernel
theorem dX11_isSheet_13 : decode cX11_isSheet 13 = .ok (.iconst 0, 1) := by decide +kernel
theorem dX11_isSheet_14 : decode cX11_isSheet 14 = .ok (.ireturn, 1) := by decide +kernel
theorem dX11_tellsFloors_0 : decode cX11_tellsFloors 0 = .ok (.aload_n 1, 1) := by decide +kernel
theorem dX11_tellsFloors_1 : decode cX11_tellsFloors 1 = .ok (.invokevirtual 238, 3) := by decide +kernel
theorem dX11_tellsFloors_4 : decode cX11_tellsFloors 4 = .ok (.ifCond .ne 21, 3) := by decide +kernel
theorem dX11_tellsFloors_7 : decode cX11_tellsFloors 7 = .ok (.aload_n 1, 1) := by decide +kernel
theorem dX11_tellsFloors_8 : decode cX11_tellsFloors 8 = .ok (.getfield 242, 3) := by decide +kernel
theorem dX11_tellsFloors_11 : decode cX11_tellsFloors 11 = .ok (.aload_n 0, 1) := by decide +kernel
theorem dX11_tellsFloors_12 : decode cX11_tellsFloors 12 = .ok (.getfield 10, 3) := by decide +kernel
theorem dX11_tellsFloors_15 : decode cX11_tellsFloors 15 = .ok (.getfield 75, 3) := by decide +kernel
theorem dX11_tellsFloors_18 : decode cX11_tellsFloors 18 = .ok (.if_icmp .gt 7, 3) := by decide +kernel
theorem dX11_tellsFloors_21 : decode cX11_tellsFloors 21 = .ok (.iconst 1, 1) := by decide +kernel
theorem dX11_tellsFloors_22 : decode cX11_tellsFloors 22 = .ok (.goto 4, 3) := by decide +kernel
theorem dX11_tellsFloors_25 : decode cX11_tellsFloors 25 = .ok (.iconst 0, 1) := by decide +kernel
theorem dX11_tellsFloors_26 : decode cX11_tellsFloors 26 = .ok (.ireturn, 1) := by decide +kernel
theorem dX11_shortestOf_0 : decode cX11_shortestOf 0 = .ok (.iconst (-1), 1) := by decide +kernel
theorem dX11_shortestOf_1 : decode cX11_shortestOf 1 = .ok (.istore 4, 2) := by decide +kernel
theorem dX11_shortestOf_3 : decode cX11_shortestOf 3 = .ok (.bipush 9, 2) := by decide +kernel
theorem dX11_shortestOf_5 : decode cX11_shortestOf 5 = .ok (.istore 5, 2) := by decide +kernel
theorem dX11_shortestOf_7 : decode cX11_shortestOf 7 = .ok (.iconst 0, 1) := by decide +kernel
theorem dX11_shortestOf_8 : decode cX11_shortestOf 8 = .ok (.istore 6, 2) := by decide +kernel
theorem dX11_shortestOf_10 : decode cX11_shortestOf 10 = .ok (.iconst 0, 1) := by decide +kernel
theorem dX11_shortestOf_11 : decode cX11_shortestOf 11 = .ok (.istore 7, 2) := by decide +kernel
theorem dX11_shortestOf_13 : decode cX11_shortestOf 13 = .ok (.iload 7, 2) := by decide +kernel
theorem dX11_shortestOf_15 : decode cX11_shortestOf 15 = .ok (.sipush 6561, 3) := by decide +kernel
theorem dX11_shortestOf_18 : decode cX11_shortestOf 18 = .ok (.if_icmp .ge 67, 3) := by decide +kernel
theorem dX11_shortestOf_21 : decode cX11_shortestOf 21 = .ok (.iload 6, 2) := by decide +kernel
theorem dX11_shortestOf_23 : decode cX11_shortestOf 23 = .ok (.invokestatic 100, 3) := by decide +kernel
theorem dX11_shortestOf_26 : decode cX11_shortestOf 26 = .ok (.iload 5, 2) := by decide +kernel
theorem dX11_shortestOf_28 : decode cX11_shortestOf 28 = .ok (.if_icmp .ge 44, 3) := by decide +kernel
theorem dX11_shortestOf_31 : decode cX11_shortestOf 31 = .ok (.iload 6, 2) := by decide +kernel
theorem dX11_shortestOf_33 : decode cX11_shortestOf 33 = .ok (.iload_n 3, 1) := by decide +kernel
theorem dX11_shortestOf_34 : decode cX11_shortestOf 34 = .ok (.invokestatic 123, 3) := by decide +kernel
theorem dX11_shortestOf_37 : decode cX11_shortestOf 37 = .ok (.ifCond .eq 35, 3) := by decide +kernel
theorem dX11_shortestOf_40 : decode cX11_shortestOf 40 = .ok (.aload_n 0, 1) := by decide +kernel
theorem dX11_shortestOf_41 : decode cX11_shortestOf 41 = .ok (.getfield 10, 3) := by decide +kernel
theorem dX11_shortestOf_44 : decode cX11_shortestOf 44 = .ok (.iload_n 1, 1) := by decide +kernel
theorem dX11_shortestOf_45 : decode cX11_shortestOf 45 = .ok (.iload 6, 2) := by decide +kernel
theorem dX11_shortestOf_47 : decode cX11_shortestOf 47 = .ok (.aload_n 0, 1) := by decide +kernel
theorem dX11_shortestOf_48 : decode cX11_shortestOf 48 = .ok (.getfield 10, 3) := by decide +kernel
theorem dX11_shortestOf_51 : decode cX11_shortestOf 51 = .ok (.getfield 52, 3) := by decide +kernel
theorem dX11_shortestOf_54 : decode cX11_shortestOf 54 = .ok (.invokevirtual 117, 3) := by decide +kernel
theorem dX11_shortestOf_57 : decode cX11_shortestOf 57 = .ok (.iload_n 2, 1) := by decide +kernel
theorem dX11_shortestOf_58 : decode cX11_shortestOf 58 = .ok (.if_icmp .lt 14, 3) := by decide +kernel
theorem dX11_shortestOf_61 : decode cX11_shortestOf 61 = .ok (.iload 7, 2) := by decide +kernel
theorem dX11_shortestOf_63 : decode cX11_shortestOf 63 = .ok (.istore 4, 2) := by decide +kernel
theorem dX11_shortestOf_65 : decode cX11_shortestOf 65 = .ok (.iload 6, 2) := by decide +kernel
theorem dX11_shortestOf_67 : decode cX11_shortestOf 67 = .ok (.invokestatic 100, 3) := by decide +kernel
theorem dX11_shortestOf_70 : decode cX11_shortestOf 70 = .ok (.istore 5, 2) := by decide +kernel
theorem dX11_shortestOf_72 : decode cX11_shortestOf 72 = .ok (.iload 6, 2) := by decide +kernel
theorem dX11_shortestOf_74 : decode cX11_shortestOf 74 = .ok (.invokestatic 205, 3) := by decide +kernel
theorem dX11_shortestOf_77 : decode cX11_shortestOf 77 = .ok (.istore 6, 2) := by decide +kernel
theorem dX11_shortestOf_79 : decode cX11_shortestOf 79 = .ok (.iinc 7 1, 3) := by decide +kernel
theorem dX11_shortestOf_82 : decode cX11_shortestOf 82 = .ok (.goto (-69), 3) := by decide +kernel
theorem dX11_shortestOf_85 : decode cX11_shortestOf 85 = .ok (.iload 4, 2) := by decide +kernel
theorem dX11_shortestOf_87 : decode cX11_shortestOf 87 = .ok (.ifCond .ge 11, 3) := by decide +kernel
theorem dX11_shortestOf_90 : decode cX11_shortestOf 90 = .ok (.aload_n 0, 1) := by decide +kernel
theorem dX11_shortestOf_91 : decode cX11_shortestOf 91 = .ok (.iconst 2, 1) := by decide +kernel
theorem dX11_shortestOf_92 : decode cX11_shortestOf 92 = .ok (.invokevirtual 48, 3) := by decide +kernel
theorem dX11_shortestOf_95 : decode cX11_shortestOf 95 = .ok (.goto 5, 3) := by decide +kernel
theorem dX11_shortestOf_98 : decode cX11_shortestOf 98 = .ok (.iload 4, 2) := by decide +kernel
theorem dX11_shortestOf_100 : decode cX11_shortestOf 100 = .ok (.ireturn, 1) := by decide +kernel
theorem dX11_bestWord_0 : decode cX11_bestWord 0 = .ok (.iconst 0, 1) := by decide +kernel
theorem dX11_bestWord_1 : decode cX11_bestWord 1 = .ok (.istore 5, 2) := by decide +kernel
theorem dX11_bestWord_3 : decode cX11_bestWord 3 = .ok (.iconst 0, 1) := by decide +kernel
theorem dX11_bestWord_4 : decode cX11_bestWord 4 = .ok (.istore 6, 2) := by decide +kernel
theorem dX11_bestWord_6 : decode cX11_bestWord 6 = .ok (.iconst 0, 1) := by decide +kernel
theorem dX11_bestWord_7 : decode cX11_bestWord 7 = .ok (.istore 7, 2) := by decide +kernel
theorem dX11_bestWord_9 : decode cX11_bestWord 9 = .ok (.iload 7, 2) := by decide +kernel
theorem dX11_bestWord_11 : decode cX11_bestWord 11 = .ok (.bipush 8, 2) := by decide +kernel
theorem dX11_bestWord_13 : decode cX11_bestWord 13 = .ok (.if_icmp .ge 35, 3) := by decide +kernel
theorem dX11_bestWord_16 : decode cX11_bestWord 16 = .ok (.aload_n 0, 1) := by decide +kernel
theorem dX11_bestWord_17 : decode cX11_bestWord 17 = .ok (.iload_n 1, 1) := by decide +kernel
theorem dX11_bestWord_18 : decode cX11_bestWord 18 = .ok (.iload 7, 2) := by decide +kernel
theorem dX11_bestWord_20 : decode cX11_bestWord 20 = .ok (.iload_n 2, 1) := by decide +kernel
theorem dX11_bestWord_21 : decode cX11_bestWord 21 = .ok (.iload_n 3, 1) := by decide +kernel
theorem dX11_bestWord_22 : decode cX11_bestWord 22 = .ok (.invokevirtual 275, 3) := by decide +kernel
theorem dX11_bestWord_25 : decode cX11_bestWord 25 = .ok (.istore 8, 2) := by decide +kernel
theorem dX11_bestWord_27 : decode cX11_bestWord 27 = .ok (.iload 8, 2) := by decide +kernel
theorem dX11_bestWord_29 : decode cX11_bestWord 29 = .ok (.iload 6, 2) := by decide +kernel
theorem dX11_bestWord_31 : decode cX11_bestWord 31 = .ok (.if_icmp .le 11, 3) := by decide +kernel
theorem dX11_bestWord_34 : decode cX11_bestWord 34 = .ok (.iload 7, 2) := by decide +kernel
theorem dX11_bestWord_36 : decode cX11_bestWord 36 = .ok (.istore 5, 2) := by decide +kernel
theorem dX11_bestWord_38 : decode cX11_bestWord 38 = .ok (.iload 8, 2) := by decide +kernel
theorem dX11_bestWord_40 : decode cX11_bestWord 40 = .ok (.istore 6, 2) := by decide +kernel
theorem dX11_bestWord_42 : decode cX11_bestWord 42 = .ok (.iinc 7 1, 3) := by decide +kernel
theorem dX11_bestWord_45 : decode cX11_bestWord 45 = .ok (.goto (-36), 3) := by decide +kernel
theorem dX11_bestWord_48 : decode cX11_bestWord 48 = .ok (.iload 4, 2) := by decide +kernel
theorem dX11_bestWord_50 : decode cX11_bestWord 50 = .ok (.ifCond .ne 8, 3) := by decide +kernel
theorem dX11_bestWord_53 : decode cX11_bestWord 53 = .ok (.iload 5, 2) := by decide +kernel
theorem dX11_bestWord_55 : decode cX11_bestWord 55 = .ok (.goto 5, 3) := by decide +kernel
theorem dX11_bestWord_58 : decode cX11_bestWord 58 = .ok (.iload 6, 2) := by decide +kernel
theorem dX11_bestWord_60 : decode cX11_bestWord 60 = .ok (.ireturn, 1) := by decide +kernel
theorem dX11_unlikeFloors_0 : decode cX11_unlikeFloors 0 = .ok (.iconst 1, 1) := by decide +kernel
theorem dX11_unlikeFloors_1 : decode cX11_unlikeFloors 1 = .ok (.iload_n 2, 1) := by decide +kernel
theorem dX11_unlikeFloors_2 : decode cX11_unlikeFloors 2 = .ok (.ishl, 1) := by decide +kernel
theorem dX11_unlikeFloors_3 : decode cX11_unlikeFloors 3 = .ok (.istore 5, 2) := by decide +kernel
theorem dX11_unlikeFloors_5 : decode cX11_unlikeFloors 5 = .ok (.iload 5, 2) := by decide +kernel
theorem dX11_unlikeFloors_7 : decode cX11_unlikeFloors 7 = .ok (.invokestatic 278, 3) := by decide +kernel
theorem dX11_unlikeFloors_10 : decode cX11_unlikeFloors 10 = .ok (.istore 6, 2) := by decide +kernel
theorem dX11_unlikeFloors_12 : decode cX11_unlikeFloors 12 = .ok (.iconst 0, 1) := by decide +kernel
theorem dX11_unlikeFloors_13 : decode cX11_unlikeFloors 13 = .ok (.istore 7, 2) := by decide +kernel
theorem dX11_unlikeFloors_15 : decode cX11_unlikeFloors 15 = .ok (.iload 4, 2) := by decide +kernel
theorem dX11_unlikeFloors_17 : decode cX11_unlikeFloors 17 = .ok (.iload 5, 2) := by decide +kernel
theorem dX11_unlikeFloors_19 : decode cX11_unlikeFloors 19 = .ok (.iand, 1) := by decide +kernel
theorem dX11_unlikeFloors_20 : decode cX11_unlikeFloors 20 = .ok (.ifCond .eq 21, 3) := by decide +kernel
theorem dX11_unlikeFloors_23 : decode cX11_unlikeFloors 23 = .ok (.iload 7, 2) := by decide +kernel
theorem dX11_unlikeFloors_25 : decode cX11_unlikeFloors 25 = .ok (.iconst 2, 1) := by decide +kernel
theorem dX11_unlikeFloors_26 : decode cX11_unlikeFloors 26 = .ok (.aload_n 0, 1) := by decide +kernel
theorem dX11_unlikeFloors_27 : decode cX11_unlikeFloors 27 = .ok (.getfield 10, 3) := by decide +kernel
theorem dX11_unlikeFloors_30 : decode cX11_unlikeFloors 30 = .ok (.iload_n 1, 1) := by decide +kernel
theorem dX11_unlikeFloors_31 : decode cX11_unlikeFloors 31 = .ok (.iload 5, 2) := by decide +kernel
theorem dX11_unlikeFloors_33 : decode cX11_unlikeFloors 33 = .ok (.iconst 0, 1) := by decide +kernel
theorem dX11_unlikeFloors_34 : decode cX11_unlikeFloors 34 = .ok (.invokevirtual 117, 3) := by decide +kernel
theorem dX11_unlikeFloors_37 : decode cX11_unlikeFloors 37 = .ok (.ishl, 1) := by decide +kernel
theorem dX11_unlikeFloors_38 : decode cX11_unlikeFloors 38 = .ok (.ior, 1) := by decide +kernel
theorem dX11_unlikeFloors_39 : decode cX11_unlikeFloors 39 = .ok (.istore 7, 2) := by decide +kernel
theorem dX11_unlikeFloors_41 : decode cX11_unlikeFloors 41 = .ok (.iload_n 3, 1) := by decide +kernel
theorem dX11_unlikeFloors_42 : decode cX11_unlikeFloors 42 = .ok (.iload 5, 2) := by decide +kernel
theorem dX11_unlikeFloors_44 : decode cX11_unlikeFloors 44 = .ok (.iand, 1) := by decide +kernel
theorem dX11_unlikeFloors_45 : decode cX11_unlikeFloors 45 = .ok (.ifCond .eq 22, 3) := by decide +kernel
theorem dX11_unlikeFloors_48 : decode cX11_unlikeFloors 48 = .ok (.iload 7, 2) := by decide +kernel
theorem dX11_unlikeFloors_50 : decode cX11_unlikeFloors 50 = .ok (.iconst 2, 1) := by decide +kernel
theorem dX11_unlikeFloors_51 : decode cX11_unlikeFloors 51 = .ok (.aload_n 0, 1) := by decide +kernel
theorem dX11_unlikeFloors_52 : decode cX11_unlikeFloors 52 = .ok (.getfield 10, 3) := by decide +kernel
theorem dX11_unlikeFloors_55 : decode cX11_unlikeFloors 55 = .ok (.iload_n 1, 1) := by decide +kernel
theorem dX11_unlikeFloors_56 : decode cX11_unlikeFloors 56 = .ok (.iload 5, 2) := by decide +kernel
theorem dX11_unlikeFloors_58 : decode cX11_unlikeFloors 58 = .ok (.iload 5, 2) := by decide +kernel
theorem dX11_unlikeFloors_60 : decode cX11_unlikeFloors 60 = .ok (.invokevirtual 117, 3) := by decide +kernel
theorem dX11_unlikeFloors_63 : decode cX11_unlikeFloors 63 = .ok (.ishl, 1) := by decide +kernel
theorem dX11_unlikeFloors_64 : decode cX11_unlikeFloors 64 = .ok (.ior, 1) := by decide +kernel
theorem dX11_unlikeFloors_65 : decode cX11_unlikeFloors 65 = .ok (.istore 7, 2) := by decide +kernel
theorem dX11_unlikeFloors_67 : decode cX11_unlikeFloors 67 = .ok (.iload_n 3, 1) := by decide +kernel
theorem dX11_unlikeFloors_68 : decode cX11_unlikeFloors 68 = .ok (.iload 6, 2) := by decide +kernel
theorem dX11_unlikeFloors_70 : decode cX11_unlikeFloors 70 = .ok (.iand, 1) := by decide +kernel
theorem dX11_unlikeFloors_71 : decode cX11_unlikeFloors 71 = .ok (.ifCond .eq 22, 3) := by decide +kernel
theorem dX11_unlikeFloors_74 : decode cX11_unlikeFloors 74 = .ok (.iload 7, 2) := by decide +kernel
theorem dX11_unlikeFloors_76 : decode cX11_unlikeFloors 76 = .ok (.iconst 2, 1) := by decide +kernel
theorem dX11_unlikeFloors_77 : decode cX11_unlikeFloors 77 = .ok (.aload_n 0, 1) := by decide +kernel
theorem dX11_unlikeFloors_78 : decode cX11_unlikeFloors 78 = .ok (.getfield 10, 3) := by decide +kernel
theorem dX11_unlikeFloors_81 : decode cX11_unlikeFloors 81 = .ok (.iload_n 1, 1) := by decide +kernel
theorem dX11_unlikeFloors_82 : decode cX11_unlikeFloors 82 = .ok (.iload 5, 2) := by decide +kernel
theorem dX11_unlikeFloors_84 : decode cX11_unlikeFloors 84 = .ok (.iload 6, 2) := by decide +kernel
theorem dX11_unlikeFloors_86 : decode cX11_unlikeFloors 86 = .ok (.invokevirtual 117, 3) := by decide +kernel
theorem dX11_unlikeFloors_89 : decode cX11_unlikeFloors 89 = .ok (.ishl, 1) := by decide +kernel
theorem dX11_unlikeFloors_90 : decode cX11_unlikeFloors 90 = .ok (.ior, 1) := by decide +kernel
theorem dX11_unlikeFloors_91 : decode cX11_unlikeFloors 91 = .ok (.istore 7, 2) := by decide +kernel
theorem dX11_unlikeFloors_93 : decode cX11_unlikeFloors 93 = .ok (.iload 7, 2) := by decide +kernel
theorem dX11_unlikeFloors_95 : decode cX11_unlikeFloors 95 = .ok (.invokestatic 100, 3) := by decide +kernel
theorem dX11_unlikeFloors_98 : decode cX11_unlikeFloors 98 = .ok (.ireturn, 1) := by decide +kernel
theorem dX11_sayingOf_0 : decode cX11_sayingOf 0 = .ok (.iload_n 0, 1) := by decide +kernel
theorem dX11_sayingOf_1 : decode cX11_sayingOf 1 = .ok (.iload_n 1, 1) := by decide +kernel
theorem dX11_sayingOf_2 : decode cX11_sayingOf 2 = .ok (.ishr, 1) := by decide +kernel
theorem dX11_sayingOf_3 : decode cX11_sayingOf 3 = .ok (.iconst 1, 1) := by decide +kernel
theorem dX11_sayingOf_4 : decode cX11_sayingOf 4 = .ok (.iand, 1) := by decide +kernel
theorem dX11_sayingOf_5 : decode cX11_sayingOf 5 = .ok (.iconst 2, 1) := by decide +kernel
theorem dX11_sayingOf_6 : decode cX11_sayingOf 6 = .ok (.iload_n 0, 1) := by decide +kernel
theorem dX11_sayingOf_7 : decode cX11_sayingOf 7 = .ok (.bipush 8, 2) := by decide +kernel
theorem dX11_sayingOf_9 : decode cX11_sayingOf 9 = .ok (.iload_n 1, 1) := by decide +kernel
theorem dX11_sayingOf_10 : decode cX11_sayingOf 10 = .ok (.iadd, 1) := by decide +kernel
theorem dX11_sayingOf_11 : decode cX11_sayingOf 11 = .ok (.ishr, 1) := by decide +kernel
theorem dX11_sayingOf_12 : decode cX11_sayingOf 12 = .ok (.iconst 1, 1) := by decide +kernel
theorem dX11_sayingOf_13 : decode cX11_sayingOf 13 = .ok (.iand, 1) := by decide +kernel
theorem dX11_sayingOf_14 : decode cX11_sayingOf 14 = .ok (.imul, 1) := by decide +kernel
theorem dX11_sayingOf_15 : decode cX11_sayingOf 15 = .ok (.iadd, 1) := by decide +kernel
theorem dX11_sayingOf_16 : decode cX11_sayingOf 16 = .ok (.ireturn, 1) := by decide +kernel
theorem dX11_withSaying_0 : decode cX11_withSaying 0 = .ok (.iload_n 0, 1) := by decide +kernel
theorem dX11_withSaying_1 : decode cX11_withSaying 1 = .ok (.iconst 1, 1) := by decide +kernel
theorem dX11_withSaying_2 : decode cX11_withSaying 2 = .ok (.iload_n 1, 1) := by decide +kernel
theorem dX11_withSaying_3 : decode cX11_withSaying 3 = .ok (.ishl, 1) := by decide +kernel
theorem dX11_withSaying_4 : decode cX11_withSaying 4 = .ok (.invokestatic 185, 3) := by decide +kernel
theorem dX11_withSaying_7 : decode cX11_withSaying 7 = .ok (.iconst (-1), 1) := by decide +kernel
theorem dX11_withSaying_8 : decode cX11_withSaying 8 = .ok (.ixor, 1) := by decide +kernel
theorem dX11_withSaying_9 : decode cX11_withSaying 9 = .ok (.iand, 1) := by decide +kernel
theorem dX11_withSaying_10 : decode cX11_withSaying 10 = .ok (.istore_n 3, 1) := by decide +kernel
theorem dX11_withSaying_11 : decode cX11_withSaying 11 = .ok (.iload_n 2, 1) := by decide +kernel
theorem dX11_withSaying_12 : decode cX11_withSaying 12 = .ok (.ifCond .ne 5, 3) := by decide +kernel
theorem dX11_withSaying_15 : decode cX11_withSaying 15 = .ok (.iload_n 3, 1) := by decide +kernel
theorem dX11_withSaying_16 : decode cX11_withSaying 16 = .ok (.ireturn, 1) := by decide +kernel
theorem dX11_withSaying_17 : decode cX11_withSaying 17 = .ok (.iload_n 2, 1) := by decide +kernel
theorem dX11_withSaying_18 : decode cX11_withSaying 18 = .ok (.iconst 1, 1) := by decide +kernel
theorem dX11_withSaying_19 : decode cX11_withSaying 19 = .ok (.if_icmp .ne 11, 3) := by decide +kernel
theorem dX11_withSaying_22 : decode cX11_withSaying 22 = .ok (.iload_n 3, 1) := by decide +kernel
theorem dX11_withSaying_23 : decode cX11_withSaying 23 = .ok (.iconst 1, 1) := by decide +kernel
theorem dX11_withSaying_24 : decode cX11_withSaying 24 = .ok (.iload_n 1, 1) := by decide +kernel
theorem dX11_withSaying_25 : decode cX11_withSaying 25 = .ok (.ishl, 1) := by decide +kernel
theorem dX11_withSaying_26 : decode cX11_withSaying 26 = .ok (.ior, 1) := by decide +kernel
theorem dX11_withSaying_27 : decode cX11_withSaying 27 = .ok (.goto 11, 3) := by decide +kernel
theorem dX11_withSaying_30 : decode cX11_withSaying 30 = .ok (.iload_n 3, 1) := by decide +kernel
theorem dX11_withSaying_31 : decode cX11_withSaying 31 = .ok (.iconst 1, 1) := by decide +kernel
theorem dX11_withSaying_32 : decode cX11_withSaying 32 = .ok (.bipush 8, 2) := by decide +kernel
theorem dX11_withSaying_34 : decode cX11_withSaying 34 = .ok (.iload_n 1, 1) := by decide +kernel
theorem dX11_withSaying_35 : decode cX11_withSaying 35 = .ok (.iadd, 1) := by decide +kernel
theorem dX11_withSaying_36 : decode cX11_withSaying 36 = .ok (.ishl, 1) := by decide +kernel
theorem dX11_withSaying_37 : decode cX11_withSaying 37 = .ok (.ior, 1) := by decide +kernel
theorem dX11_withSaying_38 : decode cX11_withSaying 38 = .ok (.ireturn, 1) := by decide +kernel
theorem dX11_numberOf_0 : decode cX11_numberOf 0 = .ok (.iconst 0, 1) := by decide +kernel
theorem dX11_numberOf_1 : decode cX11_numberOf 1 = .ok (.istore_n 1, 1) := by decide +kernel
theorem dX11_numberOf_2 : decode cX11_numberOf 2 = .ok (.bipush 7, 2) := by decide +kernel
theorem dX11_numberOf_4 : decode cX11_numberOf 4 = .ok (.istore_n 2, 1) := by decide +kernel
theorem dX11_numberOf_5 : decode cX11_numberOf 5 = .ok (.iload_n 2, 1) := by decide +kernel
theorem dX11_numberOf_6 : decode cX11_numberOf 6 = .ok (.ifCond .lt 19, 3) := by decide +kernel
theorem dX11_numberOf_9 : decode cX11_numberOf 9 = .ok (.iload_n 1, 1) := by decide +kernel
theorem dX11_numberOf_10 : decode cX11_numberOf 10 = .ok (.iconst 3, 1) := by decide +kernel
theorem dX11_numberOf_11 : decode cX11_numberOf 11 = .ok (.imul, 1) := by decide +kernel
theorem dX11_numberOf_12 : decode cX11_numberOf 12 = .ok (.iload_n 0, 1) := by decide +kernel
theorem dX11_numberOf_13 : decode cX11_numberOf 13 = .ok (.iload_n 2, 1) := by decide +kernel
theorem dX11_numberOf_14 : decode cX11_numberOf 14 = .ok (.invokestatic 55, 3) := by decide +kernel
theorem dX11_numberOf_17 : decode cX11_numberOf 17 = .ok (.iadd, 1) := by decide +kernel
theorem dX11_numberOf_18 : decode cX11_numberOf 18 = .ok (.istore_n 1, 1) := by decide +kernel
theorem dX11_numberOf_19 : decode cX11_numberOf 19 = .ok (.iinc 2 (-1), 3) := by decide +kernel
theorem dX11_numberOf_22 : decode cX11_numberOf 22 = .ok (.goto (-17), 3) := by decide +kernel
theorem dX11_numberOf_25 : decode cX11_numberOf 25 = .ok (.iload_n 1, 1) := by decide +kernel
theorem dX11_numberOf_26 : decode cX11_numberOf 26 = .ok (.ireturn, 1) := by decide +kernel
theorem dX11_sayingsOf_0 : decode cX11_sayingsOf 0 = .ok (.iconst 0, 1) := by decide +kernel
theorem dX11_sayingsOf_1 : decode cX11_sayingsOf 1 = .ok (.istore_n 1, 1) := by decide +kernel
theorem dX11_sayingsOf_2 : decode cX11_sayingsOf 2 = .ok (.iload_n 0, 1) := by decide +kernel
theorem dX11_sayingsOf_3 : decode cX11_sayingsOf 3 = .ok (.istore_n 2, 1) := by decide +kernel
theorem dX11_sayingsOf_4 : decode cX11_sayingsOf 4 = .ok (.iconst 0, 1) := by decide +kernel
theorem dX11_sayingsOf_5 : decode cX11_sayingsOf 5 = .ok (.istore_n 3, 1) := by decide +kernel
theorem dX11_sayingsOf_6 : decode cX11_sayingsOf 6 = .ok (.iload_n 3, 1) := by decide +kernel
theorem dX11_sayingsOf_7 : decode cX11_sayingsOf 7 = .ok (.bipush 8, 2) := by decide +kernel
theorem dX11_sayingsOf_9 : decode cX11_sayingsOf 9 = .ok (.if_icmp .ge 22, 3) := by decide +kernel
theorem dX11_sayingsOf_12 : decode cX11_sayingsOf 12 = .ok (.iload_n 1, 1) := by decide +kernel
theorem dX11_sayingsOf_13 : decode cX11_sayingsOf 13 = .ok (.iload_n 3, 1) := by decide +kernel
theorem dX11_sayingsOf_14 : decode cX11_sayingsOf 14 = .ok (.iload_n 2, 1) := by decide +kernel
theorem dX11_sayingsOf_15 : decode cX11_sayingsOf 15 = .ok (.iconst 3, 1) := by decide +kernel
theorem dX11_sayingsOf_16 : decode cX11_sayingsOf 16 = .ok (.irem, 1) := by decide +kernel
theorem dX11_sayingsOf_17 : decode cX11_sayingsOf 17 = .ok (.invokestatic 59, 3) := by decide +kernel
theorem dX11_sayingsOf_20 : decode cX11_sayingsOf 20 = .ok (.istore_n 1, 1) := by decide +kernel
theorem dX11_sayingsOf_21 : decode cX11_sayingsOf 21 = .ok (.iload_n 2, 1) := by decide +kernel
theorem dX11_sayingsOf_22 : decode cX11_sayingsOf 22 = .ok (.iconst 3, 1) := by decide +kernel
theorem dX11_sayingsOf_23 : decode cX11_sayingsOf 23 = .ok (.idiv, 1) := by decide +kernel
theorem dX11_sayingsOf_24 : decode cX11_sayingsOf 24 = .ok (.istore_n 2, 1) := by decide +kernel
theorem dX11_sayingsOf_25 : decode cX11_sayingsOf 25 = .ok (.iinc 3 1, 3) := by decide +kernel
theorem dX11_sayingsOf_28 : decode cX11_sayingsOf 28 = .ok (.goto (-22), 3) := by decide +kernel
theorem dX11_sayingsOf_31 : decode cX11_sayingsOf 31 = .ok (.iload_n 1, 1) := by decide +kernel
theorem dX11_sayingsOf_32 : decode cX11_sayingsOf 32 = .ok (.ireturn, 1) := by decide +kernel
theorem dX11_next_0 : decode cX11_next 0 = .ok (.iload_n 0, 1) := by decide +kernel
theorem dX11_next_1 : decode cX11_next 1 = .ok (.istore_n 1, 1) := by decide +kernel
theorem dX11_next_2 : decode cX11_next 2 = .ok (.iconst 0, 1) := by decide +kernel
theorem dX11_next_3 : decode cX11_next 3 = .ok (.istore_n 2, 1) := by decide +kernel
theorem dX11_next_4 : decode cX11_next 4 = .ok (.iload_n 2, 1) := by decide +kernel
theorem dX11_next_5 : decode cX11_next 5 = .ok (.bipush 8, 2) := by decide +kernel
theorem dX11_next_7 : decode cX11_next 7 = .ok (.if_icmp .ge 52, 3) := by decide +kernel
theorem dX11_next_10 : decode cX11_next 10 = .ok (.iconst 1, 1) := by decide +kernel
theorem dX11_next_11 : decode cX11_next 11 = .ok (.iload_n 2, 1) := by decide +kernel
theorem dX11_next_12 : decode cX11_next 12 = .ok (.ishl, 1) := by decide +kernel
theorem dX11_next_13 : decode cX11_next 13 = .ok (.istore_n 3, 1) := by decide +kernel
theorem dX11_next_14 : decode cX11_next 14 = .ok (.iconst 1, 1) := by decide +kernel
theorem dX11_next_15 : decode cX11_next 15 = .ok (.bipush 8, 2) := by decide +kernel
theorem dX11_next_17 : decode cX11_next 17 = .ok (.iload_n 2, 1) := by decide +kernel
theorem dX11_next_18 : decode cX11_next 18 = .ok (.iadd, 1) := by decide +kernel
theorem dX11_next_19 : decode cX11_next 19 = .ok (.ishl, 1) := by decide +kernel
theorem dX11_next_20 : decode cX11_next 20 = .ok (.istore 4, 2) := by decide +kernel
theorem dX11_next_22 : decode cX11_next 22 = .ok (.iload_n 1, 1) := by decide +kernel
theorem dX11_next_23 : decode cX11_next 23 = .ok (.iload 4, 2) := by decide +kernel
theorem dX11_next_25 : decode cX11_next 25 = .ok (.iand, 1) := by decide +kernel
theorem dX11_next_26 : decode cX11_next 26 = .ok (.ifCond .ne 22, 3) := by decide +kernel
theorem dX11_next_29 : decode cX11_next 29 = .ok (.iload_n 1, 1) := by decide +kernel
theorem dX11_next_30 : decode cX11_next 30 = .ok (.iload_n 3, 1) := by decide +kernel
theorem dX11_next_31 : decode cX11_next 31 = .ok (.iand, 1) := by decide +kernel
theorem dX11_next_32 : decode cX11_next 32 = .ok (.ifCond .ne 9, 3) := by decide +kernel
theorem dX11_next_35 : decode cX11_next 35 = .ok (.iload_n 1, 1) := by decide +kernel
theorem dX11_next_36 : decode cX11_next 36 = .ok (.iload_n 3, 1) := by decide +kernel
theorem dX11_next_37 : decode cX11_next 37 = .ok (.ior, 1) := by decide +kernel
theorem dX11_next_38 : decode cX11_next 38 = .ok (.goto 9, 3) := by decide +kernel
theorem dX11_next_41 : decode cX11_next 41 = .ok (.iload_n 1, 1) := by decide +kernel
theorem dX11_next_42 : decode cX11_next 42 = .ok (.iload_n 3, 1) := by decide +kernel
theorem dX11_next_43 : decode cX11_next 43 = .ok (.ixor, 1) := by decide +kernel
theorem dX11_next_44 : decode cX11_next 44 = .ok (.iload 4, 2) := by decide +kernel
theorem dX11_next_46 : decode cX11_next 46 = .ok (.ixor, 1) := by decide +kernel
theorem dX11_next_47 : decode cX11_next 47 = .ok (.ireturn, 1) := by decide +kernel
theorem dX11_next_48 : decode cX11_next 48 = .ok (.iload_n 1, 1) := by decide +kernel
theorem dX11_next_49 : decode cX11_next 49 = .ok (.iload 4, 2) := by decide +kernel
theorem dX11_next_51 : decode cX11_next 51 = .ok (.ixor, 1) := by decide +kernel
theorem dX11_next_52 : decode cX11_next 52 = .ok (.istore_n 1, 1) := by decide +kernel
theorem dX11_next_53 : decode cX11_next 53 = .ok (.iinc 2 1, 3) := by decide +kernel
theorem dX11_next_56 : decode cX11_next 56 = .ok (.goto (-52), 3) := by decide +kernel
theorem dX11_next_59 : decode cX11_next 59 = .ok (.iload_n 1, 1) := by decide +kernel
theorem dX11_next_60 : decode cX11_next 60 = .ok (.ireturn, 1) := by decide +kernel
theorem dX11_bothWays_0 : decode cX11_bothWays 0 = .ok (.iload_n 0, 1) := by decide +kernel
theorem dX11_bothWays_1 : decode cX11_bothWays 1 = .ok (.iload_n 0, 1) := by decide +kernel
theorem dX11_bothWays_2 : decode cX11_bothWays 2 = .ok (.bipush 8, 2) := by decide +kernel
theorem dX11_bothWays_4 : decode cX11_bothWays 4 = .ok (.ishl, 1) := by decide +kernel
theorem dX11_bothWays_5 : decode cX11_bothWays 5 = .ok (.ior, 1) := by decide +kernel
theorem dX11_bothWays_6 : decode cX11_bothWays 6 = .ok (.ireturn, 1) := by decide +kernel
theorem dX11_factsOf_0 : decode cX11_factsOf 0 = .ok (.iload_n 0, 1) := by decide +kernel
theorem dX11_factsOf_1 : decode cX11_factsOf 1 = .ok (.iload_n 0, 1) := by decide +kernel
theorem dX11_factsOf_2 : decode cX11_factsOf 2 = .ok (.bipush 8, 2) := by decide +kernel
theorem dX11_factsOf_4 : decode cX11_factsOf 4 = .ok (.ishr, 1) := by decide +kernel
theorem dX11_factsOf_5 : decode cX11_factsOf 5 = .ok (.ior, 1) := by decide +kernel
theorem dX11_factsOf_6 : decode cX11_factsOf 6 = .ok (.sipush 255, 3) := by decide +kernel
theorem dX11_factsOf_9 : decode cX11_factsOf 9 = .ok (.iand, 1) := by decide +kernel
theorem dX11_factsOf_10 : decode cX11_factsOf 10 = .ok (.ireturn, 1) := by decide +kernel
theorem dX11_turned_0 : decode cX11_turned 0 = .ok (.iload_n 0, 1) := by decide +kernel
theorem dX11_turned_1 : decode cX11_turned 1 = .ok (.sipush 255, 3) := by decide +kernel
theorem dX11_turned_4 : decode cX11_turned 4 = .ok (.iand, 1) := by decide +kernel
theorem dX11_turned_5 : decode cX11_turned 5 = .ok (.bipush 8, 2) := by decide +kernel
theorem dX11_turned_7 : decode cX11_turned 7 = .ok (.ishl, 1) := by decide +kernel
theorem dX11_turned_8 : decode cX11_turned 8 = .ok (.iload_n 0, 1) := by decide +kernel
theorem dX11_turned_9 : decode cX11_turned 9 = .ok (.bipush 8, 2) := by decide +kernel
theorem dX11_turned_11 : decode cX11_turned 11 = .ok (.ishr, 1) := by decide +kernel
theorem dX11_turned_12 : decode cX11_turned 12 = .ok (.sipush 255, 3) := by decide +kernel
theorem dX11_turned_15 : decode cX11_turned 15 = .ok (.iand, 1) := by decide +kernel
theorem dX11_turned_16 : decode cX11_turned 16 = .ok (.ior, 1) := by decide +kernel
theorem dX11_turned_17 : decode cX11_turned 17 = .ok (.ireturn, 1) := by decide +kernel
theorem dX11_truth_0 : decode cX11_truth 0 = .ok (.iload_n 0, 1) := by decide +kernel
theorem dX11_truth_1 : decode cX11_truth 1 = .ok (.sipush 255, 3) := by decide +kernel
theorem dX11_truth_4 : decode cX11_truth 4 = .ok (.iload_n 0, 1) := by decide +kernel
theorem dX11_truth_5 : decode cX11_truth 5 = .ok (.iconst (-1), 1) := by decide +kernel
theorem dX11_truth_6 : decode cX11_truth 6 = .ok (.ixor, 1) := by decide +kernel
theorem dX11_truth_7 : decode cX11_truth 7 = .ok (.iand, 1) := by decide +kernel
theorem dX11_truth_8 : decode cX11_truth 8 = .ok (.bipush 8, 2) := by decide +kernel
theorem dX11_truth_10 : decode cX11_truth 10 = .ok (.ishl, 1) := by decide +kernel
theorem dX11_truth_11 : decode cX11_truth 11 = .ok (.ior, 1) := by decide +kernel
theorem dX11_truth_12 : decode cX11_truth 12 = .ok (.ireturn, 1) := by decide +kernel
theorem dX11_isWithin_0 : decode cX11_isWithin 0 = .ok (.iload_n 0, 1) := by decide +kernel
theorem dX11_isWithin_1 : decode cX11_isWithin 1 = .ok (.iload_n 1, 1) := by decide +kernel
theorem dX11_isWithin_2 : decode cX11_isWithin 2 = .ok (.iconst (-1), 1) := by decide +kernel
theorem dX11_isWithin_3 : decode cX11_isWithin 3 = .ok (.ixor, 1) := by decide +kernel
theorem dX11_isWithin_4 : decode cX11_isWithin 4 = .ok (.iand, 1) := by decide +kernel
theorem dX11_isWithin_5 : decode cX11_isWithin 5 = .ok (.ifCond .ne 7, 3) := by decide +kernel
theorem dX11_isWithin_8 : decode cX11_isWithin 8 = .ok (.iconst 1, 1) := by decide +kernel
theorem dX11_isWithin_9 : decode cX11_isWithin 9 = .ok (.goto 4, 3) := by decide +kernel
theorem dX11_isWithin_12 : decode cX11_isWithin 12 = .ok (.iconst 0, 1) := by decide +kernel
theorem dX11_isWithin_13 : decode cX11_isWithin 13 = .ok (.ireturn, 1) := by decide +kernel
theorem dX11_asHeard_0 : decode cX11_asHeard 0 = .ok (.iload_n 0, 1) := by decide +kernel
theorem dX11_asHeard_1 : decode cX11_asHeard 1 = .ok (.iload_n 1, 1) := by decide +kernel
theorem dX11_asHeard_2 : decode cX11_asHeard 2 = .ok (.iand, 1) := by decide +kernel
theorem dX11_asHeard_3 : decode cX11_asHeard 3 = .ok (.invokestatic 100, 3) := by decide +kernel
theorem dX11_asHeard_6 : decode cX11_asHeard 6 = .ok (.ireturn, 1) := by decide +kernel
theorem dX11_otherWay_0 : decode cX11_otherWay 0 = .ok (.iload_n 0, 1) := by decide +kernel
theorem dX11_otherWay_1 : decode cX11_otherWay 1 = .ok (.iload_n 1, 1) := by decide +kernel
theorem dX11_otherWay_2 : decode cX11_otherWay 2 = .ok (.invokestatic 278, 3) := by decide +kernel
theorem dX11_otherWay_5 : decode cX11_otherWay 5 = .ok (.iand, 1) := by decide +kernel
theorem dX11_otherWay_6 : decode cX11_otherWay 6 = .ok (.invokestatic 100, 3) := by decide +kernel
theorem dX11_otherWay_9 : decode cX11_otherWay 9 = .ok (.ireturn, 1) := by decide +kernel
theorem dX11_unheard_0 : decode cX11_unheard 0 = .ok (.iload_n 0, 1) := by decide +kernel
theorem dX11_unheard_1 : decode cX11_unheard 1 = .ok (.iload_n 1, 1) := by decide +kernel
theorem dX11_unheard_2 : decode cX11_unheard 2 = .ok (.invokestatic 191, 3) := by decide +kernel
theorem dX11_unheard_5 : decode cX11_unheard 5 = .ok (.invokestatic 185, 3) := by decide +kernel
theorem dX11_unheard_8 : decode cX11_unheard 8 = .ok (.iconst (-1), 1) := by decide +kernel
theorem dX11_unheard_9 : decode cX11_unheard 9 = .ok (.ixor, 1) := by decide +kernel
theorem dX11_unheard_10 : decode cX11_unheard 10 = .ok (.iand, 1) := by decide +kernel
theorem dX11_unheard_11 : decode cX11_unheard 11 = .ok (.invokestatic 100, 3) := by decide +kernel
theorem dX11_unheard_14 : decode cX11_unheard 14 = .ok (.ireturn, 1) := by decide +kernel
theorem dX11_placeOf_0 : decode cX11_placeOf 0 = .ok (.iload_n 0, 1) := by decide +kernel
theorem dX11_placeOf_1 : decode cX11_placeOf 1 = .ok (.bipush 9, 2) := by decide +kernel
theorem dX11_placeOf_3 : decode cX11_placeOf 3 = .ok (.imul, 1) := by decide +kernel
theorem dX11_placeOf_4 : decode cX11_placeOf 4 = .ok (.iload_n 1, 1) := by decide +kernel
theorem dX11_placeOf_5 : decode cX11_placeOf 5 = .ok (.iadd, 1) := by decide +kernel
theorem dX11_placeOf_6 : decode cX11_placeOf 6 = .ok (.bipush 9, 2) := by decide +kernel
theorem dX11_placeOf_8 : decode cX11_placeOf 8 = .ok (.imul, 1) := by decide +kernel
theorem dX11_placeOf_9 : decode cX11_placeOf 9 = .ok (.iload_n 2, 1) := by decide +kernel
theorem dX11_placeOf_10 : decode cX11_placeOf 10 = .ok (.iadd, 1) := by decide +kernel
theorem dX11_placeOf_11 : decode cX11_placeOf 11 = .ok (.ireturn, 1) := by decide +kernel
theorem dX11_held_0 : decode cX11_held 0 = .ok (.iload_n 1, 1) := by decide +kernel
theorem dX11_held_1 : decode cX11_held 1 = .ok (.iload_n 2, 1) := by decide +kernel
theorem dX11_held_2 : decode cX11_held 2 = .ok (.iload_n 0, 1) := by decide +kernel
theorem dX11_held_3 : decode cX11_held 3 = .ok (.invokestatic 281, 3) := by decide +kernel
theorem dX11_held_6 : decode cX11_held 6 = .ok (.invokestatic 286, 3) := by decide +kernel
theorem dX11_held_9 : decode cX11_held 9 = .ok (.ireturn, 1) := by decide +kernel
theorem dX11_riderOf_0 : decode cX11_riderOf 0 = .ok (.iload_n 0, 1) := by decide +kernel
theorem dX11_riderOf_1 : decode cX11_riderOf 1 = .ok (.bipush 10, 2) := by decide +kernel
theorem dX11_riderOf_3 : decode cX11_riderOf 3 = .ok (.idiv, 1) := by decide +kernel
theorem dX11_riderOf_4 : decode cX11_riderOf 4 = .ok (.istore_n 2, 1) := by decide +kernel
theorem dX11_riderOf_5 : decode cX11_riderOf 5 = .ok (.iload_n 0, 1) := by decide +kernel
theorem dX11_riderOf_6 : decode cX11_riderOf 6 = .ok (.bipush 10, 2) := by decide +kernel
theorem dX11_riderOf_8 : decode cX11_riderOf 8 = .ok (.irem, 1) := by decide +kernel
theorem dX11_riderOf_9 : decode cX11_riderOf 9 = .ok (.istore_n 3, 1) := by decide +kernel
theorem dX11_riderOf_10 : decode cX11_riderOf 10 = .ok (.iload_n 2, 1) := by decide +kernel
theorem dX11_riderOf_11 : decode cX11_riderOf 11 = .ok (.tableswitch 103 1 6 #[37, 48, 59, 70, 81, 92], 37) := by decide +kernel
theorem dX11_riderOf_48 : decode cX11_riderOf 48 = .ok (.new 289, 3) := by decide +kernel
theorem dX11_riderOf_51 : decode cX11_riderOf 51 = .ok (.dup, 1) := by decide +kernel
theorem dX11_riderOf_52 : decode cX11_riderOf 52 = .ok (.iload_n 2, 1) := by decide +kernel
theorem dX11_riderOf_53 : decode cX11_riderOf 53 = .ok (.iload_n 3, 1) := by decide +kernel
theorem dX11_riderOf_54 : decode cX11_riderOf 54 = .ok (.iload_n 1, 1) := by decide +kernel
theorem dX11_riderOf_55 : decode cX11_riderOf 55 = .ok (.invokespecial 291, 3) := by decide +kernel
theorem dX11_riderOf_58 : decode cX11_riderOf 58 = .ok (.areturn, 1) := by decide +kernel
theorem dX11_riderOf_59 : decode cX11_riderOf 59 = .ok (.new 294, 3) := by decide +kernel
theorem dX11_riderOf_62 : decode cX11_riderOf 62 = .ok (.dup, 1) := by decide +kernel
theorem dX11_riderOf_63 : decode cX11_riderOf 63 = .ok (.iload_n 2, 1) := by decide +kernel
theorem dX11_riderOf_64 : decode cX11_riderOf 64 = .ok (.iload_n 3, 1) := by decide +kernel
theorem dX11_riderOf_65 : decode cX11_riderOf 65 = .ok (.iload_n 1, 1) := by decide +kernel
theorem dX11_riderOf_66 : decode cX11_riderOf 66 = .ok (.invokespecial 296, 3) := by decide +kernel
theorem dX11_riderOf_69 : decode cX11_riderOf 69 = .ok (.areturn, 1) := by decide +kernel
theorem dX11_riderOf_70 : decode cX11_riderOf 70 = .ok (.new 297, 3) := by decide +kernel
theorem dX11_riderOf_73 : decode cX11_riderOf 73 = .ok (.dup, 1) := by decide +kernel
theorem dX11_riderOf_74 : decode cX11_riderOf 74 = .ok (.iload_n 2, 1) := by decide +kernel
theorem dX11_riderOf_75 : decode cX11_riderOf 75 = .ok (.iload_n 3, 1) := by decide +kernel
theorem dX11_riderOf_76 : decode cX11_riderOf 76 = .ok (.iload_n 1, 1) := by decide +kernel
theorem dX11_riderOf_77 : decode cX11_riderOf 77 = .ok (.invokespecial 299, 3) := by decide +kernel
theorem dX11_riderOf_80 : decode cX11_riderOf 80 = .ok (.areturn, 1) := by decide +kernel
theorem dX11_riderOf_81 : decode cX11_riderOf 81 = .ok (.new 300, 3) := by decide +kernel
theorem dX11_riderOf_84 : decode cX11_riderOf 84 = .ok (.dup, 1) := by decide +kernel
theorem dX11_riderOf_85 : decode cX11_riderOf 85 = .ok (.iload_n 2, 1) := by decide +kernel
theorem dX11_riderOf_86 : decode cX11_riderOf 86 = .ok (.iload_n 3, 1) := by decide +kernel
theorem dX11_riderOf_87 : decode cX11_riderOf 87 = .ok (.iload_n 1, 1) := by decide +kernel
theorem dX11_riderOf_88 : decode cX11_riderOf 88 = .ok (.invokespecial 302, 3) := by decide +kernel
theorem dX11_riderOf_91 : decode cX11_riderOf 91 = .ok (.areturn, 1) := by decide +kernel
theorem dX11_riderOf_92 : decode cX11_riderOf 92 = .ok (.new 303, 3) := by decide +kernel
theorem dX11_riderOf_95 : decode cX11_riderOf 95 = .ok (.dup, 1) := by decide +kernel
theorem dX11_riderOf_96 : decode cX11_riderOf 96 = .ok (.iload_n 2, 1) := by decide +kernel
theorem dX11_riderOf_97 : decode cX11_riderOf 97 = .ok (.iload_n 3, 1) := by decide +kernel
theorem dX11_riderOf_98 : decode cX11_riderOf 98 = .ok (.iload_n 1, 1) := by decide +kernel
theorem dX11_riderOf_99 : decode cX11_riderOf 99 = .ok (.invokespecial 305, 3) := by decide +kernel
theorem dX11_riderOf_102 : decode cX11_riderOf 102 = .ok (.areturn, 1) := by decide +kernel
theorem dX11_riderOf_103 : decode cX11_riderOf 103 = .ok (.new 306, 3) := by decide +kernel
theorem dX11_riderOf_106 : decode cX11_riderOf 106 = .ok (.dup, 1) := by decide +kernel
theorem dX11_riderOf_107 : decode cX11_riderOf 107 = .ok (.iload_n 2, 1) := by decide +kernel
theorem dX11_riderOf_108 : decode cX11_riderOf 108 = .ok (.iload_n 3, 1) := by decide +kernel
theorem dX11_riderOf_109 : decode cX11_riderOf 109 = .ok (.iload_n 1, 1) := by decide +kernel
theorem dX11_riderOf_110 : decode cX11_riderOf 110 = .ok (.invokespecial 308, 3) := by decide +kernel
theorem dX11_riderOf_113 : decode cX11_riderOf 113 = .ok (.areturn, 1) := by decide +kernel
theorem dX11_riderOf_114 : decode cX11_riderOf 114 = .ok (.new 93, 3) := by decide +kernel
theorem dX11_riderOf_117 : decode cX11_riderOf 117 = .ok (.dup, 1) := by decide +kernel
theorem dX11_riderOf_118 : decode cX11_riderOf 118 = .ok (.iload_n 2, 1) := by decide +kernel
theorem dX11_riderOf_119 : decode cX11_riderOf 119 = .ok (.iload_n 3, 1) := by decide +kernel
theorem dX11_riderOf_120 : decode cX11_riderOf 120 = .ok (.iload_n 1, 1) := by decide +kernel
theorem dX11_riderOf_121 : decode cX11_riderOf 121 = .ok (.invokespecial 309, 3) := by decide +kernel
theorem dX11_riderOf_124 : decode cX11_riderOf 124 = .ok (.areturn, 1) := by decide +kernel
theorem dX11_isOfKind_0 : decode cX11_isOfKind 0 = .ok (.iload_n 1, 1) := by decide +kernel
theorem dX11_isOfKind_1 : decode cX11_isOfKind 1 = .ok (.tableswitch 75 0 6 #[43, 45, 50, 55, 60, 65, 70], 43) := by decide +kernel
theorem dX11_isOfKind_44 : decode cX11_isOfKind 44 = .ok (.iconst 1, 1) := by decide +kernel
theorem dX11_isOfKind_45 : decode cX11_isOfKind 45 = .ok (.ireturn, 1) := by decide +kernel
theorem dX11_isOfKind_46 : decode cX11_isOfKind 46 = .ok (.aload_n 0, 1) := by decide +kernel
theorem dX11_isOfKind_47 : decode cX11_isOfKind 47 = .ok (.instanceof 289, 3) := by decide +kernel
theorem dX11_isOfKind_50 : decode cX11_isOfKind 50 = .ok (.ireturn, 1) := by decide +kernel
theorem dX11_isOfKind_51 : decode cX11_isOfKind 51 = .ok (.aload_n 0, 1) := by decide +kernel
theorem dX11_isOfKind_52 : decode cX11_isOfKind 52 = .ok (.instanceof 294, 3) := by decide +kernel
theorem dX11_isOfKind_55 : decode cX11_isOfKind 55 = .ok (.ireturn, 1) := by decide +kernel
theorem dX11_isOfKind_56 : decode cX11_isOfKind 56 = .ok (.aload_n 0, 1) := by decide +kernel
theorem dX11_isOfKind_57 : decode cX11_isOfKind 57 = .ok (.instanceof 297, 3) := by decide +kernel
theorem dX11_isOfKind_60 : decode cX11_isOfKind 60 = .ok (.ireturn, 1) := by decide +kernel
theorem dX11_isOfKind_61 : decode cX11_isOfKind 61 = .ok (.aload_n 0, 1) := by decide +kernel
theorem dX11_isOfKind_62 : decode cX11_isOfKind 62 = .ok (.instanceof 300, 3) := by decide +kernel
theorem dX11_isOfKind_65 : decode cX11_isOfKind 65 = .ok (.ireturn, 1) := by decide +kernel
theorem dX11_isOfKind_66 : decode cX11_isOfKind 66 = .ok (.aload_n 0, 1) := by decide +kernel
theorem dX11_isOfKind_67 : decode cX11_isOfKind 67 = .ok (.instanceof 303, 3) := by decide +kernel
theorem dX11_isOfKind_70 : decode cX11_isOfKind 70 = .ok (.ireturn, 1) := by decide +kernel
theorem dX11_isOfKind_71 : decode cX11_isOfKind 71 = .ok (.aload_n 0, 1) := by decide +kernel
theorem dX11_isOfKind_72 : decode cX11_isOfKind 72 = .ok (.instanceof 306, 3) := by decide +kernel
theorem dX11_isOfKind_75 : decode cX11_isOfKind 75 = .ok (.ireturn, 1) := by decide +kernel
theorem dX11_isOfKind_76 : decode cX11_isOfKind 76 = .ok (.iconst 0, 1) := by decide +kernel
theorem dX11_isOfKind_77 : decode cX11_isOfKind 77 = .ok (.ireturn, 1) := by decide +kernel
theorem dJ6_bitCount_0f7a4_0 : decode cJ6_bitCount_0f7a4 0 = .ok (.iload_n 0, 1) := by decide +kernel
theorem dJ6_bitCount_0f7a4_1 : decode cJ6_bitCount_0f7a4 1 = .ok (.iload_n 0, 1) := by decide +kernel
theorem dJ6_bitCount_0f7a4_2 : decode cJ6_bitCount_0f7a4 2 = .ok (.iconst 1, 1) := by decide +kernel
theorem dJ6_bitCount_0f7a4_3 : decode cJ6_bitCount_0f7a4 3 = .ok (.iushr, 1) := by decide +kernel
theorem dJ6_bitCount_0f7a4_4 : decode cJ6_bitCount_0f7a4 4 = .ok (.ldc_w 265, 3) := by decide +kernel
theorem dJ6_bitCount_0f7a4_7 : decode cJ6_bitCount_0f7a4 7 = .ok (.iand, 1) := by decide +kernel
theorem dJ6_bitCount_0f7a4_8 : decode cJ6_bitCount_0f7a4 8 = .ok (.isub, 1) := by decide +kernel
theorem dJ6_bitCount_0f7a4_9 : decode cJ6_bitCount_0f7a4 9 = .ok (.istore_n 0, 1) := by decide +kernel
theorem dJ6_bitCount_0f7a4_10 : decode cJ6_bitCount_0f7a4 10 = .ok (.iload_n 0, 1) := by decide +kernel
theorem dJ6_bitCount_0f7a4_11 : decode cJ6_bitCount_0f7a4 11 = .ok (.ldc_w 266, 3) := by decide +kernel
theorem dJ6_bitCount_0f7a4_14 : decode cJ6_bitCount_0f7a4 14 = .ok (.iand, 1) := by decide +kernel
theorem dJ6_bitCount_0f7a4_15 : decode cJ6_bitCount_0f7a4 15 = .ok (.iload_n 0, 1) := by decide +kernel
theorem dJ6_bitCount_0f7a4_16 : decode cJ6_bitCount_0f7a4 16 = .ok (.iconst 2, 1) := by decide +kernel
theorem dJ6_bitCount_0f7a4_17 : decode cJ6_bitCount_0f7a4 17 = .ok (.iushr, 1) := by decide +kernel
theorem dJ6_bitCount_0f7a4_18 : decode cJ6_bitCount_0f7a4 18 = .ok (.ldc_w 266, 3) := by decide +kernel
theorem dJ6_bitCount_0f7a4_21 : decode cJ6_bitCount_0f7a4 21 = .ok (.iand, 1) := by decide +kernel
theorem dJ6_bitCount_0f7a4_22 : decode cJ6_bitCount_0f7a4 22 = .ok (.iadd, 1) := by decide +kernel
theorem dJ6_bitCount_0f7a4_23 : decode cJ6_bitCount_0f7a4 23 = .ok (.istore_n 0, 1) := by decide +kernel
theorem dJ6_bitCount_0f7a4_24 : decode cJ6_bitCount_0f7a4 24 = .ok (.iload_n 0, 1) := by decide +kernel
theorem dJ6_bitCount_0f7a4_25 : decode cJ6_bitCount_0f7a4 25 = .ok (.iload_n 0, 1) := by decide +kernel
theorem dJ6_bitCount_0f7a4_26 : decode cJ6_bitCount_0f7a4 26 = .ok (.iconst 4, 1) := by decide +kernel
theorem dJ6_bitCount_0f7a4_27 : decode cJ6_bitCount_0f7a4 27 = .ok (.iushr, 1) := by decide +kernel
theorem dJ6_bitCount_0f7a4_28 : decode cJ6_bitCount_0f7a4 28 = .ok (.iadd, 1) := by decide +kernel
theorem dJ6_bitCount_0f7a4_29 : decode cJ6_bitCount_0f7a4 29 = .ok (.ldc_w 267, 3) := by decide +kernel
theorem dJ6_bitCount_0f7a4_32 : decode cJ6_bitCount_0f7a4 32 = .ok (.iand, 1) := by decide +kernel
theorem dJ6_bitCount_0f7a4_33 : decode cJ6_bitCount_0f7a4 33 = .ok (.istore_n 0, 1) := by decide +kernel
theorem dJ6_bitCount_0f7a4_34 : decode cJ6_bitCount_0f7a4 34 = .ok (.iload_n 0, 1) := by decide +kernel
theorem dJ6_bitCount_0f7a4_35 : decode cJ6_bitCount_0f7a4 35 = .ok (.iload_n 0, 1) := by decide +kernel
theorem dJ6_bitCount_0f7a4_36 : decode cJ6_bitCount_0f7a4 36 = .ok (.bipush 8, 2) := by decide +kernel
theorem dJ6_bitCount_0f7a4_38 : decode cJ6_bitCount_0f7a4 38 = .ok (.iushr, 1) := by decide +kernel
theorem dJ6_bitCount_0f7a4_39 : decode cJ6_bitCount_0f7a4 39 = .ok (.iadd, 1) := by decide +kernel
theorem dJ6_bitCount_0f7a4_40 : decode cJ6_bitCount_0f7a4 40 = .ok (.istore_n 0, 1) := by decide +kernel
theorem dJ6_bitCount_0f7a4_41 : decode cJ6_bitCount_0f7a4 41 = .ok (.iload_n 0, 1) := by decide +kernel
theorem dJ6_bitCount_0f7a4_42 : decode cJ6_bitCount_0f7a4 42 = .ok (.iload_n 0, 1) := by decide +kernel
theorem dJ6_bitCount_0f7a4_43 : decode cJ6_bitCount_0f7a4 43 = .ok (.bipush 16, 2) := by decide +kernel
theorem dJ6_bitCount_0f7a4_45 : decode cJ6_bitCount_0f7a4 45 = .ok (.iushr, 1) := by decide +kernel
theorem dJ6_bitCount_0f7a4_46 : decode cJ6_bitCount_0f7a4 46 = .ok (.iadd, 1) := by decide +kernel
theorem dJ6_bitCount_0f7a4_47 : decode cJ6_bitCount_0f7a4 47 = .ok (.istore_n 0, 1) := by decide +kernel
theorem dJ6_bitCount_0f7a4_48 : decode cJ6_bitCount_0f7a4 48 = .ok (.iload_n 0, 1) := by decide +kernel
theorem dJ6_bitCount_0f7a4_49 : decode cJ6_bitCount_0f7a4 49 = .ok (.bipush 63, 2) := by decide +kernel
theorem dJ6_bitCount_0f7a4_51 : decode cJ6_bitCount_0f7a4 51 = .ok (.iand, 1) := by decide +kernel
theorem dJ6_bitCount_0f7a4_52 : decode cJ6_bitCount_0f7a4 52 = .ok (.ireturn, 1) := by decide +kernel
theorem dJ0_length_8abf5_0 : decode cJ0_length_8abf5 0 = .ok (.aload_n 0, 1) := by decide +kernel
theorem dJ0_length_8abf5_1 : decode cJ0_length_8abf5 1 = .ok (.getfield 9, 3) := by decide +kernel
theorem dJ0_length_8abf5_4 : decode cJ0_length_8abf5 4 = .ok (.arraylength, 1) := by decide +kernel
theorem dJ0_length_8abf5_5 : decode cJ0_length_8abf5 5 = .ok (.aload_n 0, 1) := by decide +kernel
theorem dJ0_length_8abf5_6 : decode cJ0_length_8abf5 6 = .ok (.invokevirtual 335, 3) := by decide +kernel
theorem dJ0_length_8abf5_9 : decode cJ0_length_8abf5 9 = .ok (.ishr, 1) := by decide +kernel
theorem dJ0_length_8abf5_10 : decode cJ0_length_8abf5 10 = .ok (.ireturn, 1) := by decide +kernel
theorem dJ0_charAt_5068e_0 : decode cJ0_charAt_5068e 0 = .ok (.aload_n 0, 1) := by decide +kernel
theorem dJ0_charAt_5068e_1 : decode cJ0_charAt_5068e 1 = .ok (.invokevirtual 492, 3) := by decide +kernel
theorem dJ0_charAt_5068e_4 : decode cJ0_charAt_5068e 4 = .ok (.ifCond .eq 12, 3) := by decide +kernel
theorem dJ0_charAt_5068e_7 : decode cJ0_charAt_5068e 7 = .ok (.aload_n 0, 1) := by decide +kernel
theorem dJ0_charAt_5068e_8 : decode cJ0_charAt_5068e 8 = .ok (.getfield 9, 3) := by decide +kernel
theorem dJ0_charAt_5068e_11 : decode cJ0_charAt_5068e 11 = .ok (.iload_n 1, 1) := by decide +kernel
theorem dJ0_charAt_5068e_12 : decode cJ0_charAt_5068e 12 = .ok (.invokestatic 495, 3) := by decide +kernel
theorem dJ0_charAt_5068e_15 : decode cJ0_charAt_5068e 15 = .ok (.ireturn, 1) := by decide +kernel
theorem dJ0_charAt_5068e_16 : decode cJ0_charAt_5068e 16 = .ok (.aload_n 0, 1) := by decide +kernel
theorem dJ0_charAt_5068e_17 : decode cJ0_charAt_5068e 17 = .ok (.getfield 9, 3) := by decide +kernel
theorem dJ0_charAt_5068e_20 : decode cJ0_charAt_5068e 20 = .ok (.iload_n 1, 1) := by decide +kernel
theorem dJ0_charAt_5068e_21 : decode cJ0_charAt_5068e 21 = .ok (.invokestatic 498, 3) := by decide +kernel
theorem dJ0_charAt_5068e_24 : decode cJ0_charAt_5068e 24 = .ok (.ireturn, 1) := by decide +kernel
theorem dJ0_indexOf_0f7a4_0 : decode cJ0_indexOf_0f7a4 0 = .ok (.aload_n 0, 1) := by decide +kernel
theorem dJ0_indexOf_0f7a4_1 : decode cJ0_indexOf_0f7a4 1 = .ok (.iload_n 1, 1) := by decide +kernel
theorem dJ0_indexOf_0f7a4_2 : decode cJ0_indexOf_0f7a4 2 = .ok (.iconst 0, 1) := by decide +kernel
theorem dJ0_indexOf_0f7a4_3 : decode cJ0_indexOf_0f7a4 3 = .ok (.invokevirtual 633, 3) := by decide +kernel
theorem dJ0_indexOf_0f7a4_6 : decode cJ0_indexOf_0f7a4 6 = .ok (.ireturn, 1) := by decide +kernel
theorem dJ0_indexOf_7cf53_0 : decode cJ0_indexOf_7cf53 0 = .ok (.aload_n 0, 1) := by decide +kernel
theorem dJ0_indexOf_7cf53_1 : decode cJ0_indexOf_7cf53 1 = .ok (.invokevirtual 492, 3) := by decide +kernel
theorem dJ0_indexOf_7cf53_4 : decode cJ0_indexOf_7cf53 4 = .ok (.ifCond .eq 19, 3) := by decide +kernel
theorem dJ0_indexOf_7cf53_7 : decode cJ0_indexOf_7cf53 7 = .ok (.aload_n 0, 1) := by decide +kernel
theorem dJ0_indexOf_7cf53_8 : decode cJ0_indexOf_7cf53 8 = .ok (.getfield 9, 3) := by decide +kernel
theorem dJ0_indexOf_7cf53_11 : decode cJ0_indexOf_7cf53 11 = .ok (.iload_n 1, 1) := by decide +kernel
theorem dJ0_indexOf_7cf53_12 : decode cJ0_indexOf_7cf53 12 = .ok (.iload_n 2, 1) := by decide +kernel
theorem dJ0_indexOf_7cf53_13 : decode cJ0_indexOf_7cf53 13 = .ok (.aload_n 0, 1) := by decide +kernel
theorem dJ0_indexOf_7cf53_14 : decode cJ0_indexOf_7cf53 14 = .ok (.invokevirtual 505, 3) := by decide +kernel
theorem dJ0_indexOf_7cf53_17 : decode cJ0_indexOf_7cf53 17 = .ok (.invokestatic 637, 3) := by decide +kernel
theorem dJ0_indexOf_7cf53_20 : decode cJ0_indexOf_7cf53 20 = .ok (.goto 16, 3) := by decide +kernel
theorem dJ0_indexOf_7cf53_23 : decode cJ0_indexOf_7cf53 23 = .ok (.aload_n 0, 1) := by decide +kernel
theorem dJ0_indexOf_7cf53_24 : decode cJ0_indexOf_7cf53 24 = .ok (.getfield 9, 3) := by decide +kernel
theorem dJ0_indexOf_7cf53_27 : decode cJ0_indexOf_7cf53 27 = .ok (.iload_n 1, 1) := by decide +kernel
theorem dJ0_indexOf_7cf53_28 : decode cJ0_indexOf_7cf53 28 = .ok (.iload_n 2, 1) := by decide +kernel
theorem dJ0_indexOf_7cf53_29 : decode cJ0_indexOf_7cf53 29 = .ok (.aload_n 0, 1) := by decide +kernel
theorem dJ0_indexOf_7cf53_30 : decode cJ0_indexOf_7cf53 30 = .ok (.invokevirtual 505, 3) := by decide +kernel
theorem dJ0_indexOf_7cf53_33 : decode cJ0_indexOf_7cf53 33 = .ok (.invokestatic 640, 3) := by decide +kernel
theorem dJ0_indexOf_7cf53_36 : decode cJ0_indexOf_7cf53 36 = .ok (.ireturn, 1) := by decide +kernel
theorem dJ0_coder_7d493_0 : decode cJ0_coder_7d493 0 = .ok (.getstatic 38, 3) := by decide +kernel
theorem dJ0_coder_7d493_3 : decode cJ0_coder_7d493 3 = .ok (.ifCond .eq 10, 3) := by decide +kernel
theorem dJ0_coder_7d493_6 : decode cJ0_coder_7d493 6 = .ok (.aload_n 0, 1) := by decide +kernel
theorem dJ0_coder_7d493_7 : decode cJ0_coder_7d493 7 = .ok (.getfield 15, 3) := by decide +kernel
theorem dJ0_coder_7d493_10 : decode cJ0_coder_7d493 10 = .ok (.goto 4, 3) := by decide +kernel
theorem dJ0_coder_7d493_13 : decode cJ0_coder_7d493 13 = .ok (.iconst 1, 1) := by decide +kernel
theorem dJ0_coder_7d493_14 : decode cJ0_coder_7d493 14 = .ok (.ireturn, 1) := by decide +kernel
theorem dJ0_isLatin1_aae02_0 : decode cJ0_isLatin1_aae02 0 = .ok (.getstatic 38, 3) := by decide +kernel
theorem dJ0_isLatin1_aae02_3 : decode cJ0_isLatin1_aae02 3 = .ok (.ifCond .eq 14, 3) := by decide +kernel
theorem dJ0_isLatin1_aae02_6 : decode cJ0_isLatin1_aae02 6 = .ok (.aload_n 0, 1) := by decide +kernel
theorem dJ0_isLatin1_aae02_7 : decode cJ0_isLatin1_aae02 7 = .ok (.getfield 15, 3) := by decide +kernel
theorem dJ0_isLatin1_aae02_10 : decode cJ0_isLatin1_aae02 10 = .ok (.ifCond .ne 7, 3) := by decide +kernel
theorem dJ0_isLatin1_aae02_13 : decode cJ0_isLatin1_aae02 13 = .ok (.iconst 1, 1) := by decide +kernel
theorem dJ0_isLatin1_aae02_14 : decode cJ0_isLatin1_aae02 14 = .ok (.goto 4, 3) := by decide +kernel
theorem dJ0_isLatin1_aae02_17 : decode cJ0_isLatin1_aae02 17 = .ok (.iconst 0, 1) := by decide +kernel
theorem dJ0_isLatin1_aae02_18 : decode cJ0_isLatin1_aae02 18 = .ok (.ireturn, 1) := by decide +kernel
theorem dJ0_checkIndex_df160_0 : decode cJ0_checkIndex_df160 0 = .ok (.iload_n 0, 1) := by decide +kernel
theorem dJ0_checkIndex_df160_1 : decode cJ0_checkIndex_df160 1 = .ok (.iload_n 1, 1) := by decide +kernel
theorem dJ0_checkIndex_df160_2 : decode cJ0_checkIndex_df160 2 = .ok (.getstatic 1053, 3) := by decide +kernel
theorem dJ0_checkIndex_df160_5 : decode cJ0_checkIndex_df160 5 = .ok (.invokestatic 1059, 3) := by decide +kernel
theorem dJ0_checkIndex_df160_8 : decode cJ0_checkIndex_df160 8 = .ok (.pop, 1) := by decide +kernel
theorem dJ0_checkIndex_df160_9 : decode cJ0_checkIndex_df160 9 = .ok (.return_, 1) := by decide +kernel
theorem dJ1_charAt_3b067_0 : decode cJ1_charAt_3b067 0 = .ok (.iload_n 1, 1) := by decide +kernel
theorem dJ1_charAt_3b067_1 : decode cJ1_charAt_3b067 1 = .ok (.aload_n 0, 1) := by decide +kernel
theorem dJ1_charAt_3b067_2 : decode cJ1_charAt_3b067 2 = .ok (.arraylength, 1) := by decide +kernel
theorem dJ1_charAt_3b067_3 : decode cJ1_charAt_3b067 3 = .ok (.invokestatic 9, 3) := by decide +kernel
theorem dJ1_charAt_3b067_6 : decode cJ1_charAt_3b067 6 = .ok (.aload_n 0, 1) := by decide +kernel
theorem dJ1_charAt_3b067_7 : decode cJ1_charAt_3b067 7 = .ok (.iload_n 1, 1) := by decide +kernel
theorem dJ1_charAt_3b067_8 : decode cJ1_charAt_3b067 8 = .ok (.baload, 1) := by decide +kernel
theorem dJ1_charAt_3b067_9 : decode cJ1_charAt_3b067 9 = .ok (.sipush 255, 3) := by decide +kernel
theorem dJ1_charAt_3b067_12 : decode cJ1_charAt_3b067 12 = .ok (.iand, 1) := by decide +kernel
theorem dJ1_charAt_3b067_13 : decode cJ1_charAt_3b067 13 = .ok (.i2c, 1) := by decide +kernel
theorem dJ1_charAt_3b067_14 : decode cJ1_charAt_3b067 14 = .ok (.ireturn, 1) := by decide +kernel
theorem dJ1_canEncode_9a6ad_0 : decode cJ1_canEncode_9a6ad 0 = .ok (.iload_n 0, 1) := by decide +kernel
theorem dJ1_canEncode_9a6ad_1 : decode cJ1_canEncode_9a6ad 1 = .ok (.ifCond .lt 14, 3) := by decide +kernel
theorem dJ1_canEncode_9a6ad_4 : decode cJ1_canEncode_9a6ad 4 = .ok (.iload_n 0, 1) := by decide +kernel
theorem dJ1_canEncode_9a6ad_5 : decode cJ1_canEncode_9a6ad 5 = .ok (.sipush 255, 3) := by decide +kernel
theorem dJ1_canEncode_9a6ad_8 : decode cJ1_canEncode_9a6ad 8 = .ok (.if_icmp .gt 7, 3) := by decide +kernel
theorem dJ1_canEncode_9a6ad_11 : decode cJ1_canEncode_9a6ad 11 = .ok (.iconst 1, 1) := by decide +kernel
theorem dJ1_canEncode_9a6ad_12 : decode cJ1_canEncode_9a6ad 12 = .ok (.goto 4, 3) := by decide +kernel
theorem dJ1_canEncode_9a6ad_15 : decode cJ1_canEncode_9a6ad 15 = .ok (.iconst 0, 1) := by decide +kernel
theorem dJ1_canEncode_9a6ad_16 : decode cJ1_canEncode_9a6ad 16 = .ok (.ireturn, 1) := by decide +kernel
theorem dJ1_indexOf_4cfef_0 : decode cJ1_indexOf_4cfef 0 = .ok (.iload_n 1, 1) := by decide +kernel
theorem dJ1_indexOf_4cfef_1 : decode cJ1_indexOf_4cfef 1 = .ok (.invokestatic 88, 3) := by decide +kernel
theorem dJ1_indexOf_4cfef_4 : decode cJ1_indexOf_4cfef 4 = .ok (.ifCond .ne 5, 3) := by decide +kernel
theorem dJ1_indexOf_4cfef_7 : decode cJ1_indexOf_4cfef 7 = .ok (.iconst (-1), 1) := by decide +kernel
theorem dJ1_indexOf_4cfef_8 : decode cJ1_indexOf_4cfef 8 = .ok (.ireturn, 1) := by decide +kernel
theorem dJ1_indexOf_4cfef_9 : decode cJ1_indexOf_4cfef 9 = .ok (.iload_n 2, 1) := by decide +kernel
theorem dJ1_indexOf_4cfef_10 : decode cJ1_indexOf_4cfef 10 = .ok (.iconst 0, 1) := by decide +kernel
theorem dJ1_indexOf_4cfef_11 : decode cJ1_indexOf_4cfef 11 = .ok (.invokestatic 92, 3) := by decide +kernel
theorem dJ1_indexOf_4cfef_14 : decode cJ1_indexOf_4cfef 14 = .ok (.istore_n 2, 1) := by decide +kernel
theorem dJ1_indexOf_4cfef_15 : decode cJ1_indexOf_4cfef 15 = .ok (.iload_n 3, 1) := by decide +kernel
theorem dJ1_indexOf_4cfef_16 : decode cJ1_indexOf_4cfef 16 = .ok (.aload_n 0, 1) := by decide +kernel
theorem dJ1_indexOf_4cfef_17 : decode cJ1_indexOf_4cfef 17 = .ok (.arraylength, 1) := by decide +kernel
theorem dJ1_indexOf_4cfef_18 : decode cJ1_indexOf_4cfef 18 = .ok (.invokestatic 38, 3) := by decide +kernel
theorem dJ1_indexOf_4cfef_21 : decode cJ1_indexOf_4cfef 21 = .ok (.istore_n 3, 1) := by decide +kernel
theorem dJ1_indexOf_4cfef_22 : decode cJ1_indexOf_4cfef 22 = .ok (.iload_n 2, 1) := by decide +kernel
theorem dJ1_indexOf_4cfef_23 : decode cJ1_indexOf_4cfef 23 = .ok (.iload_n 3, 1) := by decide +kernel
theorem dJ1_indexOf_4cfef_24 : decode cJ1_indexOf_4cfef 24 = .ok (.if_icmp .lt 5, 3) := by decide +kernel
theorem dJ1_indexOf_4cfef_27 : decode cJ1_indexOf_4cfef 27 = .ok (.iconst (-1), 1) := by decide +kernel
theorem dJ1_indexOf_4cfef_28 : decode cJ1_indexOf_4cfef 28 = .ok (.ireturn, 1) := by decide +kernel
theorem dJ1_indexOf_4cfef_29 : decode cJ1_indexOf_4cfef 29 = .ok (.aload_n 0, 1) := by decide +kernel
theorem dJ1_indexOf_4cfef_30 : decode cJ1_indexOf_4cfef 30 = .ok (.iload_n 1, 1) := by decide +kernel
theorem dJ1_indexOf_4cfef_31 : decode cJ1_indexOf_4cfef 31 = .ok (.iload_n 2, 1) := by decide +kernel
theorem dJ1_indexOf_4cfef_32 : decode cJ1_indexOf_4cfef 32 = .ok (.iload_n 3, 1) := by decide +kernel
theorem dJ1_indexOf_4cfef_33 : decode cJ1_indexOf_4cfef 33 = .ok (.invokestatic 95, 3) := by decide +kernel
theorem dJ1_indexOf_4cfef_36 : decode cJ1_indexOf_4cfef 36 = .ok (.ireturn, 1) := by decide +kernel
theorem dJ1_indexOfChar_4cfef_0 : decode cJ1_indexOfChar_4cfef 0 = .ok (.iload_n 1, 1) := by decide +kernel
theorem dJ1_indexOfChar_4cfef_1 : decode cJ1_indexOfChar_4cfef 1 = .ok (.i2b, 1) := by decide +kernel
theorem dJ1_indexOfChar_4cfef_2 : decode cJ1_indexOfChar_4cfef 2 = .ok (.istore 4, 2) := by decide +kernel
theorem dJ1_indexOfChar_4cfef_4 : decode cJ1_indexOfChar_4cfef 4 = .ok (.iload_n 2, 1) := by decide +kernel
theorem dJ1_indexOfChar_4cfef_5 : decode cJ1_indexOfChar_4cfef 5 = .ok (.istore 5, 2) := by decide +kernel
theorem dJ1_indexOfChar_4cfef_7 : decode cJ1_indexOfChar_4cfef 7 = .ok (.iload 5, 2) := by decide +kernel
theorem dJ1_indexOfChar_4cfef_9 : decode cJ1_indexOfChar_4cfef 9 = .ok (.iload_n 3, 1) := by decide +kernel
theorem dJ1_indexOfChar_4cfef_10 : decode cJ1_indexOfChar_4cfef 10 = .ok (.if_icmp .ge 21, 3) := by decide +kernel
theorem dJ1_indexOfChar_4cfef_13 : decode cJ1_indexOfChar_4cfef 13 = .ok (.aload_n 0, 1) := by decide +kernel
theorem dJ1_indexOfChar_4cfef_14 : decode cJ1_indexOfChar_4cfef 14 = .ok (.iload 5, 2) := by decide +kernel
theorem dJ1_indexOfChar_4cfef_16 : decode cJ1_indexOfChar_4cfef 16 = .ok (.baload, 1) := by decide +kernel
theorem dJ1_indexOfChar_4cfef_17 : decode cJ1_indexOfChar_4cfef 17 = .ok (.iload 4, 2) := by decide +kernel
theorem dJ1_indexOfChar_4cfef_19 : decode cJ1_indexOfChar_4cfef 19 = .ok (.if_icmp .ne 6, 3) := by decide +kernel
theorem dJ1_indexOfChar_4cfef_22 : decode cJ1_indexOfChar_4cfef 22 = .ok (.iload 5, 2) := by decide +kernel
theorem dJ1_indexOfChar_4cfef_24 : decode cJ1_indexOfChar_4cfef 24 = .ok (.ireturn, 1) := by decide +kernel
theorem dJ1_indexOfChar_4cfef_25 : decode cJ1_indexOfChar_4cfef 25 = .ok (.iinc 5 1, 3) := by decide +kernel
theorem dJ1_indexOfChar_4cfef_28 : decode cJ1_indexOfChar_4cfef 28 = .ok (.goto (-21), 3) := by decide +kernel
theorem dJ1_indexOfChar_4cfef_31 : decode cJ1_indexOfChar_4cfef 31 = .ok (.iconst (-1), 1) := by decide +kernel
theorem dJ1_indexOfChar_4cfef_32 : decode cJ1_indexOfChar_4cfef 32 = .ok (.ireturn, 1) := by decide +kernel
theorem dJ7_fill_53178_0 : decode cJ7_fill_53178 0 = .ok (.iconst 0, 1) := by decide +kernel
theorem dJ7_fill_53178_1 : decode cJ7_fill_53178 1 = .ok (.istore_n 2, 1) := by decide +kernel
theorem dJ7_fill_53178_2 : decode cJ7_fill_53178 2 = .ok (.aload_n 0, 1) := by decide +kernel
theorem dJ7_fill_53178_3 : decode cJ7_fill_53178 3 = .ok (.arraylength, 1) := by decide +kernel
theorem dJ7_fill_53178_4 : decode cJ7_fill_53178 4 = .ok (.istore_n 3, 1) := by decide +kernel
theorem dJ7_fill_53178_5 : decode cJ7_fill_53178 5 = .ok (.iload_n 2, 1) := by decide +kernel
theorem dJ7_fill_53178_6 : decode cJ7_fill_53178 6 = .ok (.iload_n 3, 1) := by decide +kernel
theorem dJ7_fill_53178_7 : decode cJ7_fill_53178 7 = .ok (.if_icmp .ge 13, 3) := by decide +kernel
theorem dJ7_fill_53178_10 : decode cJ7_fill_53178 10 = .ok (.aload_n 0, 1) := by decide +kernel
theorem dJ7_fill_53178_11 : decode cJ7_fill_53178 11 = .ok (.iload_n 2, 1) := by decide +kernel
theorem dJ7_fill_53178_12 : decode cJ7_fill_53178 12 = .ok (.iload_n 1, 1) := by decide +kernel
theorem dJ7_fill_53178_13 : decode cJ7_fill_53178 13 = .ok (.iastore, 1) := by decide +kernel
theorem dJ7_fill_53178_14 : decode cJ7_fill_53178 14 = .ok (.iinc 2 1, 3) := by decide +kernel
theorem dJ7_fill_53178_17 : decode cJ7_fill_53178 17 = .ok (.goto (-12), 3) := by decide +kernel
theorem dJ7_fill_53178_20 : decode cJ7_fill_53178 20 = .ok (.return_, 1) := by decide +kernel
theorem dJ3_checkIndex_8e157_0 : decode cJ3_checkIndex_8e157 0 = .ok (.iload_n 0, 1) := by decide +kernel
theorem dJ3_checkIndex_8e157_1 : decode cJ3_checkIndex_8e157 1 = .ok (.ifCond .lt 8, 3) := by decide +kernel
theorem dJ3_checkIndex_8e157_4 : decode cJ3_checkIndex_8e157 4 = .ok (.iload_n 0, 1) := by decide +kernel
theorem dJ3_checkIndex_8e157_5 : decode cJ3_checkIndex_8e157 5 = .ok (.iload_n 1, 1) := by decide +kernel
theorem dJ3_checkIndex_8e157_6 : decode cJ3_checkIndex_8e157 6 = .ok (.if_icmp .lt 10, 3) := by decide +kernel
theorem dJ3_checkIndex_8e157_9 : decode cJ3_checkIndex_8e157 9 = .ok (.aload_n 2, 1) := by decide +kernel
theorem dJ3_checkIndex_8e157_10 : decode cJ3_checkIndex_8e157 10 = .ok (.iload_n 0, 1) := by decide +kernel
theorem dJ3_checkIndex_8e157_11 : decode cJ3_checkIndex_8e157 11 = .ok (.iload_n 1, 1) := by decide +kernel
theorem dJ3_checkIndex_8e157_12 : decode cJ3_checkIndex_8e157 12 = .ok (.invokestatic 95, 3) := by decide +kernel
theorem dJ3_checkIndex_8e157_15 : decode cJ3_checkIndex_8e157 15 = .ok (.athrow, 1) := by decide +kernel
theorem dJ3_checkIndex_8e157_16 : decode cJ3_checkIndex_8e157 16 = .ok (.iload_n 0, 1) := by decide +kernel
theorem dJ3_checkIndex_8e157_17 : decode cJ3_checkIndex_8e157 17 = .ok (.ireturn, 1) := by decide +kernel
theorem dJ3_checkFromToIndex_8c36e_0 : decode cJ3_checkFromToIndex_8c36e 0 = .ok (.iload_n 0, 1) := by decide +kernel
theorem dJ3_checkFromToIndex_8c36e_1 : decode cJ3_checkFromToIndex_8c36e 1 = .ok (.ifCond .lt 13, 3) := by decide +kernel
theorem dJ3_checkFromToIndex_8c36e_4 : decode cJ3_checkFromToIndex_8c36e 4 = .ok (.iload_n 0, 1) := by decide +kernel
theorem dJ3_checkFromToIndex_8c36e_5 : decode cJ3_checkFromToIndex_8c36e 5 = .ok (.iload_n 1, 1) := by decide +kernel
theorem dJ3_checkFromToIndex_8c36e_6 : decode cJ3_checkFromToIndex_8c36e 6 = .ok (.if_icmp .gt 8, 3) := by decide +kernel
theorem dJ3_checkFromToIndex_8c36e_9 : decode cJ3_checkFromToIndex_8c36e 9 = .ok (.iload_n 1, 1) := by decide +kernel
theorem dJ3_checkFromToIndex_8c36e_10 : decode cJ3_checkFromToIndex_8c36e 10 = .ok (.iload_n 2, 1) := by decide +kernel
theorem dJ3_checkFromToIndex_8c36e_11 : decode cJ3_checkFromToIndex_8c36e 11 = .ok (.if_icmp .le 11, 3) := by decide +kernel
theorem dJ3_checkFromToIndex_8c36e_14 : decode cJ3_checkFromToIndex_8c36e 14 = .ok (.aload_n 3, 1) := by decide +kernel
theorem dJ3_checkFromToIndex_8c36e_15 : decode cJ3_checkFromToIndex_8c36e 15 = .ok (.iload_n 0, 1) := by decide +kernel
theorem dJ3_checkFromToIndex_8c36e_16 : decode cJ3_checkFromToIndex_8c36e 16 = .ok (.iload_n 1, 1) := by decide +kernel
theorem dJ3_checkFromToIndex_8c36e_17 : decode cJ3_checkFromToIndex_8c36e 17 = .ok (.iload_n 2, 1) := by decide +kernel
theorem dJ3_checkFromToIndex_8c36e_18 : decode cJ3_checkFromToIndex_8c36e 18 = .ok (.invokestatic 99, 3) := by decide +kernel
theorem dJ3_checkFromToIndex_8c36e_21 : decode cJ3_checkFromToIndex_8c36e 21 = .ok (.athrow, 1) := by decide +kernel
theorem dJ3_checkFromToIndex_8c36e_22 : decode cJ3_checkFromToIndex_8c36e 22 = .ok (.iload_n 0, 1) := by decide +kernel
theorem dJ3_checkFromToIndex_8c36e_23 : decode cJ3_checkFromToIndex_8c36e 23 = .ok (.ireturn, 1) := by decide +kernel
theorem dL_law_0 : decode cL_law 0 = .ok (.new 7, 3) := by decide +kernel
theorem dL_law_3 : decode cL_law 3 = .ok (.dup, 1) := by decide +kernel
theorem dL_law_4 : decode cL_law 4 = .ok (.invokespecial 9, 3) := by decide +kernel
theorem dL_law_7 : decode cL_law 7 = .ok (.astore_n 1, 1) := by decide +kernel
theorem dL_law_8 : decode cL_law 8 = .ok (.new 10, 3) := by decide +kernel
theorem dL_law_11 : decode cL_law 11 = .ok (.dup, 1) := by decide +kernel
theorem dL_law_12 : decode cL_law 12 = .ok (.invokespecial 12, 3) := by decide +kernel
theorem dL_law_15 : decode cL_law 15 = .ok (.astore_n 2, 1) := by decide +kernel
theorem dL_law_16 : decode cL_law 16 = .ok (.iconst 0, 1) := by decide +kernel
theorem dL_law_17 : decode cL_law 17 = .ok (.istore_n 3, 1) := by decide +kernel
theorem dL_law_18 : decode cL_law 18 = .ok (.iload_n 3, 1) := by decide +kernel
theorem dL_law_19 : decode cL_law 19 = .ok (.aload_n 0, 1) := by decide +kernel
theorem dL_law_20 : decode cL_law 20 = .ok (.arraylength, 1) := by decide +kernel
theorem dL_law_21 : decode cL_law 21 = .ok (.bipush 6, 2) := by decide +kernel
theorem dL_law_23 : decode cL_law 23 = .ok (.isub, 1) := by decide +kernel
theorem dL_law_24 : decode cL_law 24 = .ok (.if_icmp .gt 1380, 3) := by decide +kernel
theorem dL_law_27 : decode cL_law 27 = .ok (.aload_n 0, 1) := by decide +kernel
theorem dL_law_28 : decode cL_law 28 = .ok (.iload_n 3, 1) := by decide +kernel
theorem dL_law_29 : decode cL_law 29 = .ok (.iaload, 1) := by decide +kernel
theorem dL_law_30 : decode cL_law 30 = .ok (.bipush 63, 2) := by decide +kernel
theorem dL_law_32 : decode cL_law 32 = .ok (.iand, 1) := by decide +kernel
theorem dL_law_33 : decode cL_law 33 = .ok (.tableswitch 1365 0 39 #[175, 208, 221, 244, 267, 290, 323, 356, 399, 432, 465, 528, 551, 604, 627, 650, 673, 696, 729, 762, 795, 828, 861, 874, 897, 930, 973, 996, 1039, 1062, 1105, 1148, 1211, 1234, 1257, 1270, 1283, 1306, 1319, 1342], 175) := by decide +kernel
theorem dL_law_208 : decode cL_law 208 = .ok (.aload_n 1, 1) := by decide +kernel
theorem dL_law_209 : decode cL_law 209 = .ok (.aload_n 0, 1) := by decide +kernel
theorem dL_law_210 : decode cL_law 210 = .ok (.iload_n 3, 1) := by decide +kernel
theorem dL_law_211 : decode cL_law 211 = .ok (.iconst 1, 1) := by decide +kernel
theorem dL_law_212 : decode cL_law 212 = .ok (.iadd, 1) := by decide +kernel
theorem dL_law_213 : decode cL_law 213 = .ok (.iaload, 1) := by decide +kernel
theorem dL_law_214 : decode cL_law 214 = .ok (.aload_n 0, 1) := by decide +kernel
theorem dL_law_215 : decode cL_law 215 = .ok (.iload_n 3, 1) := by decide +kernel
theorem dL_law_216 : decode cL_law 216 = .ok (.iconst 2, 1) := by decide +kernel
theorem dL_law_217 : decode cL_law 217 = .ok (.iadd, 1) := by decide +kernel
theorem dL_law_218 : decode cL_law 218 = .ok (.iaload, 1) := by decide +kernel
theorem dL_law_219 : decode cL_law 219 = .ok (.invokevirtual 13, 3) := by decide +kernel
theorem dL_law_222 : decode cL_law 222 = .ok (.aload_n 2, 1) := by decide +kernel
theorem dL_law_223 : decode cL_law 223 = .ok (.aload_n 0, 1) := by decide +kernel
theorem dL_law_224 : decode cL_law 224 = .ok (.iload_n 3, 1) := by decide +kernel
theorem dL_law_225 : decode cL_law 225 = .ok (.iconst 1, 1) := by decide +kernel
theorem dL_law_226 : decode cL_law 226 = .ok (.iadd, 1) := by decide +kernel
theorem dL_law_227 : decode cL_law 227 = .ok (.iaload, 1) := by decide +kernel
theorem dL_law_228 : decode cL_law 228 = .ok (.aload_n 0, 1) := by decide +kernel
theorem dL_law_229 : decode cL_law 229 = .ok (.iload_n 3, 1) := by decide +kernel
theorem dL_law_230 : decode cL_law 230 = .ok (.iconst 2, 1) := by decide +kernel
theorem dL_law_231 : decode cL_law 231 = .ok (.iadd, 1) := by decide +kernel
theorem dL_law_232 : decode cL_law 232 = .ok (.iaload, 1) := by decide +kernel
theorem dL_law_233 : decode cL_law 233 = .ok (.invokevirtual 17, 3) := by decide +kernel
theorem dL_law_236 : decode cL_law 236 = .ok (.if_icmp .eq 1162, 3) := by decide +kernel
theorem dL_law_239 : decode cL_law 239 = .ok (.iconst 0, 1) := by decide +kernel
theorem dL_law_240 : decode cL_law 240 = .ok (.ireturn, 1) := by decide +kernel
theorem dL_law_241 : decode cL_law 241 = .ok (.aload_n 1, 1) := by decide +kernel
theorem dL_law_242 : decode cL_law 242 = .ok (.invokevirtual 18, 3) := by decide +kernel
theorem dL_law_245 : decode cL_law 245 = .ok (.aload_n 2, 1) := by decide +kernel
theorem dL_law_246 : decode cL_law 246 = .ok (.invokevirtual 22, 3) := by decide +kernel
theorem dL_law_249 : decode cL_law 249 = .ok (.if_icmp .eq 1149, 3) := by decide +kernel
theorem dL_law_252 : decode cL_law 252 = .ok (.iconst 0, 1) := by decide +kernel
theorem dL_law_253 : decode cL_law 253 = .ok (.ireturn, 1) := by decide +kernel
theorem dL_law_254 : decode cL_law 254 = .ok (.aload_n 1, 1) := by decide +kernel
theorem dL_law_255 : decode cL_law 255 = .ok (.aload_n 0, 1) := by decide +kernel
theorem dL_law_256 : decode cL_law 256 = .ok (.iload_n 3, 1) := by decide +kernel
theorem dL_law_257 : decode cL_law 257 = .ok (.iconst 1, 1) := by decide +kernel
theorem dL_law_258 : decode cL_law 258 = .ok (.iadd, 1) := by decide +kernel
theorem dL_law_259 : decode cL_law 259 = .ok (.iaload, 1) := by decide +kernel
theorem dL_law_260 : decode cL_law 260 = .ok (.invokevirtual 23, 3) := by decide +kernel
theorem dL_law_263 : decode cL_law 263 = .ok (.aload_n 2, 1) := by decide +kernel
theorem dL_law_264 : decode cL_law 264 = .ok (.aload_n 0, 1) := by decide +kernel
theorem dL_law_265 : decode cL_law 265 = .ok (.iload_n 3, 1) := by decide +kernel
theorem dL_law_266 : decode cL_law 266 = .ok (.iconst 1, 1) := by decide +kernel
theorem dL_law_267 : decode cL_law 267 = .ok (.iadd, 1) := by decide +kernel
theorem dL_law_268 : decode cL_law 268 = .ok (.iaload, 1) := by decide +kernel
theorem dL_law_269 : decode cL_law 269 = .ok (.invokevirtual 27, 3) := by decide +kernel
theorem dL_law_272 : decode cL_law 272 = .ok (.if_icmp .eq 1126, 3) := by decide +kernel
theorem dL_law_275 : decode cL_law 275 = .ok (.iconst 0, 1) := by decide +kernel
theorem dL_law_276 : decode cL_law 276 = .ok (.ireturn, 1) := by decide +kernel
theorem dL_law_277 : decode cL_law 277 = .ok (.aload_n 1, 1) := by decide +kernel
theorem dL_law_278 : decode cL_law 278 = .ok (.aload_n 0, 1) := by decide +kernel
theorem dL_law_279 : decode cL_law 279 = .ok (.iload_n 3, 1) := by decide +kernel
theorem dL_law_280 : decode cL_law 280 = .ok (.iconst 1, 1) := by decide +kernel
theorem dL_law_281 : decode cL_law 281 = .ok (.iadd, 1) := by decide +kernel
theorem dL_law_282 : decode cL_law 282 = .ok (.iaload, 1) := by decide +kernel
theorem dL_law_283 : decode cL_law 283 = .ok (.invokevirtual 28, 3) := by decide +kernel
theorem dL_law_286 : decode cL_law 286 = .ok (.aload_n 2, 1) := by decide +kernel
theorem dL_law_287 : decode cL_law 287 = .ok (.aload_n 0, 1) := by decide +kernel
theorem dL_law_288 : decode cL_law 288 = .ok (.iload_n 3, 1) := by decide +kernel
theorem dL_law_289 : decode cL_law 289 = .ok (.iconst 1, 1) := by decide +kernel
theorem dL_law_290 : decode cL_law 290 = .ok (.iadd, 1) := by decide +kernel
theorem dL_law_291 : decode cL_law 291 = .ok (.iaload, 1) := by decide +kernel
theorem dL_law_292 : decode cL_law 292 = .ok (.invokevirtual 31, 3) := by decide +kernel
theorem dL_law_295 : decode cL_law 295 = .ok (.if_icmp .eq 1103, 3) := by decide +kernel
theorem dL_law_298 : decode cL_law 298 = .ok (.iconst 0, 1) := by decide +kernel
theorem dL_law_299 : decode cL_law 299 = .ok (.ireturn, 1) := by decide +kernel
theorem dL_law_300 : decode cL_law 300 = .ok (.aload_n 1, 1) := by decide +kernel
theorem dL_law_301 : decode cL_law 301 = .ok (.aload_n 0, 1) := by decide +kernel
theorem dL_law_302 : decode cL_law 302 = .ok (.iload_n 3, 1) := by decide +kernel
theorem dL_law_303 : decode cL_law 303 = .ok (.iconst 1, 1) := by decide +kernel
theorem dL_law_304 : decode cL_law 304 = .ok (.iadd, 1) := by decide +kernel
theorem dL_law_305 : decode cL_law 305 = .ok (.iaload, 1) := by decide +kernel
theorem dL_law_306 : decode cL_law 306 = .ok (.invokevirtual 32, 3) := by decide +kernel
theorem dL_law_309 : decode cL_law 309 = .ok (.aload_n 2, 1) := by decide +kernel
theorem dL_law_310 : decode cL_law 310 = .ok (.aload_n 0, 1) := by decide +kernel
theorem dL_law_311 : decode cL_law 311 = .ok (.iload_n 3, 1) := by decide +kernel
theorem dL_law_312 : decode cL_law 312 = .ok (.iconst 1, 1) := by decide +kernel
theorem dL_law_313 : decode cL_law 313 = .ok (.iadd, 1) := by decide +kernel
theorem dL_law_314 : decode cL_law 314 = .ok (.iaload, 1) := by decide +kernel
theorem dL_law_315 : decode cL_law 315 = .ok (.invokevirtual 35, 3) := by decide +kernel
theorem dL_law_318 : decode cL_law 318 = .ok (.if_icmp .eq 1080, 3) := by decide +kernel
theorem dL_law_321 : decode cL_law 321 = .ok (.iconst 0, 1) := by decide +kernel
theorem dL_law_322 : decode cL_law 322 = .ok (.ireturn, 1) := by decide +kernel
theorem dL_law_323 : decode cL_law 323 = .ok (.aload_n 1, 1) := by decide +kernel
theorem dL_law_324 : decode cL_law 324 = .ok (.aload_n 0, 1) := by decide +kernel
theorem dL_law_325 : decode cL_law 325 = .ok (.iload_n 3, 1) := by decide +kernel
theorem dL_law_326 : decode cL_law 326 = .ok (.iconst 1, 1) := by decide +kernel
theorem dL_law_327 : decode cL_law 327 = .ok (.iadd, 1) := by decide +kernel
theorem dL_law_328 : decode cL_law 328 = .ok (.iaload, 1) := by decide +kernel
theorem dL_law_329 : decode cL_law 329 = .ok (.aload_n 0, 1) := by decide +kernel
theorem dL_law_330 : decode cL_law 330 = .ok (.iload_n 3, 1) := by decide +kernel
theorem dL_law_331 : decode cL_law 331 = .ok (.iconst 2, 1) := by decide +kernel
theorem dL_law_332 : decode cL_law 332 = .ok (.iadd, 1) := by decide +kernel
theorem dL_law_333 : decode cL_law 333 = .ok (.iaload, 1) := by decide +kernel
theorem dL_law_334 : decode cL_law 334 = .ok (.invokevirtual 36, 3) := by decide +kernel
theorem dL_law_337 : decode cL_law 337 = .ok (.aload_n 2, 1) := by decide +kernel
theorem dL_law_338 : decode cL_law 338 = .ok (.aload_n 0, 1) := by decide +kernel
theorem dL_law_339 : decode cL_law 339 = .ok (.iload_n 3, 1) := by decide +kernel
theorem dL_law_340 : decode cL_law 340 = .ok (.iconst 1, 1) := by decide +kernel
theorem dL_law_341 : decode cL_law 341 = .ok (.iadd, 1) := by decide +kernel
theorem dL_law_342 : decode cL_law 342 = .ok (.iaload, 1) := by decide +kernel
theorem dL_law_343 : decode cL_law 343 = .ok (.aload_n 0, 1) := by decide +kernel
theorem dL_law_344 : decode cL_law 344 = .ok (.iload_n 3, 1) := by decide +kernel
theorem dL_law_345 : decode cL_law 345 = .ok (.iconst 2, 1) := by decide +kernel
theorem dL_law_346 : decode cL_law 346 = .ok (.iadd, 1) := by decide +kernel
theorem dL_law_347 : decode cL_law 347 = .ok (.iaload, 1) := by decide +kernel
theorem dL_law_348 : decode cL_law 348 = .ok (.invokevirtual 39, 3) := by decide +kernel
theorem dL_law_351 : decode cL_law 351 = .ok (.if_icmp .eq 1047, 3) := by decide +kernel
theorem dL_law_354 : decode cL_law 354 = .ok (.iconst 0, 1) := by decide +kernel
theorem dL_law_355 : decode cL_law 355 = .ok (.ireturn, 1) := by decide +kernel
theorem dL_law_356 : decode cL_law 356 = .ok (.aload_n 1, 1) := by decide +kernel
theorem dL_law_357 : decode cL_law 357 = .ok (.aload_n 0, 1) := by decide +kernel
theorem dL_law_358 : decode cL_law 358 = .ok (.iload_n 3, 1) := by decide +kernel
theorem dL_law_359 : decode cL_law 359 = .ok (.iconst 1, 1) := by decide +kernel
theorem dL_law_360 : decode cL_law 360 = .ok (.iadd, 1) := by decide +kernel
theorem dL_law_361 : decode cL_law 361 = .ok (.iaload, 1) := by decide +kernel
theorem dL_law_362 : decode cL_law 362 = .ok (.aload_n 0, 1) := by decide +kernel
theorem dL_law_363 : decode cL_law 363 = .ok (.iload_n 3, 1) := by decide +kernel
theorem dL_law_364 : decode cL_law 364 = .ok (.iconst 2, 1) := by decide +kernel
theorem dL_law_365 : decode cL_law 365 = .ok (.iadd, 1) := by decide +kernel
theorem dL_law_366 : decode cL_law 366 = .ok (.iaload, 1) := by decide +kernel
theorem dL_law_367 : decode cL_law 367 = .ok (.invokevirtual 40, 3) := by decide +kernel
theorem dL_law_370 : decode cL_law 370 = .ok (.aload_n 2, 1) := by decide +kernel
theorem dL_law_371 : decode cL_law 371 = .ok (.aload_n 0, 1) := by decide +kernel
theorem dL_law_372 : decode cL_law 372 = .ok (.iload_n 3, 1) := by decide +kernel
theorem dL_law_373 : decode cL_law 373 = .ok (.iconst 1, 1) := by decide +kernel
theorem dL_law_374 : decode cL_law 374 = .ok (.iadd, 1) := by decide +kernel
theorem dL_law_375 : decode cL_law 375 = .ok (.iaload, 1) := by decide +kernel
theorem dL_law_376 : decode cL_law 376 = .ok (.aload_n 0, 1) := by decide +kernel
theorem dL_law_377 : decode cL_law 377 = .ok (.iload_n 3, 1) := by decide +kernel
theorem dL_law_378 : decode cL_law 378 = .ok (.iconst 2, 1) := by decide +kernel
theorem dL_law_379 : decode cL_law 379 = .ok (.iadd, 1) := by decide +kernel
theorem dL_law_380 : decode cL_law 380 = .ok (.iaload, 1) := by decide +kernel
theorem dL_law_381 : decode cL_law 381 = .ok (.invokevirtual 43, 3) := by decide +kernel
theorem dL_law_384 : decode cL_law 384 = .ok (.if_icmp .eq 1014, 3) := by decide +kernel
theorem dL_law_387 : decode cL_law 387 = .ok (.iconst 0, 1) := by decide +kernel
theorem dL_law_388 : decode cL_law 388 = .ok (.ireturn, 1) := by decide +kernel
theorem dL_law_389 : decode cL_law 389 = .ok (.aload_n 1, 1) := by decide +kernel
theorem dL_law_390 : decode cL_law 390 = .ok (.aload_n 0, 1) := by decide +kernel
theorem dL_law_391 : decode cL_law 391 = .ok (.iload_n 3, 1) := by decide +kernel
theorem dL_law_392 : decode cL_law 392 = .ok (.iconst 1, 1) := by decide +kernel
theorem dL_law_393 : decode cL_law 393 = .ok (.iadd, 1) := by decide +kernel
theorem dL_law_394 : decode cL_law 394 = .ok (.iaload, 1) := by decide +kernel
theorem dL_law_395 : decode cL_law 395 = .ok (.aload_n 0, 1) := by decide +kernel
theorem dL_law_396 : decode cL_law 396 = .ok (.iload_n 3, 1) := by decide +kernel
theorem dL_law_397 : decode cL_law 397 = .ok (.iconst 2, 1) := by decide +kernel
theorem dL_law_398 : decode cL_law 398 = .ok (.iadd, 1) := by decide +kernel
theorem dL_law_399 : decode cL_law 399 = .ok (.iaload, 1) := by decide +kernel
theorem dL_law_400 : decode cL_law 400 = .ok (.aload_n 0, 1) := by decide +kernel
theorem dL_law_401 : decode cL_law 401 = .ok (.iload_n 3, 1) := by decide +kernel
theorem dL_law_402 : decode cL_law 402 = .ok (.iconst 3, 1) := by decide +kernel
theorem dL_law_403 : decode cL_law 403 = .ok (.iadd, 1) := by decide +kernel
theorem dL_law_404 : decode cL_law 404 = .ok (.iaload, 1) := by decide +kernel
theorem dL_law_405 : decode cL_law 405 = .ok (.invokevirtual 44, 3) := by decide +kernel
theorem dL_law_408 : decode cL_law 408 = .ok (.aload_n 2, 1) := by decide +kernel
theorem dL_law_409 : decode cL_law 409 = .ok (.aload_n 0, 1) := by decide +kernel
theorem dL_law_410 : decode cL_law 410 = .ok (.iload_n 3, 1) := by decide +kernel
theorem dL_law_411 : decode cL_law 411 = .ok (.iconst 1, 1) := by decide +kernel
theorem dL_law_412 : decode cL_law 412 = .ok (.iadd, 1) := by decide +kernel
theorem dL_law_413 : decode cL_law 413 = .ok (.iaload, 1) := by decide +kernel
theorem dL_law_414 : decode cL_law 414 = .ok (.aload_n 0, 1) := by decide +kernel
theorem dL_law_415 : decode cL_law 415 = .ok (.iload_n 3, 1) := by decide +kernel
theorem dL_law_416 : decode cL_law 416 = .ok (.iconst 2, 1) := by decide +kernel
theorem dL_law_417 : decode cL_law 417 = .ok (.iadd, 1) := by decide +kernel
theorem dL_law_418 : decode cL_law 418 = .ok (.iaload, 1) := by decide +kernel
theorem dL_law_419 : decode cL_law 419 = .ok (.aload_n 0, 1) := by decide +kernel
theorem dL_law_420 : decode cL_law 420 = .ok (.iload_n 3, 1) := by decide +kernel
theorem dL_law_421 : decode cL_law 421 = .ok (.iconst 3, 1) := by decide +kernel
theorem dL_law_422 : decode cL_law 422 = .ok (.iadd, 1) := by decide +kernel
theorem dL_law_423 : decode cL_law 423 = .ok (.iaload, 1) := by decide +kernel
theorem dL_law_424 : decode cL_law 424 = .ok (.invokevirtual 48, 3) := by decide +kernel
theorem dL_law_427 : decode cL_law 427 = .ok (.if_icmp .eq 971, 3) := by decide +kernel
theorem dL_law_430 : decode cL_law 430 = .ok (.iconst 0, 1) := by decide +kernel
theorem dL_law_431 : decode cL_law 431 = .ok (.ireturn, 1) := by decide +kernel
theorem dL_law_432 : decode cL_law 432 = .ok (.aload_n 1, 1) := by decide +kernel
theorem dL_law_433 : decode cL_law 433 = .ok (.aload_n 0, 1) := by decide +kernel
theorem dL_law_434 : decode cL_law 434 = .ok (.iload_n 3, 1) := by decide +kernel
theorem dL_law_435 : decode cL_law 435 = .ok (.iconst 1, 1) := by decide +kernel
theorem dL_law_436 : decode cL_law 436 = .ok (.iadd, 1) := by decide +kernel
theorem dL_law_437 : decode cL_law 437 = .ok (.iaload, 1) := by decide +kernel
theorem dL_law_438 : decode cL_law 438 = .ok (.aload_n 0, 1) := by decide +kernel
theorem dL_law_439 : decode cL_law 439 = .ok (.iload_n 3, 1) := by decide +kernel
theorem dL_law_440 : decode cL_law 440 = .ok (.iconst 2, 1) := by decide +kernel
theorem dL_law_441 : decode cL_law 441 = .ok (.iadd, 1) := by decide +kernel
theorem dL_law_442 : decode cL_law 442 = .ok (.iaload, 1) := by decide +kernel
theorem dL_law_443 : decode cL_law 443 = .ok (.invokevirtual 49, 3) := by decide +kernel
theorem dL_law_446 : decode cL_law 446 = .ok (.aload_n 2, 1) := by decide +kernel
theorem dL_law_447 : decode cL_law 447 = .ok (.aload_n 0, 1) := by decide +kernel
theorem dL_law_448 : decode cL_law 448 = .ok (.iload_n 3, 1) := by decide +kernel
theorem dL_law_449 : decode cL_law 449 = .ok (.iconst 1, 1) := by decide +kernel
theorem dL_law_450 : decode cL_law 450 = .ok (.iadd, 1) := by decide +kernel
theorem dL_law_451 : decode cL_law 451 = .ok (.iaload, 1) := by decide +kernel
theorem dL_law_452 : decode cL_law 452 = .ok (.aload_n 0, 1) := by decide +kernel
theorem dL_law_453 : decode cL_law 453 = .ok (.iload_n 3, 1) := by decide +kernel
theorem dL_law_454 : decode cL_law 454 = .ok (.iconst 2, 1) := by decide +kernel
theorem dL_law_455 : decode cL_law 455 = .ok (.iadd, 1) := by decide +kernel
theorem dL_law_456 : decode cL_law 456 = .ok (.iaload, 1) := by decide +kernel
theorem dL_law_457 : decode cL_law 457 = .ok (.invokevirtual 52, 3) := by decide +kernel
theorem dL_law_460 : decode cL_law 460 = .ok (.if_icmp .eq 938, 3) := by decide +kernel
theorem dL_law_463 : decode cL_law 463 = .ok (.iconst 0, 1) := by decide +kernel
theorem dL_law_464 : decode cL_law 464 = .ok (.ireturn, 1) := by decide +kernel
theorem dL_law_465 : decode cL_law 465 = .ok (.aload_n 1, 1) := by decide +kernel
theorem dL_law_466 : decode cL_law 466 = .ok (.aload_n 0, 1) := by decide +kernel
theorem dL_law_467 : decode cL_law 467 = .ok (.iload_n 3, 1) := by decide +kernel
theorem dL_law_468 : decode cL_law 468 = .ok (.iconst 1, 1) := by decide +kernel
theorem dL_law_469 : decode cL_law 469 = .ok (.iadd, 1) := by decide +kernel
theorem dL_law_470 : decode cL_law 470 = .ok (.iaload, 1) := by decide +kernel
theorem dL_law_471 : decode cL_law 471 = .ok (.aload_n 0, 1) := by decide +kernel
theorem dL_law_472 : decode cL_law 472 = .ok (.iload_n 3, 1) := by decide +kernel
theorem dL_law_473 : decode cL_law 473 = .ok (.iconst 2, 1) := by decide +kernel
theorem dL_law_474 : decode cL_law 474 = .ok (.iadd, 1) := by decide +kernel
theorem dL_law_475 : decode cL_law 475 = .ok (.iaload, 1) := by decide +kernel
theorem dL_law_476 : decode cL_law 476 = .ok (.invokevirtual 53, 3) := by decide +kernel
theorem dL_law_479 : decode cL_law 479 = .ok (.aload_n 2, 1) := by decide +kernel
theorem dL_law_480 : decode cL_law 480 = .ok (.aload_n 0, 1) := by decide +kernel
theorem dL_law_481 : decode cL_law 481 = .ok (.iload_n 3, 1) := by decide +kernel
theorem dL_law_482 : decode cL_law 482 = .ok (.iconst 1, 1) := by decide +kernel
theorem dL_law_483 : decode cL_law 483 = .ok (.iadd, 1) := by decide +kernel
theorem dL_law_484 : decode cL_law 484 = .ok (.iaload, 1) := by decide +kernel
theorem dL_law_485 : decode cL_law 485 = .ok (.aload_n 0, 1) := by decide +kernel
theorem dL_law_486 : decode cL_law 486 = .ok (.iload_n 3, 1) := by decide +kernel
theorem dL_law_487 : decode cL_law 487 = .ok (.iconst 2, 1) := by decide +kernel
theorem dL_law_488 : decode cL_law 488 = .ok (.iadd, 1) := by decide +kernel
theorem dL_law_489 : decode cL_law 489 = .ok (.iaload, 1) := by decide +kernel
theorem dL_law_490 : decode cL_law 490 = .ok (.invokevirtual 56, 3) := by decide +kernel
theorem dL_law_493 : decode cL_law 493 = .ok (.if_icmp .eq 905, 3) := by decide +kernel
theorem dL_law_496 : decode cL_law 496 = .ok (.iconst 0, 1) := by decide +kernel
theorem dL_law_497 : decode cL_law 497 = .ok (.ireturn, 1) := by decide +kernel
theorem dL_law_498 : decode cL_law 498 = .ok (.aload_n 1, 1) := by decide +kernel
theorem dL_law_499 : decode cL_law 499 = .ok (.aload_n 0, 1) := by decide +kernel
theorem dL_law_500 : decode cL_law 500 = .ok (.iload_n 3, 1) := by decide +kernel
theorem dL_law_501 : decode cL_law 501 = .ok (.iconst 1, 1) := by decide +kernel
theorem dL_law_502 : decode cL_law 502 = .ok (.iadd, 1) := by decide +kernel
theorem dL_law_503 : decode cL_law 503 = .ok (.iaload, 1) := by decide +kernel
theorem dL_law_504 : decode cL_law 504 = .ok (.i2l, 1) := by decide +kernel
theorem dL_law_505 : decode cL_law 505 = .ok (.bipush 32, 2) := by decide +kernel
theorem dL_law_507 : decode cL_law 507 = .ok (.lshl, 1) := by decide +kernel
theorem dL_law_508 : decode cL_law 508 = .ok (.aload_n 0, 1) := by decide +kernel
theorem dL_law_509 : decode cL_law 509 = .ok (.iload_n 3, 1) := by decide +kernel
theorem dL_law_510 : decode cL_law 510 = .ok (.iconst 2, 1) := by decide +kernel
theorem dL_law_511 : decode cL_law 511 = .ok (.iadd, 1) := by decide +kernel
theorem dL_law_512 : decode cL_law 512 = .ok (.iaload, 1) := by decide +kernel
theorem dL_law_513 : decode cL_law 513 = .ok (.i2l, 1) := by decide +kernel
theorem dL_law_514 : decode cL_law 514 = .ok (.ldc2_w 57, 3) := by decide +kernel
theorem dL_law_517 : decode cL_law 517 = .ok (.land, 1) := by decide +kernel
theorem dL_law_518 : decode cL_law 518 = .ok (.lor, 1) := by decide +kernel
theorem dL_law_519 : decode cL_law 519 = .ok (.aload_n 0, 1) := by decide +kernel
theorem dL_law_520 : decode cL_law 520 = .ok (.iload_n 3, 1) := by decide +kernel
theorem dL_law_521 : decode cL_law 521 = .ok (.iconst 3, 1) := by decide +kernel
theorem dL_law_522 : decode cL_law 522 = .ok (.iadd, 1) := by decide +kernel
theorem dL_law_523 : decode cL_law 523 = .ok (.iaload, 1) := by decide +kernel
theorem dL_law_524 : decode cL_law 524 = .ok (.invokevirtual 59, 3) := by decide +kernel
theorem dL_law_527 : decode cL_law 527 = .ok (.aload_n 2, 1) := by decide +kernel
theorem dL_law_528 : decode cL_law 528 = .ok (.aload_n 0, 1) := by decide +kernel
theorem dL_law_529 : decode cL_law 529 = .ok (.iload_n 3, 1) := by decide +kernel
theorem dL_law_530 : decode cL_law 530 = .ok (.iconst 1, 1) := by decide +kernel
theorem dL_law_531 : decode cL_law 531 = .ok (.iadd, 1) := by decide +kernel
theorem dL_law_532 : decode cL_law 532 = .ok (.iaload, 1) := by decide +kernel
theorem dL_law_533 : decode cL_law 533 = .ok (.i2l, 1) := by decide +kernel
theorem dL_law_534 : decode cL_law 534 = .ok (.bipush 32, 2) := by decide +kernel
theorem dL_law_536 : decode cL_law 536 = .ok (.lshl, 1) := by decide +kernel
theorem dL_law_537 : decode cL_law 537 = .ok (.aload_n 0, 1) := by decide +kernel
theorem dL_law_538 : decode cL_law 538 = .ok (.iload_n 3, 1) := by decide +kernel
theorem dL_law_539 : decode cL_law 539 = .ok (.iconst 2, 1) := by decide +kernel
theorem dL_law_540 : decode cL_law 540 = .ok (.iadd, 1) := by decide +kernel
theorem dL_law_541 : decode cL_law 541 = .ok (.iaload, 1) := by decide +kernel
theorem dL_law_542 : decode cL_law 542 = .ok (.i2l, 1) := by decide +kernel
theorem dL_law_543 : decode cL_law 543 = .ok (.ldc2_w 57, 3) := by decide +kernel
theorem dL_law_546 : decode cL_law 546 = .ok (.land, 1) := by decide +kernel
theorem dL_law_547 : decode cL_law 547 = .ok (.lor, 1) := by decide +kernel
theorem dL_law_548 : decode cL_law 548 = .ok (.aload_n 0, 1) := by decide +kernel
theorem dL_law_549 : decode cL_law 549 = .ok (.iload_n 3, 1) := by decide +kernel
theorem dL_law_550 : decode cL_law 550 = .ok (.iconst 3, 1) := by decide +kernel
theorem dL_law_551 : decode cL_law 551 = .ok (.iadd, 1) := by decide +kernel
theorem dL_law_552 : decode cL_law 552 = .ok (.iaload, 1) := by decide +kernel
theorem dL_law_553 : decode cL_law 553 = .ok (.invokevirtual 63, 3) := by decide +kernel
theorem dL_law_556 : decode cL_law 556 = .ok (.if_icmp .eq 842, 3) := by decide +kernel
theorem dL_law_559 : decode cL_law 559 = .ok (.iconst 0, 1) := by decide +kernel
theorem dL_law_560 : decode cL_law 560 = .ok (.ireturn, 1) := by decide +kernel
theorem dL_law_561 : decode cL_law 561 = .ok (.aload_n 1, 1) := by decide +kernel
theorem dL_law_562 : decode cL_law 562 = .ok (.aload_n 0, 1) := by decide +kernel
theorem dL_law_563 : decode cL_law 563 = .ok (.iload_n 3, 1) := by decide +kernel
theorem dL_law_564 : decode cL_law 564 = .ok (.iconst 1, 1) := by decide +kernel
theorem dL_law_565 : decode cL_law 565 = .ok (.iadd, 1) := by decide +kernel
theorem dL_law_566 : decode cL_law 566 = .ok (.iaload, 1) := by decide +kernel
theorem dL_law_567 : decode cL_law 567 = .ok (.invokevirtual 64, 3) := by decide +kernel
theorem dL_law_570 : decode cL_law 570 = .ok (.aload_n 2, 1) := by decide +kernel
theorem dL_law_571 : decode cL_law 571 = .ok (.aload_n 0, 1) := by decide +kernel
theorem dL_law_572 : decode cL_law 572 = .ok (.iload_n 3, 1) := by decide +kernel
theorem dL_law_573 : decode cL_law 573 = .ok (.iconst 1, 1) := by decide +kernel
theorem dL_law_574 : decode cL_law 574 = .ok (.iadd, 1) := by decide +kernel
theorem dL_law_575 : decode cL_law 575 = .ok (.iaload, 1) := by decide +kernel
theorem dL_law_576 : decode cL_law 576 = .ok (.invokevirtual 67, 3) := by decide +kernel
theorem dL_law_579 : decode cL_law 579 = .ok (.if_icmp .eq 819, 3) := by decide +kernel
theorem dL_law_582 : decode cL_law 582 = .ok (.iconst 0, 1) := by decide +kernel
theorem dL_law_583 : decode cL_law 583 = .ok (.ireturn, 1) := by decide +kernel
theorem dL_law_584 : decode cL_law 584 = .ok (.aload_n 1, 1) := by decide +kernel
theorem dL_law_585 : decode cL_law 585 = .ok (.aload_n 0, 1) := by decide +kernel
theorem dL_law_586 : decode cL_law 586 = .ok (.iload_n 3, 1) := by decide +kernel
theorem dL_law_587 : decode cL_law 587 = .ok (.iconst 1, 1) := by decide +kernel
theorem dL_law_588 : decode cL_law 588 = .ok (.iadd, 1) := by decide +kernel
theorem dL_law_589 : decode cL_law 589 = .ok (.iaload, 1) := by decide +kernel
theorem dL_law_590 : decode cL_law 590 = .ok (.aload_n 0, 1) := by decide +kernel
theorem dL_law_591 : decode cL_law 591 = .ok (.iload_n 3, 1) := by decide +kernel
theorem dL_law_592 : decode cL_law 592 = .ok (.iconst 2, 1) := by decide +kernel
theorem dL_law_593 : decode cL_law 593 = .ok (.iadd, 1) := by decide +kernel
theorem dL_law_594 : decode cL_law 594 = .ok (.iaload, 1) := by decide +kernel
theorem dL_law_595 : decode cL_law 595 = .ok (.aload_n 0, 1) := by decide +kernel
theorem dL_law_596 : decode cL_law 596 = .ok (.iload_n 3, 1) := by decide +kernel
theorem dL_law_597 : decode cL_law 597 = .ok (.iconst 3, 1) := by decide +kernel
theorem dL_law_598 : decode cL_law 598 = .ok (.iadd, 1) := by decide +kernel
theorem dL_law_599 : decode cL_law 599 = .ok (.iaload, 1) := by decide +kernel
theorem dL_law_600 : decode cL_law 600 = .ok (.aload_n 0, 1) := by decide +kernel
theorem dL_law_601 : decode cL_law 601 = .ok (.iload_n 3, 1) := by decide +kernel
theorem dL_law_602 : decode cL_law 602 = .ok (.iconst 4, 1) := by decide +kernel
theorem dL_law_603 : decode cL_law 603 = .ok (.iadd, 1) := by decide +kernel
theorem dL_law_604 : decode cL_law 604 = .ok (.iaload, 1) := by decide +kernel
theorem dL_law_605 : decode cL_law 605 = .ok (.invokevirtual 68, 3) := by decide +kernel
theorem dL_law_608 : decode cL_law 608 = .ok (.aload_n 2, 1) := by decide +kernel
theorem dL_law_609 : decode cL_law 609 = .ok (.aload_n 0, 1) := by decide +kernel
theorem dL_law_610 : decode cL_law 610 = .ok (.iload_n 3, 1) := by decide +kernel
theorem dL_law_611 : decode cL_law 611 = .ok (.iconst 1, 1) := by decide +kernel
theorem dL_law_612 : decode cL_law 612 = .ok (.iadd, 1) := by decide +kernel
theorem dL_law_613 : decode cL_law 613 = .ok (.iaload, 1) := by decide +kernel
theorem dL_law_614 : decode cL_law 614 = .ok (.aload_n 0, 1) := by decide +kernel
theorem dL_law_615 : decode cL_law 615 = .ok (.iload_n 3, 1) := by decide +kernel
theorem dL_law_616 : decode cL_law 616 = .ok (.iconst 2, 1) := by decide +kernel
theorem dL_law_617 : decode cL_law 617 = .ok (.iadd, 1) := by decide +kernel
theorem dL_law_618 : decode cL_law 618 = .ok (.iaload, 1) := by decide +kernel
theorem dL_law_619 : decode cL_law 619 = .ok (.aload_n 0, 1) := by decide +kernel
theorem dL_law_620 : decode cL_law 620 = .ok (.iload_n 3, 1) := by decide +kernel
theorem dL_law_621 : decode cL_law 621 = .ok (.iconst 3, 1) := by decide +kernel
theorem dL_law_622 : decode cL_law 622 = .ok (.iadd, 1) := by decide +kernel
theorem dL_law_623 : decode cL_law 623 = .ok (.iaload, 1) := by decide +kernel
theorem dL_law_624 : decode cL_law 624 = .ok (.aload_n 0, 1) := by decide +kernel
theorem dL_law_625 : decode cL_law 625 = .ok (.iload_n 3, 1) := by decide +kernel
theorem dL_law_626 : decode cL_law 626 = .ok (.iconst 4, 1) := by decide +kernel
theorem dL_law_627 : decode cL_law 627 = .ok (.iadd, 1) := by decide +kernel
theorem dL_law_628 : decode cL_law 628 = .ok (.iaload, 1) := by decide +kernel
theorem dL_law_629 : decode cL_law 629 = .ok (.invokevirtual 72, 3) := by decide +kernel
theorem dL_law_632 : decode cL_law 632 = .ok (.if_icmp .eq 766, 3) := by decide +kernel
theorem dL_law_635 : decode cL_law 635 = .ok (.iconst 0, 1) := by decide +kernel
theorem dL_law_636 : decode cL_law 636 = .ok (.ireturn, 1) := by decide +kernel
theorem dL_law_637 : decode cL_law 637 = .ok (.aload_n 1, 1) := by decide +kernel
theorem dL_law_638 : decode cL_law 638 = .ok (.aload_n 0, 1) := by decide +kernel
theorem dL_law_639 : decode cL_law 639 = .ok (.iload_n 3, 1) := by decide +kernel
theorem dL_law_640 : decode cL_law 640 = .ok (.iconst 1, 1) := by decide +kernel
theorem dL_law_641 : decode cL_law 641 = .ok (.iadd, 1) := by decide +kernel
theorem dL_law_642 : decode cL_law 642 = .ok (.iaload, 1) := by decide +kernel
theorem dL_law_643 : decode cL_law 643 = .ok (.invokevirtual 73, 3) := by decide +kernel
theorem dL_law_646 : decode cL_law 646 = .ok (.aload_n 2, 1) := by decide +kernel
theorem dL_law_647 : decode cL_law 647 = .ok (.aload_n 0, 1) := by decide +kernel
theorem dL_law_648 : decode cL_law 648 = .ok (.iload_n 3, 1) := by decide +kernel
theorem dL_law_649 : decode cL_law 649 = .ok (.iconst 1, 1) := by decide +kernel
theorem dL_law_650 : decode cL_law 650 = .ok (.iadd, 1) := by decide +kernel
theorem dL_law_651 : decode cL_law 651 = .ok (.iaload, 1) := by decide +kernel
theorem dL_law_652 : decode cL_law 652 = .ok (.invokevirtual 76, 3) := by decide +kernel
theorem dL_law_655 : decode cL_law 655 = .ok (.if_icmp .eq 743, 3) := by decide +kernel
theorem dL_law_658 : decode cL_law 658 = .ok (.iconst 0, 1) := by decide +kernel
theorem dL_law_659 : decode cL_law 659 = .ok (.ireturn, 1) := by decide +kernel
theorem dL_law_660 : decode cL_law 660 = .ok (.aload_n 1, 1) := by decide +kernel
theorem dL_law_661 : decode cL_law 661 = .ok (.aload_n 0, 1) := by decide +kernel
theorem dL_law_662 : decode cL_law 662 = .ok (.iload_n 3, 1) := by decide +kernel
theorem dL_law_663 : decode cL_law 663 = .ok (.iconst 1, 1) := by decide +kernel
theorem dL_law_664 : decode cL_law 664 = .ok (.iadd, 1) := by decide +kernel
theorem dL_law_665 : decode cL_law 665 = .ok (.iaload, 1) := by decide +kernel
theorem dL_law_666 : decode cL_law 666 = .ok (.invokevirtual 77, 3) := by decide +kernel
theorem dL_law_669 : decode cL_law 669 = .ok (.aload_n 2, 1) := by decide +kernel
theorem dL_law_670 : decode cL_law 670 = .ok (.aload_n 0, 1) := by decide +kernel
theorem dL_law_671 : decode cL_law 671 = .ok (.iload_n 3, 1) := by decide +kernel
theorem dL_law_672 : decode cL_law 672 = .ok (.iconst 1, 1) := by decide +kernel
theorem dL_law_673 : decode cL_law 673 = .ok (.iadd, 1) := by decide +kernel
theorem dL_law_674 : decode cL_law 674 = .ok (.iaload, 1) := by decide +kernel
theorem dL_law_675 : decode cL_law 675 = .ok (.invokevirtual 80, 3) := by decide +kernel
theorem dL_law_678 : decode cL_law 678 = .ok (.if_icmp .eq 720, 3) := by decide +kernel
theorem dL_law_681 : decode cL_law 681 = .ok (.iconst 0, 1) := by decide +kernel
theorem dL_law_682 : decode cL_law 682 = .ok (.ireturn, 1) := by decide +kernel
theorem dL_law_683 : decode cL_law 683 = .ok (.aload_n 1, 1) := by decide +kernel
theorem dL_law_684 : decode cL_law 684 = .ok (.aload_n 0, 1) := by decide +kernel
theorem dL_law_685 : decode cL_law 685 = .ok (.iload_n 3, 1) := by decide +kernel
theorem dL_law_686 : decode cL_law 686 = .ok (.iconst 1, 1) := by decide +kernel
theorem dL_law_687 : decode cL_law 687 = .ok (.iadd, 1) := by decide +kernel
theorem dL_law_688 : decode cL_law 688 = .ok (.iaload, 1) := by decide +kernel
theorem dL_law_689 : decode cL_law 689 = .ok (.invokevirtual 81, 3) := by decide +kernel
theorem dL_law_692 : decode cL_law 692 = .ok (.aload_n 2, 1) := by decide +kernel
theorem dL_law_693 : decode cL_law 693 = .ok (.aload_n 0, 1) := by decide +kernel
theorem dL_law_694 : decode cL_law 694 = .ok (.iload_n 3, 1) := by decide +kernel
theorem dL_law_695 : decode cL_law 695 = .ok (.iconst 1, 1) := by decide +kernel
theorem dL_law_696 : decode cL_law 696 = .ok (.iadd, 1) := by decide +kernel
theorem dL_law_697 : decode cL_law 697 = .ok (.iaload, 1) := by decide +kernel
theorem dL_law_698 : decode cL_law 698 = .ok (.invokevirtual 84, 3) := by decide +kernel
theorem dL_law_701 : decode cL_law 701 = .ok (.if_icmp .eq 697, 3) := by decide +kernel
theorem dL_law_704 : decode cL_law 704 = .ok (.iconst 0, 1) := by decide +kernel
theorem dL_law_705 : decode cL_law 705 = .ok (.ireturn, 1) := by decide +kernel
theorem dL_law_706 : decode cL_law 706 = .ok (.aload_n 1, 1) := by decide +kernel
theorem dL_law_707 : decode cL_law 707 = .ok (.aload_n 0, 1) := by decide +kernel
theorem dL_law_708 : decode cL_law 708 = .ok (.iload_n 3, 1) := by decide +kernel
theorem dL_law_709 : decode cL_law 709 = .ok (.iconst 1, 1) := by decide +kernel
theorem dL_law_710 : decode cL_law 710 = .ok (.iadd, 1) := by decide +kernel
theorem dL_law_711 : decode cL_law 711 = .ok (.iaload, 1) := by decide +kernel
theorem dL_law_712 : decode cL_law 712 = .ok (.invokevirtual 85, 3) := by decide +kernel
theorem dL_law_715 : decode cL_law 715 = .ok (.aload_n 2, 1) := by decide +kernel
theorem dL_law_716 : decode cL_law 716 = .ok (.aload_n 0, 1) := by decide +kernel
theorem dL_law_717 : decode cL_law 717 = .ok (.iload_n 3, 1) := by decide +kernel
theorem dL_law_718 : decode cL_law 718 = .ok (.iconst 1, 1) := by decide +kernel
theorem dL_law_719 : decode cL_law 719 = .ok (.iadd, 1) := by decide +kernel
theorem dL_law_720 : decode cL_law 720 = .ok (.iaload, 1) := by decide +kernel
theorem dL_law_721 : decode cL_law 721 = .ok (.invokevirtual 88, 3) := by decide +kernel
theorem dL_law_724 : decode cL_law 724 = .ok (.if_icmp .eq 674, 3) := by decide +kernel
theorem dL_law_727 : decode cL_law 727 = .ok (.iconst 0, 1) := by decide +kernel
theorem dL_law_728 : decode cL_law 728 = .ok (.ireturn, 1) := by decide +kernel
theorem dL_law_729 : decode cL_law 729 = .ok (.aload_n 1, 1) := by decide +kernel
theorem dL_law_730 : decode cL_law 730 = .ok (.aload_n 0, 1) := by decide +kernel
theorem dL_law_731 : decode cL_law 731 = .ok (.iload_n 3, 1) := by decide +kernel
theorem dL_law_732 : decode cL_law 732 = .ok (.iconst 1, 1) := by decide +kernel
theorem dL_law_733 : decode cL_law 733 = .ok (.iadd, 1) := by decide +kernel
theorem dL_law_734 : decode cL_law 734 = .ok (.iaload, 1) := by decide +kernel
theorem dL_law_735 : decode cL_law 735 = .ok (.aload_n 0, 1) := by decide +kernel
theorem dL_law_736 : decode cL_law 736 = .ok (.iload_n 3, 1) := by decide +kernel
theorem dL_law_737 : decode cL_law 737 = .ok (.iconst 2, 1) := by decide +kernel
theorem dL_law_738 : decode cL_law 738 = .ok (.iadd, 1) := by decide +kernel
theorem dL_law_739 : decode cL_law 739 = .ok (.iaload, 1) := by decide +kernel
theorem dL_law_740 : decode cL_law 740 = .ok (.invokevirtual 89, 3) := by decide +kernel
theorem dL_law_743 : decode cL_law 743 = .ok (.aload_n 2, 1) := by decide +kernel
theorem dL_law_744 : decode cL_law 744 = .ok (.aload_n 0, 1) := by decide +kernel
theorem dL_law_745 : decode cL_law 745 = .ok (.iload_n 3, 1) := by decide +kernel
theorem dL_law_746 : decode cL_law 746 = .ok (.iconst 1, 1) := by decide +kernel
theorem dL_law_747 : decode cL_law 747 = .ok (.iadd, 1) := by decide +kernel
theorem dL_law_748 : decode cL_law 748 = .ok (.iaload, 1) := by decide +kernel
theorem dL_law_749 : decode cL_law 749 = .ok (.aload_n 0, 1) := by decide +kernel
theorem dL_law_750 : decode cL_law 750 = .ok (.iload_n 3, 1) := by decide +kernel
theorem dL_law_751 : decode cL_law 751 = .ok (.iconst 2, 1) := by decide +kernel
theorem dL_law_752 : decode cL_law 752 = .ok (.iadd, 1) := by decide +kernel
theorem dL_law_753 : decode cL_law 753 = .ok (.iaload, 1) := by decide +kernel
theorem dL_law_754 : decode cL_law 754 = .ok (.invokevirtual 92, 3) := by decide +kernel
theorem dL_law_757 : decode cL_law 757 = .ok (.if_icmp .eq 641, 3) := by decide +kernel
theorem dL_law_760 : decode cL_law 760 = .ok (.iconst 0, 1) := by decide +kernel
theorem dL_law_761 : decode cL_law 761 = .ok (.ireturn, 1) := by decide +kernel
theorem dL_law_762 : decode cL_law 762 = .ok (.aload_n 1, 1) := by decide +kernel
theorem dL_law_763 : decode cL_law 763 = .ok (.aload_n 0, 1) := by decide +kernel
theorem dL_law_764 : decode cL_law 764 = .ok (.iload_n 3, 1) := by decide +kernel
theorem dL_law_765 : decode cL_law 765 = .ok (.iconst 1, 1) := by decide +kernel
theorem dL_law_766 : decode cL_law 766 = .ok (.iadd, 1) := by decide +kernel
theorem dL_law_767 : decode cL_law 767 = .ok (.iaload, 1) := by decide +kernel
theorem dL_law_768 : decode cL_law 768 = .ok (.aload_n 0, 1) := by decide +kernel
theorem dL_law_769 : decode cL_law 769 = .ok (.iload_n 3, 1) := by decide +kernel
theorem dL_law_770 : decode cL_law 770 = .ok (.iconst 2, 1) := by decide +kernel
theorem dL_law_771 : decode cL_law 771 = .ok (.iadd, 1) := by decide +kernel
theorem dL_law_772 : decode cL_law 772 = .ok (.iaload, 1) := by decide +kernel
theorem dL_law_773 : decode cL_law 773 = .ok (.invokevirtual 93, 3) := by decide +kernel
theorem dL_law_776 : decode cL_law 776 = .ok (.aload_n 2, 1) := by decide +kernel
theorem dL_law_777 : decode cL_law 777 = .ok (.aload_n 0, 1) := by decide +kernel
theorem dL_law_778 : decode cL_law 778 = .ok (.iload_n 3, 1) := by decide +kernel
theorem dL_law_779 : decode cL_law 779 = .ok (.iconst 1, 1) := by decide +kernel
theorem dL_law_780 : decode cL_law 780 = .ok (.iadd, 1) := by decide +kernel
theorem dL_law_781 : decode cL_law 781 = .ok (.iaload, 1) := by decide +kernel
theorem dL_law_782 : decode cL_law 782 = .ok (.aload_n 0, 1) := by decide +kernel
theorem dL_law_783 : decode cL_law 783 = .ok (.iload_n 3, 1) := by decide +kernel
theorem dL_law_784 : decode cL_law 784 = .ok (.iconst 2, 1) := by decide +kernel
theorem dL_law_785 : decode cL_law 785 = .ok (.iadd, 1) := by decide +kernel
theorem dL_law_786 : decode cL_law 786 = .ok (.iaload, 1) := by decide +kernel
theorem dL_law_787 : decode cL_law 787 = .ok (.invokevirtual 96, 3) := by decide +kernel
theorem dL_law_790 : decode cL_law 790 = .ok (.if_icmp .eq 608, 3) := by decide +kernel
theorem dL_law_793 : decode cL_law 793 = .ok (.iconst 0, 1) := by decide +kernel
theorem dL_law_794 : decode cL_law 794 = .ok (.ireturn, 1) := by decide +kernel
theorem dL_law_795 : decode cL_law 795 = .ok (.aload_n 1, 1) := by decide +kernel
theorem dL_law_796 : decode cL_law 796 = .ok (.aload_n 0, 1) := by decide +kernel
theorem dL_law_797 : decode cL_law 797 = .ok (.iload_n 3, 1) := by decide +kernel
theorem dL_law_798 : decode cL_law 798 = .ok (.iconst 1, 1) := by decide +kernel
theorem dL_law_799 : decode cL_law 799 = .ok (.iadd, 1) := by decide +kernel
theorem dL_law_800 : decode cL_law 800 = .ok (.iaload, 1) := by decide +kernel
theorem dL_law_801 : decode cL_law 801 = .ok (.aload_n 0, 1) := by decide +kernel
theorem dL_law_802 : decode cL_law 802 = .ok (.iload_n 3, 1) := by decide +kernel
theorem dL_law_803 : decode cL_law 803 = .ok (.iconst 2, 1) := by decide +kernel
theorem dL_law_804 : decode cL_law 804 = .ok (.iadd, 1) := by decide +kernel
theorem dL_law_805 : decode cL_law 805 = .ok (.iaload, 1) := by decide +kernel
theorem dL_law_806 : decode cL_law 806 = .ok (.invokevirtual 97, 3) := by decide +kernel
theorem dL_law_809 : decode cL_law 809 = .ok (.aload_n 2, 1) := by decide +kernel
theorem dL_law_810 : decode cL_law 810 = .ok (.aload_n 0, 1) := by decide +kernel
theorem dL_law_811 : decode cL_law 811 = .ok (.iload_n 3, 1) := by decide +kernel
theorem dL_law_812 : decode cL_law 812 = .ok (.iconst 1, 1) := by decide +kernel
theorem dL_law_813 : decode cL_law 813 = .ok (.iadd, 1) := by decide +kernel
theorem dL_law_814 : decode cL_law 814 = .ok (.iaload, 1) := by decide +kernel
theorem dL_law_815 : decode cL_law 815 = .ok (.aload_n 0, 1) := by decide +kernel
theorem dL_law_816 : decode cL_law 816 = .ok (.iload_n 3, 1) := by decide +kernel
theorem dL_law_817 : decode cL_law 817 = .ok (.iconst 2, 1) := by decide +kernel
theorem dL_law_818 : decode cL_law 818 = .ok (.iadd, 1) := by decide +kernel
theorem dL_law_819 : decode cL_law 819 = .ok (.iaload, 1) := by decide +kernel
theorem dL_law_820 : decode cL_law 820 = .ok (.invokevirtual 100, 3) := by decide +kernel
theorem dL_law_823 : decode cL_law 823 = .ok (.if_icmp .eq 575, 3) := by decide +kernel
theorem dL_law_826 : decode cL_law 826 = .ok (.iconst 0, 1) := by decide +kernel
theorem dL_law_827 : decode cL_law 827 = .ok (.ireturn, 1) := by decide +kernel
theorem dL_law_828 : decode cL_law 828 = .ok (.aload_n 1, 1) := by decide +kernel
theorem dL_law_829 : decode cL_law 829 = .ok (.aload_n 0, 1) := by decide +kernel
theorem dL_law_830 : decode cL_law 830 = .ok (.iload_n 3, 1) := by decide +kernel
theorem dL_law_831 : decode cL_law 831 = .ok (.iconst 1, 1) := by decide +kernel
theorem dL_law_832 : decode cL_law 832 = .ok (.iadd, 1) := by decide +kernel
theorem dL_law_833 : decode cL_law 833 = .ok (.iaload, 1) := by decide +kernel
theorem dL_law_834 : decode cL_law 834 = .ok (.aload_n 0, 1) := by decide +kernel
theorem dL_law_835 : decode cL_law 835 = .ok (.iload_n 3, 1) := by decide +kernel
theorem dL_law_836 : decode cL_law 836 = .ok (.iconst 2, 1) := by decide +kernel
theorem dL_law_837 : decode cL_law 837 = .ok (.iadd, 1) := by decide +kernel
theorem dL_law_838 : decode cL_law 838 = .ok (.iaload, 1) := by decide +kernel
theorem dL_law_839 : decode cL_law 839 = .ok (.invokevirtual 101, 3) := by decide +kernel
theorem dL_law_842 : decode cL_law 842 = .ok (.aload_n 2, 1) := by decide +kernel
theorem dL_law_843 : decode cL_law 843 = .ok (.aload_n 0, 1) := by decide +kernel
theorem dL_law_844 : decode cL_law 844 = .ok (.iload_n 3, 1) := by decide +kernel
theorem dL_law_845 : decode cL_law 845 = .ok (.iconst 1, 1) := by decide +kernel
theorem dL_law_846 : decode cL_law 846 = .ok (.iadd, 1) := by decide +kernel
theorem dL_law_847 : decode cL_law 847 = .ok (.iaload, 1) := by decide +kernel
theorem dL_law_848 : decode cL_law 848 = .ok (.aload_n 0, 1) := by decide +kernel
theorem dL_law_849 : decode cL_law 849 = .ok (.iload_n 3, 1) := by decide +kernel
theorem dL_law_850 : decode cL_law 850 = .ok (.iconst 2, 1) := by decide +kernel
theorem dL_law_851 : decode cL_law 851 = .ok (.iadd, 1) := by decide +kernel
theorem dL_law_852 : decode cL_law 852 = .ok (.iaload, 1) := by decide +kernel
theorem dL_law_853 : decode cL_law 853 = .ok (.invokevirtual 104, 3) := by decide +kernel
theorem dL_law_856 : decode cL_law 856 = .ok (.if_icmp .eq 542, 3) := by decide +kernel
theorem dL_law_859 : decode cL_law 859 = .ok (.iconst 0, 1) := by decide +kernel
theorem dL_law_860 : decode cL_law 860 = .ok (.ireturn, 1) := by decide +kernel
theorem dL_law_861 : decode cL_law 861 = .ok (.aload_n 1, 1) := by decide +kernel
theorem dL_law_862 : decode cL_law 862 = .ok (.aload_n 0, 1) := by decide +kernel
theorem dL_law_863 : decode cL_law 863 = .ok (.iload_n 3, 1) := by decide +kernel
theorem dL_law_864 : decode cL_law 864 = .ok (.iconst 1, 1) := by decide +kernel
theorem dL_law_865 : decode cL_law 865 = .ok (.iadd, 1) := by decide +kernel
theorem dL_law_866 : decode cL_law 866 = .ok (.iaload, 1) := by decide +kernel
theorem dL_law_867 : decode cL_law 867 = .ok (.aload_n 0, 1) := by decide +kernel
theorem dL_law_868 : decode cL_law 868 = .ok (.iload_n 3, 1) := by decide +kernel
theorem dL_law_869 : decode cL_law 869 = .ok (.iconst 2, 1) := by decide +kernel
theorem dL_law_870 : decode cL_law 870 = .ok (.iadd, 1) := by decide +kernel
theorem dL_law_871 : decode cL_law 871 = .ok (.iaload, 1) := by decide +kernel
theorem dL_law_872 : decode cL_law 872 = .ok (.invokevirtual 105, 3) := by decide +kernel
theorem dL_law_875 : decode cL_law 875 = .ok (.aload_n 2, 1) := by decide +kernel
theorem dL_law_876 : decode cL_law 876 = .ok (.aload_n 0, 1) := by decide +kernel
theorem dL_law_877 : decode cL_law 877 = .ok (.iload_n 3, 1) := by decide +kernel
theorem dL_law_878 : decode cL_law 878 = .ok (.iconst 1, 1) := by decide +kernel
theorem dL_law_879 : decode cL_law 879 = .ok (.iadd, 1) := by decide +kernel
theorem dL_law_880 : decode cL_law 880 = .ok (.iaload, 1) := by decide +kernel
theorem dL_law_881 : decode cL_law 881 = .ok (.aload_n 0, 1) := by decide +kernel
theorem dL_law_882 : decode cL_law 882 = .ok (.iload_n 3, 1) := by decide +kernel
theorem dL_law_883 : decode cL_law 883 = .ok (.iconst 2, 1) := by decide +kernel
theorem dL_law_884 : decode cL_law 884 = .ok (.iadd, 1) := by decide +kernel
theorem dL_law_885 : decode cL_law 885 = .ok (.iaload, 1) := by decide +kernel
theorem dL_law_886 : decode cL_law 886 = .ok (.invokevirtual 108, 3) := by decide +kernel
theorem dL_law_889 : decode cL_law 889 = .ok (.if_icmp .eq 509, 3) := by decide +kernel
theorem dL_law_892 : decode cL_law 892 = .ok (.iconst 0, 1) := by decide +kernel
theorem dL_law_893 : decode cL_law 893 = .ok (.ireturn, 1) := by decide +kernel
theorem dL_law_894 : decode cL_law 894 = .ok (.aload_n 1, 1) := by decide +kernel
theorem dL_law_895 : decode cL_law 895 = .ok (.invokevirtual 109, 3) := by decide +kernel
theorem dL_law_898 : decode cL_law 898 = .ok (.aload_n 2, 1) := by decide +kernel
theorem dL_law_899 : decode cL_law 899 = .ok (.invokevirtual 112, 3) := by decide +kernel
theorem dL_law_902 : decode cL_law 902 = .ok (.if_icmp .eq 496, 3) := by decide +kernel
theorem dL_law_905 : decode cL_law 905 = .ok (.iconst 0, 1) := by decide +kernel
theorem dL_law_906 : decode cL_law 906 = .ok (.ireturn, 1) := by decide +kernel
theorem dL_law_907 : decode cL_law 907 = .ok (.aload_n 1, 1) := by decide +kernel
theorem dL_law_908 : decode cL_law 908 = .ok (.aload_n 0, 1) := by decide +kernel
theorem dL_law_909 : decode cL_law 909 = .ok (.iload_n 3, 1) := by decide +kernel
theorem dL_law_910 : decode cL_law 910 = .ok (.iconst 1, 1) := by decide +kernel
theorem dL_law_911 : decode cL_law 911 = .ok (.iadd, 1) := by decide +kernel
theorem dL_law_912 : decode cL_law 912 = .ok (.iaload, 1) := by decide +kernel
theorem dL_law_913 : decode cL_law 913 = .ok (.invokevirtual 113, 3) := by decide +kernel
theorem dL_law_916 : decode cL_law 916 = .ok (.aload_n 2, 1) := by decide +kernel
theorem dL_law_917 : decode cL_law 917 = .ok (.aload_n 0, 1) := by decide +kernel
theorem dL_law_918 : decode cL_law 918 = .ok (.iload_n 3, 1) := by decide +kernel
theorem dL_law_919 : decode cL_law 919 = .ok (.iconst 1, 1) := by decide +kernel
theorem dL_law_920 : decode cL_law 920 = .ok (.iadd, 1) := by decide +kernel
theorem dL_law_921 : decode cL_law 921 = .ok (.iaload, 1) := by decide +kernel
theorem dL_law_922 : decode cL_law 922 = .ok (.invokevirtual 116, 3) := by decide +kernel
theorem dL_law_925 : decode cL_law 925 = .ok (.if_icmp .eq 473, 3) := by decide +kernel
theorem dL_law_928 : decode cL_law 928 = .ok (.iconst 0, 1) := by decide +kernel
theorem dL_law_929 : decode cL_law 929 = .ok (.ireturn, 1) := by decide +kernel
theorem dL_law_930 : decode cL_law 930 = .ok (.aload_n 1, 1) := by decide +kernel
theorem dL_law_931 : decode cL_law 931 = .ok (.aload_n 0, 1) := by decide +kernel
theorem dL_law_932 : decode cL_law 932 = .ok (.iload_n 3, 1) := by decide +kernel
theorem dL_law_933 : decode cL_law 933 = .ok (.iconst 1, 1) := by decide +kernel
theorem dL_law_934 : decode cL_law 934 = .ok (.iadd, 1) := by decide +kernel
theorem dL_law_935 : decode cL_law 935 = .ok (.iaload, 1) := by decide +kernel
theorem dL_law_936 : decode cL_law 936 = .ok (.aload_n 0, 1) := by decide +kernel
theorem dL_law_937 : decode cL_law 937 = .ok (.iload_n 3, 1) := by decide +kernel
theorem dL_law_938 : decode cL_law 938 = .ok (.iconst 2, 1) := by decide +kernel
theorem dL_law_939 : decode cL_law 939 = .ok (.iadd, 1) := by decide +kernel
theorem dL_law_940 : decode cL_law 940 = .ok (.iaload, 1) := by decide +kernel
theorem dL_law_941 : decode cL_law 941 = .ok (.invokevirtual 117, 3) := by decide +kernel
theorem dL_law_944 : decode cL_law 944 = .ok (.aload_n 2, 1) := by decide +kernel
theorem dL_law_945 : decode cL_law 945 = .ok (.aload_n 0, 1) := by decide +kernel
theorem dL_law_946 : decode cL_law 946 = .ok (.iload_n 3, 1) := by decide +kernel
theorem dL_law_947 : decode cL_law 947 = .ok (.iconst 1, 1) := by decide +kernel
theorem dL_law_948 : decode cL_law 948 = .ok (.iadd, 1) := by decide +kernel
theorem dL_law_949 : decode cL_law 949 = .ok (.iaload, 1) := by decide +kernel
theorem dL_law_950 : decode cL_law 950 = .ok (.aload_n 0, 1) := by decide +kernel
theorem dL_law_951 : decode cL_law 951 = .ok (.iload_n 3, 1) := by decide +kernel
theorem dL_law_952 : decode cL_law 952 = .ok (.iconst 2, 1) := by decide +kernel
theorem dL_law_953 : decode cL_law 953 = .ok (.iadd, 1) := by decide +kernel
theorem dL_law_954 : decode cL_law 954 = .ok (.iaload, 1) := by decide +kernel
theorem dL_law_955 : decode cL_law 955 = .ok (.invokevirtual 120, 3) := by decide +kernel
theorem dL_law_958 : decode cL_law 958 = .ok (.if_icmp .eq 440, 3) := by decide +kernel
theorem dL_law_961 : decode cL_law 961 = .ok (.iconst 0, 1) := by decide +kernel
theorem dL_law_962 : decode cL_law 962 = .ok (.ireturn, 1) := by decide +kernel
theorem dL_law_963 : decode cL_law 963 = .ok (.aload_n 1, 1) := by decide +kernel
theorem dL_law_964 : decode cL_law 964 = .ok (.aload_n 0, 1) := by decide +kernel
theorem dL_law_965 : decode cL_law 965 = .ok (.iload_n 3, 1) := by decide +kernel
theorem dL_law_966 : decode cL_law 966 = .ok (.iconst 1, 1) := by decide +kernel
theorem dL_law_967 : decode cL_law 967 = .ok (.iadd, 1) := by decide +kernel
theorem dL_law_968 : decode cL_law 968 = .ok (.iaload, 1) := by decide +kernel
theorem dL_law_969 : decode cL_law 969 = .ok (.aload_n 0, 1) := by decide +kernel
theorem dL_law_970 : decode cL_law 970 = .ok (.iload_n 3, 1) := by decide +kernel
theorem dL_law_971 : decode cL_law 971 = .ok (.iconst 2, 1) := by decide +kernel
theorem dL_law_972 : decode cL_law 972 = .ok (.iadd, 1) := by decide +kernel
theorem dL_law_973 : decode cL_law 973 = .ok (.iaload, 1) := by decide +kernel
theorem dL_law_974 : decode cL_law 974 = .ok (.aload_n 0, 1) := by decide +kernel
theorem dL_law_975 : decode cL_law 975 = .ok (.iload_n 3, 1) := by decide +kernel
theorem dL_law_976 : decode cL_law 976 = .ok (.iconst 3, 1) := by decide +kernel
theorem dL_law_977 : decode cL_law 977 = .ok (.iadd, 1) := by decide +kernel
theorem dL_law_978 : decode cL_law 978 = .ok (.iaload, 1) := by decide +kernel
theorem dL_law_979 : decode cL_law 979 = .ok (.invokevirtual 121, 3) := by decide +kernel
theorem dL_law_982 : decode cL_law 982 = .ok (.aload_n 2, 1) := by decide +kernel
theorem dL_law_983 : decode cL_law 983 = .ok (.aload_n 0, 1) := by decide +kernel
theorem dL_law_984 : decode cL_law 984 = .ok (.iload_n 3, 1) := by decide +kernel
theorem dL_law_985 : decode cL_law 985 = .ok (.iconst 1, 1) := by decide +kernel
theorem dL_law_986 : decode cL_law 986 = .ok (.iadd, 1) := by decide +kernel
theorem dL_law_987 : decode cL_law 987 = .ok (.iaload, 1) := by decide +kernel
theorem dL_law_988 : decode cL_law 988 = .ok (.aload_n 0, 1) := by decide +kernel
theorem dL_law_989 : decode cL_law 989 = .ok (.iload_n 3, 1) := by decide +kernel
theorem dL_law_990 : decode cL_law 990 = .ok (.iconst 2, 1) := by decide +kernel
theorem dL_law_991 : decode cL_law 991 = .ok (.iadd, 1) := by decide +kernel
theorem dL_law_992 : decode cL_law 992 = .ok (.iaload, 1) := by decide +kernel
theorem dL_law_993 : decode cL_law 993 = .ok (.aload_n 0, 1) := by decide +kernel
theorem dL_law_994 : decode cL_law 994 = .ok (.iload_n 3, 1) := by decide +kernel
theorem dL_law_995 : decode cL_law 995 = .ok (.iconst 3, 1) := by decide +kernel
theorem dL_law_996 : decode cL_law 996 = .ok (.iadd, 1) := by decide +kernel
theorem dL_law_997 : decode cL_law 997 = .ok (.iaload, 1) := by decide +kernel
theorem dL_law_998 : decode cL_law 998 = .ok (.invokevirtual 124, 3) := by decide +kernel
theorem dL_law_1001 : decode cL_law 1001 = .ok (.if_icmp .eq 397, 3) := by decide +kernel
theorem dL_law_1004 : decode cL_law 1004 = .ok (.iconst 0, 1) := by decide +kernel
theorem dL_law_1005 : decode cL_law 1005 = .ok (.ireturn, 1) := by decide +kernel
theorem dL_law_1006 : decode cL_law 1006 = .ok (.aload_n 1, 1) := by decide +kernel
theorem dL_law_1007 : decode cL_law 1007 = .ok (.aload_n 0, 1) := by decide +kernel
theorem dL_law_1008 : decode cL_law 1008 = .ok (.iload_n 3, 1) := by decide +kernel
theorem dL_law_1009 : decode cL_law 1009 = .ok (.iconst 1, 1) := by decide +kernel
theorem dL_law_1010 : decode cL_law 1010 = .ok (.iadd, 1) := by decide +kernel
theorem dL_law_1011 : decode cL_law 1011 = .ok (.iaload, 1) := by decide +kernel
theorem dL_law_1012 : decode cL_law 1012 = .ok (.invokevirtual 125, 3) := by decide +kernel
theorem dL_law_1015 : decode cL_law 1015 = .ok (.aload_n 2, 1) := by decide +kernel
theorem dL_law_1016 : decode cL_law 1016 = .ok (.aload_n 0, 1) := by decide +kernel
theorem dL_law_1017 : decode cL_law 1017 = .ok (.iload_n 3, 1) := by decide +kernel
theorem dL_law_1018 : decode cL_law 1018 = .ok (.iconst 1, 1) := by decide +kernel
theorem dL_law_1019 : decode cL_law 1019 = .ok (.iadd, 1) := by decide +kernel
theorem dL_law_1020 : decode cL_law 1020 = .ok (.iaload, 1) := by decide +kernel
theorem dL_law_1021 : decode cL_law 1021 = .ok (.invokevirtual 128, 3) := by decide +kernel
theorem dL_law_1024 : decode cL_law 1024 = .ok (.if_icmp .eq 374, 3) := by decide +kernel
theorem dL_law_1027 : decode cL_law 1027 = .ok (.iconst 0, 1) := by decide +kernel
theorem dL_law_1028 : decode cL_law 1028 = .ok (.ireturn, 1) := by decide +kernel
theorem dL_law_1029 : decode cL_law 1029 = .ok (.aload_n 1, 1) := by decide +kernel
theorem dL_law_1030 : decode cL_law 1030 = .ok (.aload_n 0, 1) := by decide +kernel
theorem dL_law_1031 : decode cL_law 1031 = .ok (.iload_n 3, 1) := by decide +kernel
theorem dL_law_1032 : decode cL_law 1032 = .ok (.iconst 1, 1) := by decide +kernel
theorem dL_law_1033 : decode cL_law 1033 = .ok (.iadd, 1) := by decide +kernel
theorem dL_law_1034 : decode cL_law 1034 = .ok (.iaload, 1) := by decide +kernel
theorem dL_law_1035 : decode cL_law 1035 = .ok (.aload_n 0, 1) := by decide +kernel
theorem dL_law_1036 : decode cL_law 1036 = .ok (.iload_n 3, 1) := by decide +kernel
theorem dL_law_1037 : decode cL_law 1037 = .ok (.iconst 2, 1) := by decide +kernel
theorem dL_law_1038 : decode cL_law 1038 = .ok (.iadd, 1) := by decide +kernel
theorem dL_law_1039 : decode cL_law 1039 = .ok (.iaload, 1) := by decide +kernel
theorem dL_law_1040 : decode cL_law 1040 = .ok (.aload_n 0, 1) := by decide +kernel
theorem dL_law_1041 : decode cL_law 1041 = .ok (.iload_n 3, 1) := by decide +kernel
theorem dL_law_1042 : decode cL_law 1042 = .ok (.iconst 3, 1) := by decide +kernel
theorem dL_law_1043 : decode cL_law 1043 = .ok (.iadd, 1) := by decide +kernel
theorem dL_law_1044 : decode cL_law 1044 = .ok (.iaload, 1) := by decide +kernel
theorem dL_law_1045 : decode cL_law 1045 = .ok (.invokevirtual 129, 3) := by decide +kernel
theorem dL_law_1048 : decode cL_law 1048 = .ok (.aload_n 2, 1) := by decide +kernel
theorem dL_law_1049 : decode cL_law 1049 = .ok (.aload_n 0, 1) := by decide +kernel
theorem dL_law_1050 : decode cL_law 1050 = .ok (.iload_n 3, 1) := by decide +kernel
theorem dL_law_1051 : decode cL_law 1051 = .ok (.iconst 1, 1) := by decide +kernel
theorem dL_law_1052 : decode cL_law 1052 = .ok (.iadd, 1) := by decide +kernel
theorem dL_law_1053 : decode cL_law 1053 = .ok (.iaload, 1) := by decide +kernel
theorem dL_law_1054 : decode cL_law 1054 = .ok (.aload_n 0, 1) := by decide +kernel
theorem dL_law_1055 : decode cL_law 1055 = .ok (.iload_n 3, 1) := by decide +kernel
theorem dL_law_1056 : decode cL_law 1056 = .ok (.iconst 2, 1) := by decide +kernel
theorem dL_law_1057 : decode cL_law 1057 = .ok (.iadd, 1) := by decide +kernel
theorem dL_law_1058 : decode cL_law 1058 = .ok (.iaload, 1) := by decide +kernel
theorem dL_law_1059 : decode cL_law 1059 = .ok (.aload_n 0, 1) := by decide +kernel
theorem dL_law_1060 : decode cL_law 1060 = .ok (.iload_n 3, 1) := by decide +kernel
theorem dL_law_1061 : decode cL_law 1061 = .ok (.iconst 3, 1) := by decide +kernel
theorem dL_law_1062 : decode cL_law 1062 = .ok (.iadd, 1) := by decide +kernel
theorem dL_law_1063 : decode cL_law 1063 = .ok (.iaload, 1) := by decide +kernel
theorem dL_law_1064 : decode cL_law 1064 = .ok (.invokevirtual 132, 3) := by decide +kernel
theorem dL_law_1067 : decode cL_law 1067 = .ok (.if_icmp .eq 331, 3) := by decide +kernel
theorem dL_law_1070 : decode cL_law 1070 = .ok (.iconst 0, 1) := by decide +kernel
theorem dL_law_1071 : decode cL_law 1071 = .ok (.ireturn, 1) := by decide +kernel
theorem dL_law_1072 : decode cL_law 1072 = .ok (.aload_n 1, 1) := by decide +kernel
theorem dL_law_1073 : decode cL_law 1073 = .ok (.aload_n 0, 1) := by decide +kernel
theorem dL_law_1074 : decode cL_law 1074 = .ok (.iload_n 3, 1) := by decide +kernel
theorem dL_law_1075 : decode cL_law 1075 = .ok (.iconst 1, 1) := by decide +kernel
theorem dL_law_1076 : decode cL_law 1076 = .ok (.iadd, 1) := by decide +kernel
theorem dL_law_1077 : decode cL_law 1077 = .ok (.iaload, 1) := by decide +kernel
theorem dL_law_1078 : decode cL_law 1078 = .ok (.invokevirtual 133, 3) := by decide +kernel
theorem dL_law_1081 : decode cL_law 1081 = .ok (.aload_n 2, 1) := by decide +kernel
theorem dL_law_1082 : decode cL_law 1082 = .ok (.aload_n 0, 1) := by decide +kernel
theorem dL_law_1083 : decode cL_law 1083 = .ok (.iload_n 3, 1) := by decide +kernel
theorem dL_law_1084 : decode cL_law 1084 = .ok (.iconst 1, 1) := by decide +kernel
theorem dL_law_1085 : decode cL_law 1085 = .ok (.iadd, 1) := by decide +kernel
theorem dL_law_1086 : decode cL_law 1086 = .ok (.iaload, 1) := by decide +kernel
theorem dL_law_1087 : decode cL_law 1087 = .ok (.invokevirtual 136, 3) := by decide +kernel
theorem dL_law_1090 : decode cL_law 1090 = .ok (.if_icmp .eq 308, 3) := by decide +kernel
theorem dL_law_1093 : decode cL_law 1093 = .ok (.iconst 0, 1) := by decide +kernel
theorem dL_law_1094 : decode cL_law 1094 = .ok (.ireturn, 1) := by decide +kernel
theorem dL_law_1095 : decode cL_law 1095 = .ok (.aload_n 1, 1) := by decide +kernel
theorem dL_law_1096 : decode cL_law 1096 = .ok (.aload_n 0, 1) := by decide +kernel
theorem dL_law_1097 : decode cL_law 1097 = .ok (.iload_n 3, 1) := by decide +kernel
theorem dL_law_1098 : decode cL_law 1098 = .ok (.iconst 1, 1) := by decide +kernel
theorem dL_law_1099 : decode cL_law 1099 = .ok (.iadd, 1) := by decide +kernel
theorem dL_law_1100 : decode cL_law 1100 = .ok (.iaload, 1) := by decide +kernel
theorem dL_law_1101 : decode cL_law 1101 = .ok (.aload_n 0, 1) := by decide +kernel
theorem dL_law_1102 : decode cL_law 1102 = .ok (.iload_n 3, 1) := by decide +kernel
theorem dL_law_1103 : decode cL_law 1103 = .ok (.iconst 2, 1) := by decide +kernel
theorem dL_law_1104 : decode cL_law 1104 = .ok (.iadd, 1) := by decide +kernel
theorem dL_law_1105 : decode cL_law 1105 = .ok (.iaload, 1) := by decide +kernel
theorem dL_law_1106 : decode cL_law 1106 = .ok (.aload_n 0, 1) := by decide +kernel
theorem dL_law_1107 : decode cL_law 1107 = .ok (.iload_n 3, 1) := by decide +kernel
theorem dL_law_1108 : decode cL_law 1108 = .ok (.iconst 3, 1) := by decide +kernel
theorem dL_law_1109 : decode cL_law 1109 = .ok (.iadd, 1) := by decide +kernel
theorem dL_law_1110 : decode cL_law 1110 = .ok (.iaload, 1) := by decide +kernel
theorem dL_law_1111 : decode cL_law 1111 = .ok (.invokevirtual 137, 3) := by decide +kernel
theorem dL_law_1114 : decode cL_law 1114 = .ok (.aload_n 2, 1) := by decide +kernel
theorem dL_law_1115 : decode cL_law 1115 = .ok (.aload_n 0, 1) := by decide +kernel
theorem dL_law_1116 : decode cL_law 1116 = .ok (.iload_n 3, 1) := by decide +kernel
theorem dL_law_1117 : decode cL_law 1117 = .ok (.iconst 1, 1) := by decide +kernel
theorem dL_law_1118 : decode cL_law 1118 = .ok (.iadd, 1) := by decide +kernel
theorem dL_law_1119 : decode cL_law 1119 = .ok (.iaload, 1) := by decide +kernel
theorem dL_law_1120 : decode cL_law 1120 = .ok (.aload_n 0, 1) := by decide +kernel
theorem dL_law_1121 : decode cL_law 1121 = .ok (.iload_n 3, 1) := by decide +kernel
theorem dL_law_1122 : decode cL_law 1122 = .ok (.iconst 2, 1) := by decide +kernel
theorem dL_law_1123 : decode cL_law 1123 = .ok (.iadd, 1) := by decide +kernel
theorem dL_law_1124 : decode cL_law 1124 = .ok (.iaload, 1) := by decide +kernel
theorem dL_law_1125 : decode cL_law 1125 = .ok (.aload_n 0, 1) := by decide +kernel
theorem dL_law_1126 : decode cL_law 1126 = .ok (.iload_n 3, 1) := by decide +kernel
theorem dL_law_1127 : decode cL_law 1127 = .ok (.iconst 3, 1) := by decide +kernel
theorem dL_law_1128 : decode cL_law 1128 = .ok (.iadd, 1) := by decide +kernel
theorem dL_law_1129 : decode cL_law 1129 = .ok (.iaload, 1) := by decide +kernel
theorem dL_law_1130 : decode cL_law 1130 = .ok (.invokevirtual 140, 3) := by decide +kernel
theorem dL_law_1133 : decode cL_law 1133 = .ok (.if_icmp .eq 265, 3) := by decide +kernel
theorem dL_law_1136 : decode cL_law 1136 = .ok (.iconst 0, 1) := by decide +kernel
theorem dL_law_1137 : decode cL_law 1137 = .ok (.ireturn, 1) := by decide +kernel
theorem dL_law_1138 : decode cL_law 1138 = .ok (.aload_n 1, 1) := by decide +kernel
theorem dL_law_1139 : decode cL_law 1139 = .ok (.aload_n 0, 1) := by decide +kernel
theorem dL_law_1140 : decode cL_law 1140 = .ok (.iload_n 3, 1) := by decide +kernel
theorem dL_law_1141 : decode cL_law 1141 = .ok (.iconst 1, 1) := by decide +kernel
theorem dL_law_1142 : decode cL_law 1142 = .ok (.iadd, 1) := by decide +kernel
theorem dL_law_1143 : decode cL_law 1143 = .ok (.iaload, 1) := by decide +kernel
theorem dL_law_1144 : decode cL_law 1144 = .ok (.aload_n 0, 1) := by decide +kernel
theorem dL_law_1145 : decode cL_law 1145 = .ok (.iload_n 3, 1) := by decide +kernel
theorem dL_law_1146 : decode cL_law 1146 = .ok (.iconst 2, 1) := by decide +kernel
theorem dL_law_1147 : decode cL_law 1147 = .ok (.iadd, 1) := by decide +kernel
theorem dL_law_1148 : decode cL_law 1148 = .ok (.iaload, 1) := by decide +kernel
theorem dL_law_1149 : decode cL_law 1149 = .ok (.aload_n 0, 1) := by decide +kernel
theorem dL_law_1150 : decode cL_law 1150 = .ok (.iload_n 3, 1) := by decide +kernel
theorem dL_law_1151 : decode cL_law 1151 = .ok (.iconst 3, 1) := by decide +kernel
theorem dL_law_1152 : decode cL_law 1152 = .ok (.iadd, 1) := by decide +kernel
theorem dL_law_1153 : decode cL_law 1153 = .ok (.iaload, 1) := by decide +kernel
theorem dL_law_1154 : decode cL_law 1154 = .ok (.invokevirtual 141, 3) := by decide +kernel
theorem dL_law_1157 : decode cL_law 1157 = .ok (.aload_n 2, 1) := by decide +kernel
theorem dL_law_1158 : decode cL_law 1158 = .ok (.aload_n 0, 1) := by decide +kernel
theorem dL_law_1159 : decode cL_law 1159 = .ok (.iload_n 3, 1) := by decide +kernel
theorem dL_law_1160 : decode cL_law 1160 = .ok (.iconst 1, 1) := by decide +kernel
theorem dL_law_1161 : decode cL_law 1161 = .ok (.iadd, 1) := by decide +kernel
theorem dL_law_1162 : decode cL_law 1162 = .ok (.iaload, 1) := by decide +kernel
theorem dL_law_1163 : decode cL_law 1163 = .ok (.aload_n 0, 1) := by decide +kernel
theorem dL_law_1164 : decode cL_law 1164 = .ok (.iload_n 3, 1) := by decide +kernel
theorem dL_law_1165 : decode cL_law 1165 = .ok (.iconst 2, 1) := by decide +kernel
theorem dL_law_1166 : decode cL_law 1166 = .ok (.iadd, 1) := by decide +kernel
theorem dL_law_1167 : decode cL_law 1167 = .ok (.iaload, 1) := by decide +kernel
theorem dL_law_1168 : decode cL_law 1168 = .ok (.aload_n 0, 1) := by decide +kernel
theorem dL_law_1169 : decode cL_law 1169 = .ok (.iload_n 3, 1) := by decide +kernel
theorem dL_law_1170 : decode cL_law 1170 = .ok (.iconst 3, 1) := by decide +kernel
theorem dL_law_1171 : decode cL_law 1171 = .ok (.iadd, 1) := by decide +kernel
theorem dL_law_1172 : decode cL_law 1172 = .ok (.iaload, 1) := by decide +kernel
theorem dL_law_1173 : decode cL_law 1173 = .ok (.invokevirtual 144, 3) := by decide +kernel
theorem dL_law_1176 : decode cL_law 1176 = .ok (.if_icmp .eq 222, 3) := by decide +kernel
theorem dL_law_1179 : decode cL_law 1179 = .ok (.iconst 0, 1) := by decide +kernel
theorem dL_law_1180 : decode cL_law 1180 = .ok (.ireturn, 1) := by decide +kernel
theorem dL_law_1181 : decode cL_law 1181 = .ok (.aload_n 1, 1) := by decide +kernel
theorem dL_law_1182 : decode cL_law 1182 = .ok (.aload_n 0, 1) := by decide +kernel
theorem dL_law_1183 : decode cL_law 1183 = .ok (.iload_n 3, 1) := by decide +kernel
theorem dL_law_1184 : decode cL_law 1184 = .ok (.iconst 1, 1) := by decide +kernel
theorem dL_law_1185 : decode cL_law 1185 = .ok (.iadd, 1) := by decide +kernel
theorem dL_law_1186 : decode cL_law 1186 = .ok (.iaload, 1) := by decide +kernel
theorem dL_law_1187 : decode cL_law 1187 = .ok (.aload_n 0, 1) := by decide +kernel
theorem dL_law_1188 : decode cL_law 1188 = .ok (.iload_n 3, 1) := by decide +kernel
theorem dL_law_1189 : decode cL_law 1189 = .ok (.iconst 2, 1) := by decide +kernel
theorem dL_law_1190 : decode cL_law 1190 = .ok (.iadd, 1) := by decide +kernel
theorem dL_law_1191 : decode cL_law 1191 = .ok (.iaload, 1) := by decide +kernel
theorem dL_law_1192 : decode cL_law 1192 = .ok (.aload_n 0, 1) := by decide +kernel
theorem dL_law_1193 : decode cL_law 1193 = .ok (.iload_n 3, 1) := by decide +kernel
theorem dL_law_1194 : decode cL_law 1194 = .ok (.iconst 3, 1) := by decide +kernel
theorem dL_law_1195 : decode cL_law 1195 = .ok (.iadd, 1) := by decide +kernel
theorem dL_law_1196 : decode cL_law 1196 = .ok (.iaload, 1) := by decide +kernel
theorem dL_law_1197 : decode cL_law 1197 = .ok (.aload_n 0, 1) := by decide +kernel
theorem dL_law_1198 : decode cL_law 1198 = .ok (.iload_n 3, 1) := by decide +kernel
theorem dL_law_1199 : decode cL_law 1199 = .ok (.iconst 4, 1) := by decide +kernel
theorem dL_law_1200 : decode cL_law 1200 = .ok (.iadd, 1) := by decide +kernel
theorem dL_law_1201 : decode cL_law 1201 = .ok (.iaload, 1) := by decide +kernel
theorem dL_law_1202 : decode cL_law 1202 = .ok (.aload_n 0, 1) := by decide +kernel
theorem dL_law_1203 : decode cL_law 1203 = .ok (.iload_n 3, 1) := by decide +kernel
theorem dL_law_1204 : decode cL_law 1204 = .ok (.iconst 5, 1) := by decide +kernel
theorem dL_law_1205 : decode cL_law 1205 = .ok (.iadd, 1) := by decide +kernel
theorem dL_law_1206 : decode cL_law 1206 = .ok (.iaload, 1) := by decide +kernel
theorem dL_law_1207 : decode cL_law 1207 = .ok (.invokevirtual 145, 3) := by decide +kernel
theorem dL_law_1210 : decode cL_law 1210 = .ok (.aload_n 2, 1) := by decide +kernel
theorem dL_law_1211 : decode cL_law 1211 = .ok (.aload_n 0, 1) := by decide +kernel
theorem dL_law_1212 : decode cL_law 1212 = .ok (.iload_n 3, 1) := by decide +kernel
theorem dL_law_1213 : decode cL_law 1213 = .ok (.iconst 1, 1) := by decide +kernel
theorem dL_law_1214 : decode cL_law 1214 = .ok (.iadd, 1) := by decide +kernel
theorem dL_law_1215 : decode cL_law 1215 = .ok (.iaload, 1) := by decide +kernel
theorem dL_law_1216 : decode cL_law 1216 = .ok (.aload_n 0, 1) := by decide +kernel
theorem dL_law_1217 : decode cL_law 1217 = .ok (.iload_n 3, 1) := by decide +kernel
theorem dL_law_1218 : decode cL_law 1218 = .ok (.iconst 2, 1) := by decide +kernel
theorem dL_law_1219 : decode cL_law 1219 = .ok (.iadd, 1) := by decide +kernel
theorem dL_law_1220 : decode cL_law 1220 = .ok (.iaload, 1) := by decide +kernel
theorem dL_law_1221 : decode cL_law 1221 = .ok (.aload_n 0, 1) := by decide +kernel
theorem dL_law_1222 : decode cL_law 1222 = .ok (.iload_n 3, 1) := by decide +kernel
theorem dL_law_1223 : decode cL_law 1223 = .ok (.iconst 3, 1) := by decide +kernel
theorem dL_law_1224 : decode cL_law 1224 = .ok (.iadd, 1) := by decide +kernel
theorem dL_law_1225 : decode cL_law 1225 = .ok (.iaload, 1) := by decide +kernel
theorem dL_law_1226 : decode cL_law 1226 = .ok (.aload_n 0, 1) := by decide +kernel
theorem dL_law_1227 : decode cL_law 1227 = .ok (.iload_n 3, 1) := by decide +kernel
theorem dL_law_1228 : decode cL_law 1228 = .ok (.iconst 4, 1) := by decide +kernel
theorem dL_law_1229 : decode cL_law 1229 = .ok (.iadd, 1) := by decide +kernel
theorem dL_law_1230 : decode cL_law 1230 = .ok (.iaload, 1) := by decide +kernel
theorem dL_law_1231 : decode cL_law 1231 = .ok (.aload_n 0, 1) := by decide +kernel
theorem dL_law_1232 : decode cL_law 1232 = .ok (.iload_n 3, 1) := by decide +kernel
theorem dL_law_1233 : decode cL_law 1233 = .ok (.iconst 5, 1) := by decide +kernel
theorem dL_law_1234 : decode cL_law 1234 = .ok (.iadd, 1) := by decide +kernel
theorem dL_law_1235 : decode cL_law 1235 = .ok (.iaload, 1) := by decide +kernel
theorem dL_law_1236 : decode cL_law 1236 = .ok (.invokevirtual 149, 3) := by decide +kernel
theorem dL_law_1239 : decode cL_law 1239 = .ok (.if_icmp .eq 159, 3) := by decide +kernel
theorem dL_law_1242 : decode cL_law 1242 = .ok (.iconst 0, 1) := by decide +kernel
theorem dL_law_1243 : decode cL_law 1243 = .ok (.ireturn, 1) := by decide +kernel
theorem dL_law_1244 : decode cL_law 1244 = .ok (.aload_n 1, 1) := by decide +kernel
theorem dL_law_1245 : decode cL_law 1245 = .ok (.aload_n 0, 1) := by decide +kernel
theorem dL_law_1246 : decode cL_law 1246 = .ok (.iload_n 3, 1) := by decide +kernel
theorem dL_law_1247 : decode cL_law 1247 = .ok (.iconst 1, 1) := by decide +kernel
theorem dL_law_1248 : decode cL_law 1248 = .ok (.iadd, 1) := by decide +kernel
theorem dL_law_1249 : decode cL_law 1249 = .ok (.iaload, 1) := by decide +kernel
theorem dL_law_1250 : decode cL_law 1250 = .ok (.invokevirtual 150, 3) := by decide +kernel
theorem dL_law_1253 : decode cL_law 1253 = .ok (.aload_n 2, 1) := by decide +kernel
theorem dL_law_1254 : decode cL_law 1254 = .ok (.aload_n 0, 1) := by decide +kernel
theorem dL_law_1255 : decode cL_law 1255 = .ok (.iload_n 3, 1) := by decide +kernel
theorem dL_law_1256 : decode cL_law 1256 = .ok (.iconst 1, 1) := by decide +kernel
theorem dL_law_1257 : decode cL_law 1257 = .ok (.iadd, 1) := by decide +kernel
theorem dL_law_1258 : decode cL_law 1258 = .ok (.iaload, 1) := by decide +kernel
theorem dL_law_1259 : decode cL_law 1259 = .ok (.invokevirtual 153, 3) := by decide +kernel
theorem dL_law_1262 : decode cL_law 1262 = .ok (.if_icmp .eq 136, 3) := by decide +kernel
theorem dL_law_1265 : decode cL_law 1265 = .ok (.iconst 0, 1) := by decide +kernel
theorem dL_law_1266 : decode cL_law 1266 = .ok (.ireturn, 1) := by decide +kernel
theorem dL_law_1267 : decode cL_law 1267 = .ok (.aload_n 1, 1) := by decide +kernel
theorem dL_law_1268 : decode cL_law 1268 = .ok (.aload_n 0, 1) := by decide +kernel
theorem dL_law_1269 : decode cL_law 1269 = .ok (.iload_n 3, 1) := by decide +kernel
theorem dL_law_1270 : decode cL_law 1270 = .ok (.iconst 1, 1) := by decide +kernel
theorem dL_law_1271 : decode cL_law 1271 = .ok (.iadd, 1) := by decide +kernel
theorem dL_law_1272 : decode cL_law 1272 = .ok (.iaload, 1) := by decide +kernel
theorem dL_law_1273 : decode cL_law 1273 = .ok (.invokevirtual 154, 3) := by decide +kernel
theorem dL_law_1276 : decode cL_law 1276 = .ok (.aload_n 2, 1) := by decide +kernel
theorem dL_law_1277 : decode cL_law 1277 = .ok (.aload_n 0, 1) := by decide +kernel
theorem dL_law_1278 : decode cL_law 1278 = .ok (.iload_n 3, 1) := by decide +kernel
theorem dL_law_1279 : decode cL_law 1279 = .ok (.iconst 1, 1) := by decide +kernel
theorem dL_law_1280 : decode cL_law 1280 = .ok (.iadd, 1) := by decide +kernel
theorem dL_law_1281 : decode cL_law 1281 = .ok (.iaload, 1) := by decide +kernel
theorem dL_law_1282 : decode cL_law 1282 = .ok (.invokevirtual 157, 3) := by decide +kernel
theorem dL_law_1285 : decode cL_law 1285 = .ok (.if_icmp .eq 113, 3) := by decide +kernel
theorem dL_law_1288 : decode cL_law 1288 = .ok (.iconst 0, 1) := by decide +kernel
theorem dL_law_1289 : decode cL_law 1289 = .ok (.ireturn, 1) := by decide +kernel
theorem dL_law_1290 : decode cL_law 1290 = .ok (.aload_n 1, 1) := by decide +kernel
theorem dL_law_1291 : decode cL_law 1291 = .ok (.invokevirtual 158, 3) := by decide +kernel
theorem dL_law_1294 : decode cL_law 1294 = .ok (.aload_n 2, 1) := by decide +kernel
theorem dL_law_1295 : decode cL_law 1295 = .ok (.invokevirtual 161, 3) := by decide +kernel
theorem dL_law_1298 : decode cL_law 1298 = .ok (.if_icmp .eq 100, 3) := by decide +kernel
theorem dL_law_1301 : decode cL_law 1301 = .ok (.iconst 0, 1) := by decide +kernel
theorem dL_law_1302 : decode cL_law 1302 = .ok (.ireturn, 1) := by decide +kernel
theorem dL_law_1303 : decode cL_law 1303 = .ok (.aload_n 1, 1) := by decide +kernel
theorem dL_law_1304 : decode cL_law 1304 = .ok (.invokevirtual 162, 3) := by decide +kernel
theorem dL_law_1307 : decode cL_law 1307 = .ok (.aload_n 2, 1) := by decide +kernel
theorem dL_law_1308 : decode cL_law 1308 = .ok (.invokevirtual 165, 3) := by decide +kernel
theorem dL_law_1311 : decode cL_law 1311 = .ok (.if_icmp .eq 87, 3) := by decide +kernel
theorem dL_law_1314 : decode cL_law 1314 = .ok (.iconst 0, 1) := by decide +kernel
theorem dL_law_1315 : decode cL_law 1315 = .ok (.ireturn, 1) := by decide +kernel
theorem dL_law_1316 : decode cL_law 1316 = .ok (.aload_n 1, 1) := by decide +kernel
theorem dL_law_1317 : decode cL_law 1317 = .ok (.aload_n 0, 1) := by decide +kernel
theorem dL_law_1318 : decode cL_law 1318 = .ok (.iload_n 3, 1) := by decide +kernel
theorem dL_law_1319 : decode cL_law 1319 = .ok (.iconst 1, 1) := by decide +kernel
theorem dL_law_1320 : decode cL_law 1320 = .ok (.iadd, 1) := by decide +kernel
theorem dL_law_1321 : decode cL_law 1321 = .ok (.iaload, 1) := by decide +kernel
theorem dL_law_1322 : decode cL_law 1322 = .ok (.invokevirtual 166, 3) := by decide +kernel
theorem dL_law_1325 : decode cL_law 1325 = .ok (.aload_n 2, 1) := by decide +kernel
theorem dL_law_1326 : decode cL_law 1326 = .ok (.aload_n 0, 1) := by decide +kernel
theorem dL_law_1327 : decode cL_law 1327 = .ok (.iload_n 3, 1) := by decide +kernel
theorem dL_law_1328 : decode cL_law 1328 = .ok (.iconst 1, 1) := by decide +kernel
theorem dL_law_1329 : decode cL_law 1329 = .ok (.iadd, 1) := by decide +kernel
theorem dL_law_1330 : decode cL_law 1330 = .ok (.iaload, 1) := by decide +kernel
theorem dL_law_1331 : decode cL_law 1331 = .ok (.invokevirtual 169, 3) := by decide +kernel
theorem dL_law_1334 : decode cL_law 1334 = .ok (.if_icmp .eq 64, 3) := by decide +kernel
theorem dL_law_1337 : decode cL_law 1337 = .ok (.iconst 0, 1) := by decide +kernel
theorem dL_law_1338 : decode cL_law 1338 = .ok (.ireturn, 1) := by decide +kernel
theorem dL_law_1339 : decode cL_law 1339 = .ok (.aload_n 1, 1) := by decide +kernel
theorem dL_law_1340 : decode cL_law 1340 = .ok (.invokevirtual 170, 3) := by decide +kernel
theorem dL_law_1343 : decode cL_law 1343 = .ok (.aload_n 2, 1) := by decide +kernel
theorem dL_law_1344 : decode cL_law 1344 = .ok (.invokevirtual 173, 3) := by decide +kernel
theorem dL_law_1347 : decode cL_law 1347 = .ok (.if_icmp .eq 51, 3) := by decide +kernel
theorem dL_law_1350 : decode cL_law 1350 = .ok (.iconst 0, 1) := by decide +kernel
theorem dL_law_1351 : decode cL_law 1351 = .ok (.ireturn, 1) := by decide +kernel
theorem dL_law_1352 : decode cL_law 1352 = .ok (.aload_n 1, 1) := by decide +kernel
theorem dL_law_1353 : decode cL_law 1353 = .ok (.aload_n 0, 1) := by decide +kernel
theorem dL_law_1354 : decode cL_law 1354 = .ok (.iload_n 3, 1) := by decide +kernel
theorem dL_law_1355 : decode cL_law 1355 = .ok (.iconst 1, 1) := by decide +kernel
theorem dL_law_1356 : decode cL_law 1356 = .ok (.iadd, 1) := by decide +kernel
theorem dL_law_1357 : decode cL_law 1357 = .ok (.iaload, 1) := by decide +kernel
theorem dL_law_1358 : decode cL_law 1358 = .ok (.invokevirtual 174, 3) := by decide +kernel
theorem dL_law_1361 : decode cL_law 1361 = .ok (.aload_n 2, 1) := by decide +kernel
theorem dL_law_1362 : decode cL_law 1362 = .ok (.aload_n 0, 1) := by decide +kernel
theorem dL_law_1363 : decode cL_law 1363 = .ok (.iload_n 3, 1) := by decide +kernel
theorem dL_law_1364 : decode cL_law 1364 = .ok (.iconst 1, 1) := by decide +kernel
theorem dL_law_1365 : decode cL_law 1365 = .ok (.iadd, 1) := by decide +kernel
theorem dL_law_1366 : decode cL_law 1366 = .ok (.iaload, 1) := by decide +kernel
theorem dL_law_1367 : decode cL_law 1367 = .ok (.invokevirtual 177, 3) := by decide +kernel
theorem dL_law_1370 : decode cL_law 1370 = .ok (.if_icmp .eq 28, 3) := by decide +kernel
theorem dL_law_1373 : decode cL_law 1373 = .ok (.iconst 0, 1) := by decide +kernel
theorem dL_law_1374 : decode cL_law 1374 = .ok (.ireturn, 1) := by decide +kernel
theorem dL_law_1375 : decode cL_law 1375 = .ok (.aload_n 1, 1) := by decide +kernel
theorem dL_law_1376 : decode cL_law 1376 = .ok (.aload_n 0, 1) := by decide +kernel
theorem dL_law_1377 : decode cL_law 1377 = .ok (.iload_n 3, 1) := by decide +kernel
theorem dL_law_1378 : decode cL_law 1378 = .ok (.iconst 1, 1) := by decide +kernel
theorem dL_law_1379 : decode cL_law 1379 = .ok (.iadd, 1) := by decide +kernel
theorem dL_law_1380 : decode cL_law 1380 = .ok (.iaload, 1) := by decide +kernel
theorem dL_law_1381 : decode cL_law 1381 = .ok (.invokevirtual 178, 3) := by decide +kernel
theorem dL_law_1384 : decode cL_law 1384 = .ok (.aload_n 2, 1) := by decide +kernel
theorem dL_law_1385 : decode cL_law 1385 = .ok (.aload_n 0, 1) := by decide +kernel
theorem dL_law_1386 : decode cL_law 1386 = .ok (.iload_n 3, 1) := by decide +kernel
theorem dL_law_1387 : decode cL_law 1387 = .ok (.iconst 1, 1) := by decide +kernel
theorem dL_law_1388 : decode cL_law 1388 = .ok (.iadd, 1) := by decide +kernel
theorem dL_law_1389 : decode cL_law 1389 = .ok (.iaload, 1) := by decide +kernel
theorem dL_law_1390 : decode cL_law 1390 = .ok (.invokevirtual 181, 3) := by decide +kernel
theorem dL_law_1393 : decode cL_law 1393 = .ok (.if_icmp .eq 5, 3) := by decide +kernel
theorem dL_law_1396 : decode cL_law 1396 = .ok (.iconst 0, 1) := by decide +kernel
theorem dL_law_1397 : decode cL_law 1397 = .ok (.ireturn, 1) := by decide +kernel
theorem dL_law_1398 : decode cL_law 1398 = .ok (.iinc 3 6, 3) := by decide +kernel
theorem dL_law_1401 : decode cL_law 1401 = .ok (.goto (-1383), 3) := by decide +kernel
theorem dL_law_1404 : decode cL_law 1404 = .ok (.iconst 1, 1) := by decide +kernel
theorem dL_law_1405 : decode cL_law 1405 = .ok (.ireturn, 1) := by decide +kernel
