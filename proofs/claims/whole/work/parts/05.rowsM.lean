theorem dX12_init_0 : decode cX12_init 0 = .ok (.aload_n 0, 1) := by decide +kernel
theorem dX12_init_1 : decode cX12_init 1 = .ok (.invokespecial 1, 3) := by decide +kernel
theorem dX12_init_4 : decode cX12_init 4 = .ok (.aload_n 0, 1) := by decide +kernel
theorem dX12_init_5 : decode cX12_init 5 = .ok (.sipush 206, 3) := by decide +kernel
theorem dX12_init_8 : decode cX12_init 8 = .ok (.newarray .int, 2) := by decide +kernel
theorem dX12_init_10 : decode cX12_init 10 = .ok (.putfield 7, 3) := by decide +kernel
theorem dX12_init_13 : decode cX12_init 13 = .ok (.aload_n 0, 1) := by decide +kernel
theorem dX12_init_14 : decode cX12_init 14 = .ok (.sipush 206, 3) := by decide +kernel
theorem dX12_init_17 : decode cX12_init 17 = .ok (.newarray .int, 2) := by decide +kernel
theorem dX12_init_19 : decode cX12_init 19 = .ok (.putfield 13, 3) := by decide +kernel
theorem dX12_init_22 : decode cX12_init 22 = .ok (.aload_n 0, 1) := by decide +kernel
theorem dX12_init_23 : decode cX12_init 23 = .ok (.sipush 206, 3) := by decide +kernel
theorem dX12_init_26 : decode cX12_init 26 = .ok (.newarray .int, 2) := by decide +kernel
theorem dX12_init_28 : decode cX12_init 28 = .ok (.putfield 16, 3) := by decide +kernel
theorem dX12_init_31 : decode cX12_init 31 = .ok (.aload_n 0, 1) := by decide +kernel
theorem dX12_init_32 : decode cX12_init 32 = .ok (.sipush 206, 3) := by decide +kernel
theorem dX12_init_35 : decode cX12_init 35 = .ok (.newarray .int, 2) := by decide +kernel
theorem dX12_init_37 : decode cX12_init 37 = .ok (.putfield 19, 3) := by decide +kernel
theorem dX12_init_40 : decode cX12_init 40 = .ok (.aload_n 0, 1) := by decide +kernel
theorem dX12_init_41 : decode cX12_init 41 = .ok (.bipush 8, 2) := by decide +kernel
theorem dX12_init_43 : decode cX12_init 43 = .ok (.newarray .int, 2) := by decide +kernel
theorem dX12_init_45 : decode cX12_init 45 = .ok (.dup, 1) := by decide +kernel
theorem dX12_init_46 : decode cX12_init 46 = .ok (.iconst 0, 1) := by decide +kernel
theorem dX12_init_47 : decode cX12_init 47 = .ok (.iconst 1, 1) := by decide +kernel
theorem dX12_init_48 : decode cX12_init 48 = .ok (.iastore, 1) := by decide +kernel
theorem dX12_init_49 : decode cX12_init 49 = .ok (.dup, 1) := by decide +kernel
theorem dX12_init_50 : decode cX12_init 50 = .ok (.iconst 1, 1) := by decide +kernel
theorem dX12_init_51 : decode cX12_init 51 = .ok (.iconst 3, 1) := by decide +kernel
theorem dX12_init_52 : decode cX12_init 52 = .ok (.iastore, 1) := by decide +kernel
theorem dX12_init_53 : decode cX12_init 53 = .ok (.dup, 1) := by decide +kernel
theorem dX12_init_54 : decode cX12_init 54 = .ok (.iconst 2, 1) := by decide +kernel
theorem dX12_init_55 : decode cX12_init 55 = .ok (.bipush 9, 2) := by decide +kernel
theorem dX12_init_57 : decode cX12_init 57 = .ok (.iastore, 1) := by decide +kernel
theorem dX12_init_58 : decode cX12_init 58 = .ok (.dup, 1) := by decide +kernel
theorem dX12_init_59 : decode cX12_init 59 = .ok (.iconst 3, 1) := by decide +kernel
theorem dX12_init_60 : decode cX12_init 60 = .ok (.bipush 27, 2) := by decide +kernel
theorem dX12_init_62 : decode cX12_init 62 = .ok (.iastore, 1) := by decide +kernel
theorem dX12_init_63 : decode cX12_init 63 = .ok (.dup, 1) := by decide +kernel
theorem dX12_init_64 : decode cX12_init 64 = .ok (.iconst 4, 1) := by decide +kernel
theorem dX12_init_65 : decode cX12_init 65 = .ok (.bipush 81, 2) := by decide +kernel
theorem dX12_init_67 : decode cX12_init 67 = .ok (.iastore, 1) := by decide +kernel
theorem dX12_init_68 : decode cX12_init 68 = .ok (.dup, 1) := by decide +kernel
theorem dX12_init_69 : decode cX12_init 69 = .ok (.iconst 5, 1) := by decide +kernel
theorem dX12_init_70 : decode cX12_init 70 = .ok (.sipush 243, 3) := by decide +kernel
theorem dX12_init_73 : decode cX12_init 73 = .ok (.iastore, 1) := by decide +kernel
theorem dX12_init_74 : decode cX12_init 74 = .ok (.dup, 1) := by decide +kernel
theorem dX12_init_75 : decode cX12_init 75 = .ok (.bipush 6, 2) := by decide +kernel
theorem dX12_init_77 : decode cX12_init 77 = .ok (.sipush 729, 3) := by decide +kernel
theorem dX12_init_80 : decode cX12_init 80 = .ok (.iastore, 1) := by decide +kernel
theorem dX12_init_81 : decode cX12_init 81 = .ok (.dup, 1) := by decide +kernel
theorem dX12_init_82 : decode cX12_init 82 = .ok (.bipush 7, 2) := by decide +kernel
theorem dX12_init_84 : decode cX12_init 84 = .ok (.sipush 2187, 3) := by decide +kernel
theorem dX12_init_87 : decode cX12_init 87 = .ok (.iastore, 1) := by decide +kernel
theorem dX12_init_88 : decode cX12_init 88 = .ok (.putfield 22, 3) := by decide +kernel
theorem dX12_init_91 : decode cX12_init 91 = .ok (.aload_n 0, 1) := by decide +kernel
theorem dX12_init_92 : decode cX12_init 92 = .ok (.bipush 6, 2) := by decide +kernel
theorem dX12_init_94 : decode cX12_init 94 = .ok (.newarray .int, 2) := by decide +kernel
theorem dX12_init_96 : decode cX12_init 96 = .ok (.putfield 25, 3) := by decide +kernel
theorem dX12_init_99 : decode cX12_init 99 = .ok (.aload_n 0, 1) := by decide +kernel
theorem dX12_init_100 : decode cX12_init 100 = .ok (.iconst 4, 1) := by decide +kernel
theorem dX12_init_101 : decode cX12_init 101 = .ok (.newarray .int, 2) := by decide +kernel
theorem dX12_init_103 : decode cX12_init 103 = .ok (.putfield 28, 3) := by decide +kernel
theorem dX12_init_106 : decode cX12_init 106 = .ok (.aload_n 0, 1) := by decide +kernel
theorem dX12_init_107 : decode cX12_init 107 = .ok (.iconst 4, 1) := by decide +kernel
theorem dX12_init_108 : decode cX12_init 108 = .ok (.newarray .int, 2) := by decide +kernel
theorem dX12_init_110 : decode cX12_init 110 = .ok (.putfield 31, 3) := by decide +kernel
theorem dX12_init_113 : decode cX12_init 113 = .ok (.aload_n 0, 1) := by decide +kernel
theorem dX12_init_114 : decode cX12_init 114 = .ok (.sipush 160, 3) := by decide +kernel
theorem dX12_init_117 : decode cX12_init 117 = .ok (.newarray .int, 2) := by decide +kernel
theorem dX12_init_119 : decode cX12_init 119 = .ok (.putfield 34, 3) := by decide +kernel
theorem dX12_init_122 : decode cX12_init 122 = .ok (.aload_n 0, 1) := by decide +kernel
theorem dX12_init_123 : decode cX12_init 123 = .ok (.bipush 40, 2) := by decide +kernel
theorem dX12_init_125 : decode cX12_init 125 = .ok (.newarray .int, 2) := by decide +kernel
theorem dX12_init_127 : decode cX12_init 127 = .ok (.putfield 37, 3) := by decide +kernel
theorem dX12_init_130 : decode cX12_init 130 = .ok (.aload_n 0, 1) := by decide +kernel
theorem dX12_init_131 : decode cX12_init 131 = .ok (.bipush 8, 2) := by decide +kernel
theorem dX12_init_133 : decode cX12_init 133 = .ok (.newarray .int, 2) := by decide +kernel
theorem dX12_init_135 : decode cX12_init 135 = .ok (.putfield 40, 3) := by decide +kernel
theorem dX12_init_138 : decode cX12_init 138 = .ok (.aload_n 0, 1) := by decide +kernel
theorem dX12_init_139 : decode cX12_init 139 = .ok (.bipush 40, 2) := by decide +kernel
theorem dX12_init_141 : decode cX12_init 141 = .ok (.newarray .int, 2) := by decide +kernel
theorem dX12_init_143 : decode cX12_init 143 = .ok (.putfield 43, 3) := by decide +kernel
theorem dX12_init_146 : decode cX12_init 146 = .ok (.aload_n 0, 1) := by decide +kernel
theorem dX12_init_147 : decode cX12_init 147 = .ok (.getfield 7, 3) := by decide +kernel
theorem dX12_init_150 : decode cX12_init 150 = .ok (.iconst 2, 1) := by decide +kernel
theorem dX12_init_151 : decode cX12_init 151 = .ok (.iconst 1, 1) := by decide +kernel
theorem dX12_init_152 : decode cX12_init 152 = .ok (.iastore, 1) := by decide +kernel
theorem dX12_init_153 : decode cX12_init 153 = .ok (.aload_n 0, 1) := by decide +kernel
theorem dX12_init_154 : decode cX12_init 154 = .ok (.getfield 7, 3) := by decide +kernel
theorem dX12_init_157 : decode cX12_init 157 = .ok (.bipush 6, 2) := by decide +kernel
theorem dX12_init_159 : decode cX12_init 159 = .ok (.iconst (-1), 1) := by decide +kernel
theorem dX12_init_160 : decode cX12_init 160 = .ok (.iastore, 1) := by decide +kernel
theorem dX12_init_161 : decode cX12_init 161 = .ok (.aload_n 0, 1) := by decide +kernel
theorem dX12_init_162 : decode cX12_init 162 = .ok (.getfield 7, 3) := by decide +kernel
theorem dX12_init_165 : decode cX12_init 165 = .ok (.bipush 7, 2) := by decide +kernel
theorem dX12_init_167 : decode cX12_init 167 = .ok (.iconst (-1), 1) := by decide +kernel
theorem dX12_init_168 : decode cX12_init 168 = .ok (.iastore, 1) := by decide +kernel
theorem dX12_init_169 : decode cX12_init 169 = .ok (.aload_n 0, 1) := by decide +kernel
theorem dX12_init_170 : decode cX12_init 170 = .ok (.getfield 7, 3) := by decide +kernel
theorem dX12_init_173 : decode cX12_init 173 = .ok (.bipush 9, 2) := by decide +kernel
theorem dX12_init_175 : decode cX12_init 175 = .ok (.iconst 3, 1) := by decide +kernel
theorem dX12_init_176 : decode cX12_init 176 = .ok (.iastore, 1) := by decide +kernel
theorem dX12_init_177 : decode cX12_init 177 = .ok (.return_, 1) := by decide +kernel
theorem dX12_in_0 : decode cX12_in 0 = .ok (.iload_n 0, 1) := by decide +kernel
theorem dX12_in_1 : decode cX12_in 1 = .ok (.iload_n 1, 1) := by decide +kernel
theorem dX12_in_2 : decode cX12_in 2 = .ok (.if_icmp .lt 12, 3) := by decide +kernel
theorem dX12_in_5 : decode cX12_in 5 = .ok (.iload_n 0, 1) := by decide +kernel
theorem dX12_in_6 : decode cX12_in 6 = .ok (.iload_n 2, 1) := by decide +kernel
theorem dX12_in_7 : decode cX12_in 7 = .ok (.if_icmp .gt 7, 3) := by decide +kernel
theorem dX12_in_10 : decode cX12_in 10 = .ok (.iconst 1, 1) := by decide +kernel
theorem dX12_in_11 : decode cX12_in 11 = .ok (.goto 4, 3) := by decide +kernel
theorem dX12_in_14 : decode cX12_in 14 = .ok (.iconst 0, 1) := by decide +kernel
theorem dX12_in_15 : decode cX12_in 15 = .ok (.ireturn, 1) := by decide +kernel
theorem dX12_errs_0 : decode cX12_errs 0 = .ok (.aload_n 0, 1) := by decide +kernel
theorem dX12_errs_1 : decode cX12_errs 1 = .ok (.getfield 25, 3) := by decide +kernel
theorem dX12_errs_4 : decode cX12_errs 4 = .ok (.ldc 46, 2) := by decide +kernel
theorem dX12_errs_6 : decode cX12_errs 6 = .ok (.iload_n 1, 1) := by decide +kernel
theorem dX12_errs_7 : decode cX12_errs 7 = .ok (.isub, 1) := by decide +kernel
theorem dX12_errs_8 : decode cX12_errs 8 = .ok (.dup2, 1) := by decide +kernel
theorem dX12_errs_9 : decode cX12_errs 9 = .ok (.iaload, 1) := by decide +kernel
theorem dX12_errs_10 : decode cX12_errs 10 = .ok (.iconst 1, 1) := by decide +kernel
theorem dX12_errs_11 : decode cX12_errs 11 = .ok (.iadd, 1) := by decide +kernel
theorem dX12_errs_12 : decode cX12_errs 12 = .ok (.iastore, 1) := by decide +kernel
theorem dX12_errs_13 : decode cX12_errs 13 = .ok (.iload_n 1, 1) := by decide +kernel
theorem dX12_errs_14 : decode cX12_errs 14 = .ok (.ireturn, 1) := by decide +kernel
theorem dX12_held_0 : decode cX12_held 0 = .ok (.iload_n 0, 1) := by decide +kernel
theorem dX12_held_1 : decode cX12_held 1 = .ok (.iload_n 1, 1) := by decide +kernel
theorem dX12_held_2 : decode cX12_held 2 = .ok (.if_icmp .ge 7, 3) := by decide +kernel
theorem dX12_held_5 : decode cX12_held 5 = .ok (.iload_n 1, 1) := by decide +kernel
theorem dX12_held_6 : decode cX12_held 6 = .ok (.goto 13, 3) := by decide +kernel
theorem dX12_held_9 : decode cX12_held 9 = .ok (.iload_n 0, 1) := by decide +kernel
theorem dX12_held_10 : decode cX12_held 10 = .ok (.iload_n 2, 1) := by decide +kernel
theorem dX12_held_11 : decode cX12_held 11 = .ok (.if_icmp .le 7, 3) := by decide +kernel
theorem dX12_held_14 : decode cX12_held 14 = .ok (.iload_n 2, 1) := by decide +kernel
theorem dX12_held_15 : decode cX12_held 15 = .ok (.goto 4, 3) := by decide +kernel
theorem dX12_held_18 : decode cX12_held 18 = .ok (.iload_n 0, 1) := by decide +kernel
theorem dX12_held_19 : decode cX12_held 19 = .ok (.ireturn, 1) := by decide +kernel
theorem dX12_moveAll_0 : decode cX12_moveAll 0 = .ok (.iconst 0, 1) := by decide +kernel
theorem dX12_moveAll_1 : decode cX12_moveAll 1 = .ok (.istore_n 3, 1) := by decide +kernel
theorem dX12_moveAll_2 : decode cX12_moveAll 2 = .ok (.iload_n 3, 1) := by decide +kernel
theorem dX12_moveAll_3 : decode cX12_moveAll 3 = .ok (.sipush 206, 3) := by decide +kernel
theorem dX12_moveAll_6 : decode cX12_moveAll 6 = .ok (.if_icmp .ge 15, 3) := by decide +kernel
theorem dX12_moveAll_9 : decode cX12_moveAll 9 = .ok (.aload_n 2, 1) := by decide +kernel
theorem dX12_moveAll_10 : decode cX12_moveAll 10 = .ok (.iload_n 3, 1) := by decide +kernel
theorem dX12_moveAll_11 : decode cX12_moveAll 11 = .ok (.aload_n 1, 1) := by decide +kernel
theorem dX12_moveAll_12 : decode cX12_moveAll 12 = .ok (.iload_n 3, 1) := by decide +kernel
theorem dX12_moveAll_13 : decode cX12_moveAll 13 = .ok (.iaload, 1) := by decide +kernel
theorem dX12_moveAll_14 : decode cX12_moveAll 14 = .ok (.iastore, 1) := by decide +kernel
theorem dX12_moveAll_15 : decode cX12_moveAll 15 = .ok (.iinc 3 1, 3) := by decide +kernel
theorem dX12_moveAll_18 : decode cX12_moveAll 18 = .ok (.goto (-16), 3) := by decide +kernel
theorem dX12_moveAll_21 : decode cX12_moveAll 21 = .ok (.return_, 1) := by decide +kernel
theorem dX12_isFact_0 : decode cX12_isFact 0 = .ok (.iload_n 0, 1) := by decide +kernel
theorem dX12_isFact_1 : decode cX12_isFact 1 = .ok (.iconst 0, 1) := by decide +kernel
theorem dX12_isFact_2 : decode cX12_isFact 2 = .ok (.bipush 7, 2) := by decide +kernel
theorem dX12_isFact_4 : decode cX12_isFact 4 = .ok (.invokestatic 47, 3) := by decide +kernel
theorem dX12_isFact_7 : decode cX12_isFact 7 = .ok (.ireturn, 1) := by decide +kernel
theorem dX12_hear_0 : decode cX12_hear 0 = .ok (.iload_n 1, 1) := by decide +kernel
theorem dX12_hear_1 : decode cX12_hear 1 = .ok (.invokestatic 51, 3) := by decide +kernel
theorem dX12_hear_4 : decode cX12_hear 4 = .ok (.ifCond .eq 12, 3) := by decide +kernel
theorem dX12_hear_7 : decode cX12_hear 7 = .ok (.iload_n 2, 1) := by decide +kernel
theorem dX12_hear_8 : decode cX12_hear 8 = .ok (.iconst 0, 1) := by decide +kernel
theorem dX12_hear_9 : decode cX12_hear 9 = .ok (.iconst 2, 1) := by decide +kernel
theorem dX12_hear_10 : decode cX12_hear 10 = .ok (.invokestatic 47, 3) := by decide +kernel
theorem dX12_hear_13 : decode cX12_hear 13 = .ok (.ifCond .ne 10, 3) := by decide +kernel
theorem dX12_hear_16 : decode cX12_hear 16 = .ok (.aload_n 0, 1) := by decide +kernel
theorem dX12_hear_17 : decode cX12_hear 17 = .ok (.ldc 55, 2) := by decide +kernel
theorem dX12_hear_19 : decode cX12_hear 19 = .ok (.invokevirtual 56, 3) := by decide +kernel
theorem dX12_hear_22 : decode cX12_hear 22 = .ok (.ireturn, 1) := by decide +kernel
theorem dX12_hear_23 : decode cX12_hear 23 = .ok (.aload_n 0, 1) := by decide +kernel
theorem dX12_hear_24 : decode cX12_hear 24 = .ok (.getfield 7, 3) := by decide +kernel
theorem dX12_hear_27 : decode cX12_hear 27 = .ok (.bipush 10, 2) := by decide +kernel
theorem dX12_hear_29 : decode cX12_hear 29 = .ok (.iload_n 1, 1) := by decide +kernel
theorem dX12_hear_30 : decode cX12_hear 30 = .ok (.iadd, 1) := by decide +kernel
theorem dX12_hear_31 : decode cX12_hear 31 = .ok (.iaload, 1) := by decide +kernel
theorem dX12_hear_32 : decode cX12_hear 32 = .ok (.istore_n 3, 1) := by decide +kernel
theorem dX12_hear_33 : decode cX12_hear 33 = .ok (.aload_n 0, 1) := by decide +kernel
theorem dX12_hear_34 : decode cX12_hear 34 = .ok (.getfield 7, 3) := by decide +kernel
theorem dX12_hear_37 : decode cX12_hear 37 = .ok (.bipush 10, 2) := by decide +kernel
theorem dX12_hear_39 : decode cX12_hear 39 = .ok (.iload_n 1, 1) := by decide +kernel
theorem dX12_hear_40 : decode cX12_hear 40 = .ok (.iadd, 1) := by decide +kernel
theorem dX12_hear_41 : decode cX12_hear 41 = .ok (.iload_n 2, 1) := by decide +kernel
theorem dX12_hear_42 : decode cX12_hear 42 = .ok (.iastore, 1) := by decide +kernel
theorem dX12_hear_43 : decode cX12_hear 43 = .ok (.iload_n 3, 1) := by decide +kernel
theorem dX12_hear_44 : decode cX12_hear 44 = .ok (.ireturn, 1) := by decide +kernel
theorem dX12_heardAll_0 : decode cX12_heardAll 0 = .ok (.iconst 0, 1) := by decide +kernel
theorem dX12_heardAll_1 : decode cX12_heardAll 1 = .ok (.istore_n 1, 1) := by decide +kernel
theorem dX12_heardAll_2 : decode cX12_heardAll 2 = .ok (.iconst 0, 1) := by decide +kernel
theorem dX12_heardAll_3 : decode cX12_heardAll 3 = .ok (.istore_n 2, 1) := by decide +kernel
theorem dX12_heardAll_4 : decode cX12_heardAll 4 = .ok (.iload_n 2, 1) := by decide +kernel
theorem dX12_heardAll_5 : decode cX12_heardAll 5 = .ok (.bipush 8, 2) := by decide +kernel
theorem dX12_heardAll_7 : decode cX12_heardAll 7 = .ok (.if_icmp .ge 28, 3) := by decide +kernel
theorem dX12_heardAll_10 : decode cX12_heardAll 10 = .ok (.iload_n 1, 1) := by decide +kernel
theorem dX12_heardAll_11 : decode cX12_heardAll 11 = .ok (.aload_n 0, 1) := by decide +kernel
theorem dX12_heardAll_12 : decode cX12_heardAll 12 = .ok (.getfield 22, 3) := by decide +kernel
theorem dX12_heardAll_15 : decode cX12_heardAll 15 = .ok (.iload_n 2, 1) := by decide +kernel
theorem dX12_heardAll_16 : decode cX12_heardAll 16 = .ok (.iaload, 1) := by decide +kernel
theorem dX12_heardAll_17 : decode cX12_heardAll 17 = .ok (.aload_n 0, 1) := by decide +kernel
theorem dX12_heardAll_18 : decode cX12_heardAll 18 = .ok (.getfield 7, 3) := by decide +kernel
theorem dX12_heardAll_21 : decode cX12_heardAll 21 = .ok (.bipush 10, 2) := by decide +kernel
theorem dX12_heardAll_23 : decode cX12_heardAll 23 = .ok (.iload_n 2, 1) := by decide +kernel
theorem dX12_heardAll_24 : decode cX12_heardAll 24 = .ok (.iadd, 1) := by decide +kernel
theorem dX12_heardAll_25 : decode cX12_heardAll 25 = .ok (.iaload, 1) := by decide +kernel
theorem dX12_heardAll_26 : decode cX12_heardAll 26 = .ok (.imul, 1) := by decide +kernel
theorem dX12_heardAll_27 : decode cX12_heardAll 27 = .ok (.iadd, 1) := by decide +kernel
theorem dX12_heardAll_28 : decode cX12_heardAll 28 = .ok (.istore_n 1, 1) := by decide +kernel
theorem dX12_heardAll_29 : decode cX12_heardAll 29 = .ok (.iinc 2 1, 3) := by decide +kernel
theorem dX12_heardAll_32 : decode cX12_heardAll 32 = .ok (.goto (-28), 3) := by decide +kernel
theorem dX12_heardAll_35 : decode cX12_heardAll 35 = .ok (.iload_n 1, 1) := by decide +kernel
theorem dX12_heardAll_36 : decode cX12_heardAll 36 = .ok (.ireturn, 1) := by decide +kernel
theorem dX12_heard_0 : decode cX12_heard 0 = .ok (.aload_n 0, 1) := by decide +kernel
theorem dX12_heard_1 : decode cX12_heard 1 = .ok (.invokevirtual 60, 3) := by decide +kernel
theorem dX12_heard_4 : decode cX12_heard 4 = .ok (.ireturn, 1) := by decide +kernel
theorem dX12_hearsAll_0 : decode cX12_hearsAll 0 = .ok (.iconst 0, 1) := by decide +kernel
theorem dX12_hearsAll_1 : decode cX12_hearsAll 1 = .ok (.istore_n 2, 1) := by decide +kernel
theorem dX12_hearsAll_2 : decode cX12_hearsAll 2 = .ok (.iload_n 2, 1) := by decide +kernel
theorem dX12_hearsAll_3 : decode cX12_hearsAll 3 = .ok (.bipush 8, 2) := by decide +kernel
theorem dX12_hearsAll_5 : decode cX12_hearsAll 5 = .ok (.if_icmp .ge 28, 3) := by decide +kernel
theorem dX12_hearsAll_8 : decode cX12_hearsAll 8 = .ok (.aload_n 0, 1) := by decide +kernel
theorem dX12_hearsAll_9 : decode cX12_hearsAll 9 = .ok (.getfield 7, 3) := by decide +kernel
theorem dX12_hearsAll_12 : decode cX12_hearsAll 12 = .ok (.bipush 10, 2) := by decide +kernel
theorem dX12_hearsAll_14 : decode cX12_hearsAll 14 = .ok (.iload_n 2, 1) := by decide +kernel
theorem dX12_hearsAll_15 : decode cX12_hearsAll 15 = .ok (.iadd, 1) := by decide +kernel
theorem dX12_hearsAll_16 : decode cX12_hearsAll 16 = .ok (.iload_n 1, 1) := by decide +kernel
theorem dX12_hearsAll_17 : decode cX12_hearsAll 17 = .ok (.aload_n 0, 1) := by decide +kernel
theorem dX12_hearsAll_18 : decode cX12_hearsAll 18 = .ok (.getfield 22, 3) := by decide +kernel
theorem dX12_hearsAll_21 : decode cX12_hearsAll 21 = .ok (.iload_n 2, 1) := by decide +kernel
theorem dX12_hearsAll_22 : decode cX12_hearsAll 22 = .ok (.iaload, 1) := by decide +kernel
theorem dX12_hearsAll_23 : decode cX12_hearsAll 23 = .ok (.idiv, 1) := by decide +kernel
theorem dX12_hearsAll_24 : decode cX12_hearsAll 24 = .ok (.iconst 3, 1) := by decide +kernel
theorem dX12_hearsAll_25 : decode cX12_hearsAll 25 = .ok (.irem, 1) := by decide +kernel
theorem dX12_hearsAll_26 : decode cX12_hearsAll 26 = .ok (.iastore, 1) := by decide +kernel
theorem dX12_hearsAll_27 : decode cX12_hearsAll 27 = .ok (.iinc 2 1, 3) := by decide +kernel
theorem dX12_hearsAll_30 : decode cX12_hearsAll 30 = .ok (.goto (-28), 3) := by decide +kernel
theorem dX12_hearsAll_33 : decode cX12_hearsAll 33 = .ok (.return_, 1) := by decide +kernel
theorem dX12_world_0 : decode cX12_world 0 = .ok (.iload_n 1, 1) := by decide +kernel
theorem dX12_world_1 : decode cX12_world 1 = .ok (.iconst 0, 1) := by decide +kernel
theorem dX12_world_2 : decode cX12_world 2 = .ok (.sipush 255, 3) := by decide +kernel
theorem dX12_world_5 : decode cX12_world 5 = .ok (.invokestatic 47, 3) := by decide +kernel
theorem dX12_world_8 : decode cX12_world 8 = .ok (.ifCond .ne 10, 3) := by decide +kernel
theorem dX12_world_11 : decode cX12_world 11 = .ok (.aload_n 0, 1) := by decide +kernel
theorem dX12_world_12 : decode cX12_world 12 = .ok (.ldc 55, 2) := by decide +kernel
theorem dX12_world_14 : decode cX12_world 14 = .ok (.invokevirtual 56, 3) := by decide +kernel
theorem dX12_world_17 : decode cX12_world 17 = .ok (.ireturn, 1) := by decide +kernel
theorem dX12_world_18 : decode cX12_world 18 = .ok (.aload_n 0, 1) := by decide +kernel
theorem dX12_world_19 : decode cX12_world 19 = .ok (.getfield 7, 3) := by decide +kernel
theorem dX12_world_22 : decode cX12_world 22 = .ok (.bipush 8, 2) := by decide +kernel
theorem dX12_world_24 : decode cX12_world 24 = .ok (.iaload, 1) := by decide +kernel
theorem dX12_world_25 : decode cX12_world 25 = .ok (.istore_n 2, 1) := by decide +kernel
theorem dX12_world_26 : decode cX12_world 26 = .ok (.aload_n 0, 1) := by decide +kernel
theorem dX12_world_27 : decode cX12_world 27 = .ok (.getfield 7, 3) := by decide +kernel
theorem dX12_world_30 : decode cX12_world 30 = .ok (.bipush 8, 2) := by decide +kernel
theorem dX12_world_32 : decode cX12_world 32 = .ok (.iload_n 1, 1) := by decide +kernel
theorem dX12_world_33 : decode cX12_world 33 = .ok (.iastore, 1) := by decide +kernel
theorem dX12_world_34 : decode cX12_world 34 = .ok (.iload_n 2, 1) := by decide +kernel
theorem dX12_world_35 : decode cX12_world 35 = .ok (.ireturn, 1) := by decide +kernel
theorem dX12_trust_0 : decode cX12_trust 0 = .ok (.iload_n 1, 1) := by decide +kernel
theorem dX12_trust_1 : decode cX12_trust 1 = .ok (.iconst 0, 1) := by decide +kernel
theorem dX12_trust_2 : decode cX12_trust 2 = .ok (.bipush 9, 2) := by decide +kernel
theorem dX12_trust_4 : decode cX12_trust 4 = .ok (.invokestatic 47, 3) := by decide +kernel
theorem dX12_trust_7 : decode cX12_trust 7 = .ok (.ifCond .ne 10, 3) := by decide +kernel
theorem dX12_trust_10 : decode cX12_trust 10 = .ok (.aload_n 0, 1) := by decide +kernel
theorem dX12_trust_11 : decode cX12_trust 11 = .ok (.ldc 55, 2) := by decide +kernel
theorem dX12_trust_13 : decode cX12_trust 13 = .ok (.invokevirtual 56, 3) := by decide +kernel
theorem dX12_trust_16 : decode cX12_trust 16 = .ok (.ireturn, 1) := by decide +kernel
theorem dX12_trust_17 : decode cX12_trust 17 = .ok (.aload_n 0, 1) := by decide +kernel
theorem dX12_trust_18 : decode cX12_trust 18 = .ok (.getfield 7, 3) := by decide +kernel
theorem dX12_trust_21 : decode cX12_trust 21 = .ok (.bipush 9, 2) := by decide +kernel
theorem dX12_trust_23 : decode cX12_trust 23 = .ok (.iaload, 1) := by decide +kernel
theorem dX12_trust_24 : decode cX12_trust 24 = .ok (.istore_n 2, 1) := by decide +kernel
theorem dX12_trust_25 : decode cX12_trust 25 = .ok (.aload_n 0, 1) := by decide +kernel
theorem dX12_trust_26 : decode cX12_trust 26 = .ok (.getfield 7, 3) := by decide +kernel
theorem dX12_trust_29 : decode cX12_trust 29 = .ok (.bipush 9, 2) := by decide +kernel
theorem dX12_trust_31 : decode cX12_trust 31 = .ok (.iload_n 1, 1) := by decide +kernel
theorem dX12_trust_32 : decode cX12_trust 32 = .ok (.iastore, 1) := by decide +kernel
theorem dX12_trust_33 : decode cX12_trust 33 = .ok (.iload_n 2, 1) := by decide +kernel
theorem dX12_trust_34 : decode cX12_trust 34 = .ok (.ireturn, 1) := by decide +kernel
theorem dX12_its_0 : decode cX12_its 0 = .ok (.aload_n 0, 1) := by decide +kernel
theorem dX12_its_1 : decode cX12_its 1 = .ok (.getfield 7, 3) := by decide +kernel
theorem dX12_its_4 : decode cX12_its 4 = .ok (.bipush 18, 2) := by decide +kernel
theorem dX12_its_6 : decode cX12_its 6 = .ok (.iconst 3, 1) := by decide +kernel
theorem dX12_its_7 : decode cX12_its 7 = .ok (.iload_n 1, 1) := by decide +kernel
theorem dX12_its_8 : decode cX12_its 8 = .ok (.imul, 1) := by decide +kernel
theorem dX12_its_9 : decode cX12_its 9 = .ok (.iadd, 1) := by decide +kernel
theorem dX12_its_10 : decode cX12_its 10 = .ok (.iload_n 2, 1) := by decide +kernel
theorem dX12_its_11 : decode cX12_its 11 = .ok (.iadd, 1) := by decide +kernel
theorem dX12_its_12 : decode cX12_its 12 = .ok (.iaload, 1) := by decide +kernel
theorem dX12_its_13 : decode cX12_its 13 = .ok (.ireturn, 1) := by decide +kernel
theorem dX12_isRider_0 : decode cX12_isRider 0 = .ok (.iload_n 1, 1) := by decide +kernel
theorem dX12_isRider_1 : decode cX12_isRider 1 = .ok (.iconst 0, 1) := by decide +kernel
theorem dX12_isRider_2 : decode cX12_isRider 2 = .ok (.aload_n 0, 1) := by decide +kernel
theorem dX12_isRider_3 : decode cX12_isRider 3 = .ok (.getfield 7, 3) := by decide +kernel
theorem dX12_isRider_6 : decode cX12_isRider 6 = .ok (.iconst 3, 1) := by decide +kernel
theorem dX12_isRider_7 : decode cX12_isRider 7 = .ok (.iaload, 1) := by decide +kernel
theorem dX12_isRider_8 : decode cX12_isRider 8 = .ok (.iconst 1, 1) := by decide +kernel
theorem dX12_isRider_9 : decode cX12_isRider 9 = .ok (.isub, 1) := by decide +kernel
theorem dX12_isRider_10 : decode cX12_isRider 10 = .ok (.invokestatic 47, 3) := by decide +kernel
theorem dX12_isRider_13 : decode cX12_isRider 13 = .ok (.ireturn, 1) := by decide +kernel
theorem dX12_rider_0 : decode cX12_rider 0 = .ok (.iload_n 1, 1) := by decide +kernel
theorem dX12_rider_1 : decode cX12_rider 1 = .ok (.iconst 0, 1) := by decide +kernel
theorem dX12_rider_2 : decode cX12_rider 2 = .ok (.bipush 69, 2) := by decide +kernel
theorem dX12_rider_4 : decode cX12_rider 4 = .ok (.invokestatic 47, 3) := by decide +kernel
theorem dX12_rider_7 : decode cX12_rider 7 = .ok (.ifCond .ne 10, 3) := by decide +kernel
theorem dX12_rider_10 : decode cX12_rider 10 = .ok (.aload_n 0, 1) := by decide +kernel
theorem dX12_rider_11 : decode cX12_rider 11 = .ok (.ldc 55, 2) := by decide +kernel
theorem dX12_rider_13 : decode cX12_rider 13 = .ok (.invokevirtual 56, 3) := by decide +kernel
theorem dX12_rider_16 : decode cX12_rider 16 = .ok (.ireturn, 1) := by decide +kernel
theorem dX12_rider_17 : decode cX12_rider 17 = .ok (.aload_n 0, 1) := by decide +kernel
theorem dX12_rider_18 : decode cX12_rider 18 = .ok (.getfield 7, 3) := by decide +kernel
theorem dX12_rider_21 : decode cX12_rider 21 = .ok (.iconst 3, 1) := by decide +kernel
theorem dX12_rider_22 : decode cX12_rider 22 = .ok (.iaload, 1) := by decide +kernel
theorem dX12_rider_23 : decode cX12_rider 23 = .ok (.bipush 6, 2) := by decide +kernel
theorem dX12_rider_25 : decode cX12_rider 25 = .ok (.if_icmp .ne 10, 3) := by decide +kernel
theorem dX12_rider_28 : decode cX12_rider 28 = .ok (.aload_n 0, 1) := by decide +kernel
theorem dX12_rider_29 : decode cX12_rider 29 = .ok (.ldc 64, 2) := by decide +kernel
theorem dX12_rider_31 : decode cX12_rider 31 = .ok (.invokevirtual 56, 3) := by decide +kernel
theorem dX12_rider_34 : decode cX12_rider 34 = .ok (.ireturn, 1) := by decide +kernel
theorem dX12_rider_35 : decode cX12_rider 35 = .ok (.bipush 18, 2) := by decide +kernel
theorem dX12_rider_37 : decode cX12_rider 37 = .ok (.iconst 3, 1) := by decide +kernel
theorem dX12_rider_38 : decode cX12_rider 38 = .ok (.aload_n 0, 1) := by decide +kernel
theorem dX12_rider_39 : decode cX12_rider 39 = .ok (.getfield 7, 3) := by decide +kernel
theorem dX12_rider_42 : decode cX12_rider 42 = .ok (.iconst 3, 1) := by decide +kernel
theorem dX12_rider_43 : decode cX12_rider 43 = .ok (.iaload, 1) := by decide +kernel
theorem dX12_rider_44 : decode cX12_rider 44 = .ok (.imul, 1) := by decide +kernel
theorem dX12_rider_45 : decode cX12_rider 45 = .ok (.iadd, 1) := by decide +kernel
theorem dX12_rider_46 : decode cX12_rider 46 = .ok (.istore_n 2, 1) := by decide +kernel
theorem dX12_rider_47 : decode cX12_rider 47 = .ok (.aload_n 0, 1) := by decide +kernel
theorem dX12_rider_48 : decode cX12_rider 48 = .ok (.getfield 7, 3) := by decide +kernel
theorem dX12_rider_51 : decode cX12_rider 51 = .ok (.iload_n 2, 1) := by decide +kernel
theorem dX12_rider_52 : decode cX12_rider 52 = .ok (.iload_n 1, 1) := by decide +kernel
theorem dX12_rider_53 : decode cX12_rider 53 = .ok (.bipush 10, 2) := by decide +kernel
theorem dX12_rider_55 : decode cX12_rider 55 = .ok (.idiv, 1) := by decide +kernel
theorem dX12_rider_56 : decode cX12_rider 56 = .ok (.iastore, 1) := by decide +kernel
theorem dX12_rider_57 : decode cX12_rider 57 = .ok (.aload_n 0, 1) := by decide +kernel
theorem dX12_rider_58 : decode cX12_rider 58 = .ok (.getfield 7, 3) := by decide +kernel
theorem dX12_rider_61 : decode cX12_rider 61 = .ok (.iload_n 2, 1) := by decide +kernel
theorem dX12_rider_62 : decode cX12_rider 62 = .ok (.iconst 1, 1) := by decide +kernel
theorem dX12_rider_63 : decode cX12_rider 63 = .ok (.iadd, 1) := by decide +kernel
theorem dX12_rider_64 : decode cX12_rider 64 = .ok (.iload_n 1, 1) := by decide +kernel
theorem dX12_rider_65 : decode cX12_rider 65 = .ok (.bipush 10, 2) := by decide +kernel
theorem dX12_rider_67 : decode cX12_rider 67 = .ok (.irem, 1) := by decide +kernel
theorem dX12_rider_68 : decode cX12_rider 68 = .ok (.iastore, 1) := by decide +kernel
theorem dX12_rider_69 : decode cX12_rider 69 = .ok (.aload_n 0, 1) := by decide +kernel
theorem dX12_rider_70 : decode cX12_rider 70 = .ok (.getfield 7, 3) := by decide +kernel
theorem dX12_rider_73 : decode cX12_rider 73 = .ok (.iload_n 2, 1) := by decide +kernel
theorem dX12_rider_74 : decode cX12_rider 74 = .ok (.iconst 2, 1) := by decide +kernel
theorem dX12_rider_75 : decode cX12_rider 75 = .ok (.iadd, 1) := by decide +kernel
theorem dX12_rider_76 : decode cX12_rider 76 = .ok (.iconst 0, 1) := by decide +kernel
theorem dX12_rider_77 : decode cX12_rider 77 = .ok (.iastore, 1) := by decide +kernel
theorem dX12_rider_78 : decode cX12_rider 78 = .ok (.aload_n 0, 1) := by decide +kernel
theorem dX12_rider_79 : decode cX12_rider 79 = .ok (.getfield 7, 3) := by decide +kernel
theorem dX12_rider_82 : decode cX12_rider 82 = .ok (.iconst 3, 1) := by decide +kernel
theorem dX12_rider_83 : decode cX12_rider 83 = .ok (.dup2, 1) := by decide +kernel
theorem dX12_rider_84 : decode cX12_rider 84 = .ok (.iaload, 1) := by decide +kernel
theorem dX12_rider_85 : decode cX12_rider 85 = .ok (.iconst 1, 1) := by decide +kernel
theorem dX12_rider_86 : decode cX12_rider 86 = .ok (.iadd, 1) := by decide +kernel
theorem dX12_rider_87 : decode cX12_rider 87 = .ok (.iastore, 1) := by decide +kernel
theorem dX12_rider_88 : decode cX12_rider 88 = .ok (.aload_n 0, 1) := by decide +kernel
theorem dX12_rider_89 : decode cX12_rider 89 = .ok (.getfield 7, 3) := by decide +kernel
theorem dX12_rider_92 : decode cX12_rider 92 = .ok (.iconst 3, 1) := by decide +kernel
theorem dX12_rider_93 : decode cX12_rider 93 = .ok (.iaload, 1) := by decide +kernel
theorem dX12_rider_94 : decode cX12_rider 94 = .ok (.iconst 1, 1) := by decide +kernel
theorem dX12_rider_95 : decode cX12_rider 95 = .ok (.isub, 1) := by decide +kernel
theorem dX12_rider_96 : decode cX12_rider 96 = .ok (.ireturn, 1) := by decide +kernel
theorem dX12_saying_0 : decode cX12_saying 0 = .ok (.iload_n 1, 1) := by decide +kernel
theorem dX12_saying_1 : decode cX12_saying 1 = .ok (.aload_n 0, 1) := by decide +kernel
theorem dX12_saying_2 : decode cX12_saying 2 = .ok (.getfield 22, 3) := by decide +kernel
theorem dX12_saying_5 : decode cX12_saying 5 = .ok (.iload_n 2, 1) := by decide +kernel
theorem dX12_saying_6 : decode cX12_saying 6 = .ok (.iaload, 1) := by decide +kernel
theorem dX12_saying_7 : decode cX12_saying 7 = .ok (.idiv, 1) := by decide +kernel
theorem dX12_saying_8 : decode cX12_saying 8 = .ok (.iconst 3, 1) := by decide +kernel
theorem dX12_saying_9 : decode cX12_saying 9 = .ok (.irem, 1) := by decide +kernel
theorem dX12_saying_10 : decode cX12_saying 10 = .ok (.ireturn, 1) := by decide +kernel
theorem dX12_weigh_0 : decode cX12_weigh 0 = .ok (.aload_n 0, 1) := by decide +kernel
theorem dX12_weigh_1 : decode cX12_weigh 1 = .ok (.iconst 0, 1) := by decide +kernel
theorem dX12_weigh_2 : decode cX12_weigh 2 = .ok (.putfield 65, 3) := by decide +kernel
theorem dX12_weigh_5 : decode cX12_weigh 5 = .ok (.aload_n 0, 1) := by decide +kernel
theorem dX12_weigh_6 : decode cX12_weigh 6 = .ok (.iconst 0, 1) := by decide +kernel
theorem dX12_weigh_7 : decode cX12_weigh 7 = .ok (.putfield 69, 3) := by decide +kernel
theorem dX12_weigh_10 : decode cX12_weigh 10 = .ok (.aload_n 0, 1) := by decide +kernel
theorem dX12_weigh_11 : decode cX12_weigh 11 = .ok (.iconst 0, 1) := by decide +kernel
theorem dX12_weigh_12 : decode cX12_weigh 12 = .ok (.putfield 72, 3) := by decide +kernel
theorem dX12_weigh_15 : decode cX12_weigh 15 = .ok (.iconst 0, 1) := by decide +kernel
theorem dX12_weigh_16 : decode cX12_weigh 16 = .ok (.istore_n 2, 1) := by decide +kernel
theorem dX12_weigh_17 : decode cX12_weigh 17 = .ok (.iload_n 2, 1) := by decide +kernel
theorem dX12_weigh_18 : decode cX12_weigh 18 = .ok (.bipush 8, 2) := by decide +kernel
theorem dX12_weigh_20 : decode cX12_weigh 20 = .ok (.if_icmp .ge 103, 3) := by decide +kernel
theorem dX12_weigh_23 : decode cX12_weigh 23 = .ok (.aload_n 0, 1) := by decide +kernel
theorem dX12_weigh_24 : decode cX12_weigh 24 = .ok (.iload_n 1, 1) := by decide +kernel
theorem dX12_weigh_25 : decode cX12_weigh 25 = .ok (.iload_n 2, 1) := by decide +kernel
theorem dX12_weigh_26 : decode cX12_weigh 26 = .ok (.invokevirtual 75, 3) := by decide +kernel
theorem dX12_weigh_29 : decode cX12_weigh 29 = .ok (.istore_n 3, 1) := by decide +kernel
theorem dX12_weigh_30 : decode cX12_weigh 30 = .ok (.aload_n 0, 1) := by decide +kernel
theorem dX12_weigh_31 : decode cX12_weigh 31 = .ok (.getfield 7, 3) := by decide +kernel
theorem dX12_weigh_34 : decode cX12_weigh 34 = .ok (.bipush 10, 2) := by decide +kernel
theorem dX12_weigh_36 : decode cX12_weigh 36 = .ok (.iload_n 2, 1) := by decide +kernel
theorem dX12_weigh_37 : decode cX12_weigh 37 = .ok (.iadd, 1) := by decide +kernel
theorem dX12_weigh_38 : decode cX12_weigh 38 = .ok (.iaload, 1) := by decide +kernel
theorem dX12_weigh_39 : decode cX12_weigh 39 = .ok (.istore 4, 2) := by decide +kernel
theorem dX12_weigh_41 : decode cX12_weigh 41 = .ok (.aload_n 0, 1) := by decide +kernel
theorem dX12_weigh_42 : decode cX12_weigh 42 = .ok (.dup, 1) := by decide +kernel
theorem dX12_weigh_43 : decode cX12_weigh 43 = .ok (.getfield 65, 3) := by decide +kernel
theorem dX12_weigh_46 : decode cX12_weigh 46 = .ok (.iload_n 3, 1) := by decide +kernel
theorem dX12_weigh_47 : decode cX12_weigh 47 = .ok (.ifCond .le 13, 3) := by decide +kernel
theorem dX12_weigh_50 : decode cX12_weigh 50 = .ok (.iload_n 3, 1) := by decide +kernel
theorem dX12_weigh_51 : decode cX12_weigh 51 = .ok (.iload 4, 2) := by decide +kernel
theorem dX12_weigh_53 : decode cX12_weigh 53 = .ok (.if_icmp .ne 7, 3) := by decide +kernel
theorem dX12_weigh_56 : decode cX12_weigh 56 = .ok (.iconst 1, 1) := by decide +kernel
theorem dX12_weigh_57 : decode cX12_weigh 57 = .ok (.goto 4, 3) := by decide +kernel
theorem dX12_weigh_60 : decode cX12_weigh 60 = .ok (.iconst 0, 1) := by decide +kernel
theorem dX12_weigh_61 : decode cX12_weigh 61 = .ok (.iadd, 1) := by decide +kernel
theorem dX12_weigh_62 : decode cX12_weigh 62 = .ok (.putfield 65, 3) := by decide +kernel
theorem dX12_weigh_65 : decode cX12_weigh 65 = .ok (.aload_n 0, 1) := by decide +kernel
theorem dX12_weigh_66 : decode cX12_weigh 66 = .ok (.dup, 1) := by decide +kernel
theorem dX12_weigh_67 : decode cX12_weigh 67 = .ok (.getfield 69, 3) := by decide +kernel
theorem dX12_weigh_70 : decode cX12_weigh 70 = .ok (.iload_n 3, 1) := by decide +kernel
theorem dX12_weigh_71 : decode cX12_weigh 71 = .ok (.ifCond .le 18, 3) := by decide +kernel
theorem dX12_weigh_74 : decode cX12_weigh 74 = .ok (.iload 4, 2) := by decide +kernel
theorem dX12_weigh_76 : decode cX12_weigh 76 = .ok (.ifCond .le 13, 3) := by decide +kernel
theorem dX12_weigh_79 : decode cX12_weigh 79 = .ok (.iload_n 3, 1) := by decide +kernel
theorem dX12_weigh_80 : decode cX12_weigh 80 = .ok (.iload 4, 2) := by decide +kernel
theorem dX12_weigh_82 : decode cX12_weigh 82 = .ok (.if_icmp .eq 7, 3) := by decide +kernel
theorem dX12_weigh_85 : decode cX12_weigh 85 = .ok (.iconst 1, 1) := by decide +kernel
theorem dX12_weigh_86 : decode cX12_weigh 86 = .ok (.goto 4, 3) := by decide +kernel
theorem dX12_weigh_89 : decode cX12_weigh 89 = .ok (.iconst 0, 1) := by decide +kernel
theorem dX12_weigh_90 : decode cX12_weigh 90 = .ok (.iadd, 1) := by decide +kernel
theorem dX12_weigh_91 : decode cX12_weigh 91 = .ok (.putfield 69, 3) := by decide +kernel
theorem dX12_weigh_94 : decode cX12_weigh 94 = .ok (.aload_n 0, 1) := by decide +kernel
theorem dX12_weigh_95 : decode cX12_weigh 95 = .ok (.dup, 1) := by decide +kernel
theorem dX12_weigh_96 : decode cX12_weigh 96 = .ok (.getfield 72, 3) := by decide +kernel
theorem dX12_weigh_99 : decode cX12_weigh 99 = .ok (.iload_n 3, 1) := by decide +kernel
theorem dX12_weigh_100 : decode cX12_weigh 100 = .ok (.ifCond .le 12, 3) := by decide +kernel
theorem dX12_weigh_103 : decode cX12_weigh 103 = .ok (.iload 4, 2) := by decide +kernel
theorem dX12_weigh_105 : decode cX12_weigh 105 = .ok (.ifCond .ne 7, 3) := by decide +kernel
theorem dX12_weigh_108 : decode cX12_weigh 108 = .ok (.iconst 1, 1) := by decide +kernel
theorem dX12_weigh_109 : decode cX12_weigh 109 = .ok (.goto 4, 3) := by decide +kernel
theorem dX12_weigh_112 : decode cX12_weigh 112 = .ok (.iconst 0, 1) := by decide +kernel
theorem dX12_weigh_113 : decode cX12_weigh 113 = .ok (.iadd, 1) := by decide +kernel
theorem dX12_weigh_114 : decode cX12_weigh 114 = .ok (.putfield 72, 3) := by decide +kernel
theorem dX12_weigh_117 : decode cX12_weigh 117 = .ok (.iinc 2 1, 3) := by decide +kernel
theorem dX12_weigh_120 : decode cX12_weigh 120 = .ok (.goto (-103), 3) := by decide +kernel
theorem dX12_weigh_123 : decode cX12_weigh 123 = .ok (.return_, 1) := by decide +kernel
theorem dX12_creditOf_0 : decode cX12_creditOf 0 = .ok (.aload_n 0, 1) := by decide +kernel
theorem dX12_creditOf_1 : decode cX12_creditOf 1 = .ok (.iload_n 2, 1) := by decide +kernel
theorem dX12_creditOf_2 : decode cX12_creditOf 2 = .ok (.invokevirtual 79, 3) := by decide +kernel
theorem dX12_creditOf_5 : decode cX12_creditOf 5 = .ok (.aload_n 0, 1) := by decide +kernel
theorem dX12_creditOf_6 : decode cX12_creditOf 6 = .ok (.iload_n 1, 1) := by decide +kernel
theorem dX12_creditOf_7 : decode cX12_creditOf 7 = .ok (.iconst 0, 1) := by decide +kernel
theorem dX12_creditOf_8 : decode cX12_creditOf 8 = .ok (.invokevirtual 83, 3) := by decide +kernel
theorem dX12_creditOf_11 : decode cX12_creditOf 11 = .ok (.istore_n 3, 1) := by decide +kernel
theorem dX12_creditOf_12 : decode cX12_creditOf 12 = .ok (.aload_n 0, 1) := by decide +kernel
theorem dX12_creditOf_13 : decode cX12_creditOf 13 = .ok (.iconst 0, 1) := by decide +kernel
theorem dX12_creditOf_14 : decode cX12_creditOf 14 = .ok (.aload_n 0, 1) := by decide +kernel
theorem dX12_creditOf_15 : decode cX12_creditOf 15 = .ok (.getfield 65, 3) := by decide +kernel
theorem dX12_creditOf_18 : decode cX12_creditOf 18 = .ok (.iload_n 3, 1) := by decide +kernel
theorem dX12_creditOf_19 : decode cX12_creditOf 19 = .ok (.iconst 2, 1) := by decide +kernel
theorem dX12_creditOf_20 : decode cX12_creditOf 20 = .ok (.if_icmp .eq 8, 3) := by decide +kernel
theorem dX12_creditOf_23 : decode cX12_creditOf 23 = .ok (.iload_n 3, 1) := by decide +kernel
theorem dX12_creditOf_24 : decode cX12_creditOf 24 = .ok (.iconst 5, 1) := by decide +kernel
theorem dX12_creditOf_25 : decode cX12_creditOf 25 = .ok (.if_icmp .ne 12, 3) := by decide +kernel
theorem dX12_creditOf_28 : decode cX12_creditOf 28 = .ok (.aload_n 0, 1) := by decide +kernel
theorem dX12_creditOf_29 : decode cX12_creditOf 29 = .ok (.getfield 69, 3) := by decide +kernel
theorem dX12_creditOf_32 : decode cX12_creditOf 32 = .ok (.iconst 2, 1) := by decide +kernel
theorem dX12_creditOf_33 : decode cX12_creditOf 33 = .ok (.idiv, 1) := by decide +kernel
theorem dX12_creditOf_34 : decode cX12_creditOf 34 = .ok (.goto 7, 3) := by decide +kernel
theorem dX12_creditOf_37 : decode cX12_creditOf 37 = .ok (.aload_n 0, 1) := by decide +kernel
theorem dX12_creditOf_38 : decode cX12_creditOf 38 = .ok (.getfield 69, 3) := by decide +kernel
theorem dX12_creditOf_41 : decode cX12_creditOf 41 = .ok (.aload_n 0, 1) := by decide +kernel
theorem dX12_creditOf_42 : decode cX12_creditOf 42 = .ok (.getfield 72, 3) := by decide +kernel
theorem dX12_creditOf_45 : decode cX12_creditOf 45 = .ok (.invokevirtual 86, 3) := by decide +kernel
theorem dX12_creditOf_48 : decode cX12_creditOf 48 = .ok (.istore 4, 2) := by decide +kernel
theorem dX12_creditOf_50 : decode cX12_creditOf 50 = .ok (.iload 4, 2) := by decide +kernel
theorem dX12_creditOf_52 : decode cX12_creditOf 52 = .ok (.iconst 5, 1) := by decide +kernel
theorem dX12_creditOf_53 : decode cX12_creditOf 53 = .ok (.if_icmp .ge 8, 3) := by decide +kernel
theorem dX12_creditOf_56 : decode cX12_creditOf 56 = .ok (.iload 4, 2) := by decide +kernel
theorem dX12_creditOf_58 : decode cX12_creditOf 58 = .ok (.goto 4, 3) := by decide +kernel
theorem dX12_creditOf_61 : decode cX12_creditOf 61 = .ok (.iconst 5, 1) := by decide +kernel
theorem dX12_creditOf_62 : decode cX12_creditOf 62 = .ok (.istore 5, 2) := by decide +kernel
theorem dX12_creditOf_64 : decode cX12_creditOf 64 = .ok (.iload 4, 2) := by decide +kernel
theorem dX12_creditOf_66 : decode cX12_creditOf 66 = .ok (.aload_n 0, 1) := by decide +kernel
theorem dX12_creditOf_67 : decode cX12_creditOf 67 = .ok (.getfield 69, 3) := by decide +kernel
theorem dX12_creditOf_70 : decode cX12_creditOf 70 = .ok (.ifCond .ne 7, 3) := by decide +kernel
theorem dX12_creditOf_73 : decode cX12_creditOf 73 = .ok (.iconst 3, 1) := by decide +kernel
theorem dX12_creditOf_74 : decode cX12_creditOf 74 = .ok (.goto 4, 3) := by decide +kernel
theorem dX12_creditOf_77 : decode cX12_creditOf 77 = .ok (.iconst 0, 1) := by decide +kernel
theorem dX12_creditOf_78 : decode cX12_creditOf 78 = .ok (.iadd, 1) := by decide +kernel
theorem dX12_creditOf_79 : decode cX12_creditOf 79 = .ok (.istore 6, 2) := by decide +kernel
theorem dX12_creditOf_81 : decode cX12_creditOf 81 = .ok (.iload_n 3, 1) := by decide +kernel
theorem dX12_creditOf_82 : decode cX12_creditOf 82 = .ok (.tableswitch 80 1 6 #[38, 80, 51, 41, 72, 54], 38) := by decide +kernel
theorem dX12_creditOf_120 : decode cX12_creditOf 120 = .ok (.iload 5, 2) := by decide +kernel
theorem dX12_creditOf_122 : decode cX12_creditOf 122 = .ok (.ireturn, 1) := by decide +kernel
theorem dX12_creditOf_123 : decode cX12_creditOf 123 = .ok (.iload 5, 2) := by decide +kernel
theorem dX12_creditOf_125 : decode cX12_creditOf 125 = .ok (.aload_n 0, 1) := by decide +kernel
theorem dX12_creditOf_126 : decode cX12_creditOf 126 = .ok (.iload_n 1, 1) := by decide +kernel
theorem dX12_creditOf_127 : decode cX12_creditOf 127 = .ok (.iconst 1, 1) := by decide +kernel
theorem dX12_creditOf_128 : decode cX12_creditOf 128 = .ok (.invokevirtual 83, 3) := by decide +kernel
theorem dX12_creditOf_131 : decode cX12_creditOf 131 = .ok (.iadd, 1) := by decide +kernel
theorem dX12_creditOf_132 : decode cX12_creditOf 132 = .ok (.ireturn, 1) := by decide +kernel
theorem dX12_creditOf_133 : decode cX12_creditOf 133 = .ok (.iload 6, 2) := by decide +kernel
theorem dX12_creditOf_135 : decode cX12_creditOf 135 = .ok (.ireturn, 1) := by decide +kernel
theorem dX12_creditOf_136 : decode cX12_creditOf 136 = .ok (.iload 6, 2) := by decide +kernel
theorem dX12_creditOf_138 : decode cX12_creditOf 138 = .ok (.aload_n 0, 1) := by decide +kernel
theorem dX12_creditOf_139 : decode cX12_creditOf 139 = .ok (.getfield 65, 3) := by decide +kernel
theorem dX12_creditOf_142 : decode cX12_creditOf 142 = .ok (.isub, 1) := by decide +kernel
theorem dX12_creditOf_143 : decode cX12_creditOf 143 = .ok (.aload_n 0, 1) := by decide +kernel
theorem dX12_creditOf_144 : decode cX12_creditOf 144 = .ok (.getfield 69, 3) := by decide +kernel
theorem dX12_creditOf_147 : decode cX12_creditOf 147 = .ok (.isub, 1) := by decide +kernel
theorem dX12_creditOf_148 : decode cX12_creditOf 148 = .ok (.aload_n 0, 1) := by decide +kernel
theorem dX12_creditOf_149 : decode cX12_creditOf 149 = .ok (.getfield 72, 3) := by decide +kernel
theorem dX12_creditOf_152 : decode cX12_creditOf 152 = .ok (.isub, 1) := by decide +kernel
theorem dX12_creditOf_153 : decode cX12_creditOf 153 = .ok (.ireturn, 1) := by decide +kernel
theorem dX12_creditOf_154 : decode cX12_creditOf 154 = .ok (.iload 4, 2) := by decide +kernel
theorem dX12_creditOf_156 : decode cX12_creditOf 156 = .ok (.aload_n 0, 1) := by decide +kernel
theorem dX12_creditOf_157 : decode cX12_creditOf 157 = .ok (.getfield 72, 3) := by decide +kernel
theorem dX12_creditOf_160 : decode cX12_creditOf 160 = .ok (.iadd, 1) := by decide +kernel
theorem dX12_creditOf_161 : decode cX12_creditOf 161 = .ok (.ireturn, 1) := by decide +kernel
theorem dX12_creditOf_162 : decode cX12_creditOf 162 = .ok (.iload 4, 2) := by decide +kernel
theorem dX12_creditOf_164 : decode cX12_creditOf 164 = .ok (.ireturn, 1) := by decide +kernel
theorem dX12_floorBy_0 : decode cX12_floorBy 0 = .ok (.aload_n 0, 1) := by decide +kernel
theorem dX12_floorBy_1 : decode cX12_floorBy 1 = .ok (.iload_n 1, 1) := by decide +kernel
theorem dX12_floorBy_2 : decode cX12_floorBy 2 = .ok (.iload_n 2, 1) := by decide +kernel
theorem dX12_floorBy_3 : decode cX12_floorBy 3 = .ok (.invokevirtual 90, 3) := by decide +kernel
theorem dX12_floorBy_6 : decode cX12_floorBy 6 = .ok (.istore_n 3, 1) := by decide +kernel
theorem dX12_floorBy_7 : decode cX12_floorBy 7 = .ok (.iload_n 2, 1) := by decide +kernel
theorem dX12_floorBy_8 : decode cX12_floorBy 8 = .ok (.ifCond .ne 7, 3) := by decide +kernel
theorem dX12_floorBy_11 : decode cX12_floorBy 11 = .ok (.iconst (-1), 1) := by decide +kernel
theorem dX12_floorBy_12 : decode cX12_floorBy 12 = .ok (.goto 10, 3) := by decide +kernel
theorem dX12_floorBy_15 : decode cX12_floorBy 15 = .ok (.iload_n 3, 1) := by decide +kernel
theorem dX12_floorBy_16 : decode cX12_floorBy 16 = .ok (.iconst 0, 1) := by decide +kernel
theorem dX12_floorBy_17 : decode cX12_floorBy 17 = .ok (.bipush 9, 2) := by decide +kernel
theorem dX12_floorBy_19 : decode cX12_floorBy 19 = .ok (.invokestatic 93, 3) := by decide +kernel
theorem dX12_floorBy_22 : decode cX12_floorBy 22 = .ok (.ireturn, 1) := by decide +kernel
theorem dX12_floorOf_0 : decode cX12_floorOf 0 = .ok (.aload_n 0, 1) := by decide +kernel
theorem dX12_floorOf_1 : decode cX12_floorOf 1 = .ok (.iload_n 1, 1) := by decide +kernel
theorem dX12_floorOf_2 : decode cX12_floorOf 2 = .ok (.aload_n 0, 1) := by decide +kernel
theorem dX12_floorOf_3 : decode cX12_floorOf 3 = .ok (.iload_n 1, 1) := by decide +kernel
theorem dX12_floorOf_4 : decode cX12_floorOf 4 = .ok (.iconst 2, 1) := by decide +kernel
theorem dX12_floorOf_5 : decode cX12_floorOf 5 = .ok (.invokevirtual 83, 3) := by decide +kernel
theorem dX12_floorOf_8 : decode cX12_floorOf 8 = .ok (.invokevirtual 97, 3) := by decide +kernel
theorem dX12_floorOf_11 : decode cX12_floorOf 11 = .ok (.ireturn, 1) := by decide +kernel
theorem dX12_worldStory_0 : decode cX12_worldStory 0 = .ok (.iconst 0, 1) := by decide +kernel
theorem dX12_worldStory_1 : decode cX12_worldStory 1 = .ok (.istore_n 1, 1) := by decide +kernel
theorem dX12_worldStory_2 : decode cX12_worldStory 2 = .ok (.iconst 0, 1) := by decide +kernel
theorem dX12_worldStory_3 : decode cX12_worldStory 3 = .ok (.istore_n 2, 1) := by decide +kernel
theorem dX12_worldStory_4 : decode cX12_worldStory 4 = .ok (.iload_n 2, 1) := by decide +kernel
theorem dX12_worldStory_5 : decode cX12_worldStory 5 = .ok (.bipush 8, 2) := by decide +kernel
theorem dX12_worldStory_7 : decode cX12_worldStory 7 = .ok (.if_icmp .ge 32, 3) := by decide +kernel
theorem dX12_worldStory_10 : decode cX12_worldStory 10 = .ok (.iload_n 1, 1) := by decide +kernel
theorem dX12_worldStory_11 : decode cX12_worldStory 11 = .ok (.aload_n 0, 1) := by decide +kernel
theorem dX12_worldStory_12 : decode cX12_worldStory 12 = .ok (.getfield 22, 3) := by decide +kernel
theorem dX12_worldStory_15 : decode cX12_worldStory 15 = .ok (.iload_n 2, 1) := by decide +kernel
theorem dX12_worldStory_16 : decode cX12_worldStory 16 = .ok (.iaload, 1) := by decide +kernel
theorem dX12_worldStory_17 : decode cX12_worldStory 17 = .ok (.iconst 2, 1) := by decide +kernel
theorem dX12_worldStory_18 : decode cX12_worldStory 18 = .ok (.aload_n 0, 1) := by decide +kernel
theorem dX12_worldStory_19 : decode cX12_worldStory 19 = .ok (.getfield 7, 3) := by decide +kernel
theorem dX12_worldStory_22 : decode cX12_worldStory 22 = .ok (.bipush 8, 2) := by decide +kernel
theorem dX12_worldStory_24 : decode cX12_worldStory 24 = .ok (.iaload, 1) := by decide +kernel
theorem dX12_worldStory_25 : decode cX12_worldStory 25 = .ok (.iload_n 2, 1) := by decide +kernel
theorem dX12_worldStory_26 : decode cX12_worldStory 26 = .ok (.ishr, 1) := by decide +kernel
theorem dX12_worldStory_27 : decode cX12_worldStory 27 = .ok (.iconst 1, 1) := by decide +kernel
theorem dX12_worldStory_28 : decode cX12_worldStory 28 = .ok (.iand, 1) := by decide +kernel
theorem dX12_worldStory_29 : decode cX12_worldStory 29 = .ok (.isub, 1) := by decide +kernel
theorem dX12_worldStory_30 : decode cX12_worldStory 30 = .ok (.imul, 1) := by decide +kernel
theorem dX12_worldStory_31 : decode cX12_worldStory 31 = .ok (.iadd, 1) := by decide +kernel
theorem dX12_worldStory_32 : decode cX12_worldStory 32 = .ok (.istore_n 1, 1) := by decide +kernel
theorem dX12_worldStory_33 : decode cX12_worldStory 33 = .ok (.iinc 2 1, 3) := by decide +kernel
theorem dX12_worldStory_36 : decode cX12_worldStory 36 = .ok (.goto (-32), 3) := by decide +kernel
theorem dX12_worldStory_39 : decode cX12_worldStory 39 = .ok (.iload_n 1, 1) := by decide +kernel
theorem dX12_worldStory_40 : decode cX12_worldStory 40 = .ok (.ireturn, 1) := by decide +kernel
theorem dX12_isTrue_0 : decode cX12_isTrue 0 = .ok (.iconst 1, 1) := by decide +kernel
theorem dX12_isTrue_1 : decode cX12_isTrue 1 = .ok (.istore_n 3, 1) := by decide +kernel
theorem dX12_isTrue_2 : decode cX12_isTrue 2 = .ok (.iconst 0, 1) := by decide +kernel
theorem dX12_isTrue_3 : decode cX12_isTrue 3 = .ok (.istore 4, 2) := by decide +kernel
theorem dX12_isTrue_5 : decode cX12_isTrue 5 = .ok (.iload 4, 2) := by decide +kernel
theorem dX12_isTrue_7 : decode cX12_isTrue 7 = .ok (.bipush 8, 2) := by decide +kernel
theorem dX12_isTrue_9 : decode cX12_isTrue 9 = .ok (.if_icmp .ge 45, 3) := by decide +kernel
theorem dX12_isTrue_12 : decode cX12_isTrue 12 = .ok (.aload_n 0, 1) := by decide +kernel
theorem dX12_isTrue_13 : decode cX12_isTrue 13 = .ok (.iload_n 1, 1) := by decide +kernel
theorem dX12_isTrue_14 : decode cX12_isTrue 14 = .ok (.iload 4, 2) := by decide +kernel
theorem dX12_isTrue_16 : decode cX12_isTrue 16 = .ok (.invokevirtual 75, 3) := by decide +kernel
theorem dX12_isTrue_19 : decode cX12_isTrue 19 = .ok (.istore 5, 2) := by decide +kernel
theorem dX12_isTrue_21 : decode cX12_isTrue 21 = .ok (.iload_n 3, 1) := by decide +kernel
theorem dX12_isTrue_22 : decode cX12_isTrue 22 = .ok (.ifCond .eq 24, 3) := by decide +kernel
theorem dX12_isTrue_25 : decode cX12_isTrue 25 = .ok (.iload 5, 2) := by decide +kernel
theorem dX12_isTrue_27 : decode cX12_isTrue 27 = .ok (.ifCond .eq 15, 3) := by decide +kernel
theorem dX12_isTrue_30 : decode cX12_isTrue 30 = .ok (.iload 5, 2) := by decide +kernel
theorem dX12_isTrue_32 : decode cX12_isTrue 32 = .ok (.aload_n 0, 1) := by decide +kernel
theorem dX12_isTrue_33 : decode cX12_isTrue 33 = .ok (.iload_n 2, 1) := by decide +kernel
theorem dX12_isTrue_34 : decode cX12_isTrue 34 = .ok (.iload 4, 2) := by decide +kernel
theorem dX12_isTrue_36 : decode cX12_isTrue 36 = .ok (.invokevirtual 75, 3) := by decide +kernel
theorem dX12_isTrue_39 : decode cX12_isTrue 39 = .ok (.if_icmp .ne 7, 3) := by decide +kernel
theorem dX12_isTrue_42 : decode cX12_isTrue 42 = .ok (.iconst 1, 1) := by decide +kernel
theorem dX12_isTrue_43 : decode cX12_isTrue 43 = .ok (.goto 4, 3) := by decide +kernel
theorem dX12_isTrue_46 : decode cX12_isTrue 46 = .ok (.iconst 0, 1) := by decide +kernel
theorem dX12_isTrue_47 : decode cX12_isTrue 47 = .ok (.istore_n 3, 1) := by decide +kernel
theorem dX12_isTrue_48 : decode cX12_isTrue 48 = .ok (.iinc 4 1, 3) := by decide +kernel
theorem dX12_isTrue_51 : decode cX12_isTrue 51 = .ok (.goto (-46), 3) := by decide +kernel
theorem dX12_isTrue_54 : decode cX12_isTrue 54 = .ok (.iload_n 3, 1) := by decide +kernel
theorem dX12_isTrue_55 : decode cX12_isTrue 55 = .ok (.ireturn, 1) := by decide +kernel
theorem dX12_ofRider_0 : decode cX12_ofRider 0 = .ok (.aload_n 0, 1) := by decide +kernel
theorem dX12_ofRider_1 : decode cX12_ofRider 1 = .ok (.iload_n 1, 1) := by decide +kernel
theorem dX12_ofRider_2 : decode cX12_ofRider 2 = .ok (.invokevirtual 100, 3) := by decide +kernel
theorem dX12_ofRider_5 : decode cX12_ofRider 5 = .ok (.ifCond .eq 13, 3) := by decide +kernel
theorem dX12_ofRider_8 : decode cX12_ofRider 8 = .ok (.iload_n 2, 1) := by decide +kernel
theorem dX12_ofRider_9 : decode cX12_ofRider 9 = .ok (.iconst 0, 1) := by decide +kernel
theorem dX12_ofRider_10 : decode cX12_ofRider 10 = .ok (.bipush 9, 2) := by decide +kernel
theorem dX12_ofRider_12 : decode cX12_ofRider 12 = .ok (.invokestatic 47, 3) := by decide +kernel
theorem dX12_ofRider_15 : decode cX12_ofRider 15 = .ok (.ifCond .ne 10, 3) := by decide +kernel
theorem dX12_ofRider_18 : decode cX12_ofRider 18 = .ok (.aload_n 0, 1) := by decide +kernel
theorem dX12_ofRider_19 : decode cX12_ofRider 19 = .ok (.ldc 55, 2) := by decide +kernel
theorem dX12_ofRider_21 : decode cX12_ofRider 21 = .ok (.invokevirtual 56, 3) := by decide +kernel
theorem dX12_ofRider_24 : decode cX12_ofRider 24 = .ok (.ireturn, 1) := by decide +kernel
theorem dX12_ofRider_25 : decode cX12_ofRider 25 = .ok (.aload_n 0, 1) := by decide +kernel
theorem dX12_ofRider_26 : decode cX12_ofRider 26 = .ok (.iload_n 1, 1) := by decide +kernel
theorem dX12_ofRider_27 : decode cX12_ofRider 27 = .ok (.iconst 2, 1) := by decide +kernel
theorem dX12_ofRider_28 : decode cX12_ofRider 28 = .ok (.invokevirtual 83, 3) := by decide +kernel
theorem dX12_ofRider_31 : decode cX12_ofRider 31 = .ok (.istore_n 3, 1) := by decide +kernel
theorem dX12_ofRider_32 : decode cX12_ofRider 32 = .ok (.aload_n 0, 1) := by decide +kernel
theorem dX12_ofRider_33 : decode cX12_ofRider 33 = .ok (.iload_n 3, 1) := by decide +kernel
theorem dX12_ofRider_34 : decode cX12_ofRider 34 = .ok (.invokevirtual 79, 3) := by decide +kernel
theorem dX12_ofRider_37 : decode cX12_ofRider 37 = .ok (.iload_n 2, 1) := by decide +kernel
theorem dX12_ofRider_38 : decode cX12_ofRider 38 = .ok (.tableswitch 103 3 9 #[42, 57, 62, 67, 72, 79, 85], 42) := by decide +kernel
theorem dX12_ofRider_80 : decode cX12_ofRider 80 = .ok (.aload_n 0, 1) := by decide +kernel
theorem dX12_ofRider_81 : decode cX12_ofRider 81 = .ok (.getfield 65, 3) := by decide +kernel
theorem dX12_ofRider_84 : decode cX12_ofRider 84 = .ok (.aload_n 0, 1) := by decide +kernel
theorem dX12_ofRider_85 : decode cX12_ofRider 85 = .ok (.getfield 69, 3) := by decide +kernel
theorem dX12_ofRider_88 : decode cX12_ofRider 88 = .ok (.iadd, 1) := by decide +kernel
theorem dX12_ofRider_89 : decode cX12_ofRider 89 = .ok (.aload_n 0, 1) := by decide +kernel
theorem dX12_ofRider_90 : decode cX12_ofRider 90 = .ok (.getfield 72, 3) := by decide +kernel
theorem dX12_ofRider_93 : decode cX12_ofRider 93 = .ok (.iadd, 1) := by decide +kernel
theorem dX12_ofRider_94 : decode cX12_ofRider 94 = .ok (.ireturn, 1) := by decide +kernel
theorem dX12_ofRider_95 : decode cX12_ofRider 95 = .ok (.aload_n 0, 1) := by decide +kernel
theorem dX12_ofRider_96 : decode cX12_ofRider 96 = .ok (.getfield 65, 3) := by decide +kernel
theorem dX12_ofRider_99 : decode cX12_ofRider 99 = .ok (.ireturn, 1) := by decide +kernel
theorem dX12_ofRider_100 : decode cX12_ofRider 100 = .ok (.aload_n 0, 1) := by decide +kernel
theorem dX12_ofRider_101 : decode cX12_ofRider 101 = .ok (.getfield 69, 3) := by decide +kernel
theorem dX12_ofRider_104 : decode cX12_ofRider 104 = .ok (.ireturn, 1) := by decide +kernel
theorem dX12_ofRider_105 : decode cX12_ofRider 105 = .ok (.aload_n 0, 1) := by decide +kernel
theorem dX12_ofRider_106 : decode cX12_ofRider 106 = .ok (.getfield 72, 3) := by decide +kernel
theorem dX12_ofRider_109 : decode cX12_ofRider 109 = .ok (.ireturn, 1) := by decide +kernel
theorem dX12_ofRider_110 : decode cX12_ofRider 110 = .ok (.aload_n 0, 1) := by decide +kernel
theorem dX12_ofRider_111 : decode cX12_ofRider 111 = .ok (.iload_n 1, 1) := by decide +kernel
theorem dX12_ofRider_112 : decode cX12_ofRider 112 = .ok (.iload_n 3, 1) := by decide +kernel
theorem dX12_ofRider_113 : decode cX12_ofRider 113 = .ok (.invokevirtual 90, 3) := by decide +kernel
theorem dX12_ofRider_116 : decode cX12_ofRider 116 = .ok (.ireturn, 1) := by decide +kernel
theorem dX12_ofRider_117 : decode cX12_ofRider 117 = .ok (.aload_n 0, 1) := by decide +kernel
theorem dX12_ofRider_118 : decode cX12_ofRider 118 = .ok (.iload_n 1, 1) := by decide +kernel
theorem dX12_ofRider_119 : decode cX12_ofRider 119 = .ok (.invokevirtual 103, 3) := by decide +kernel
theorem dX12_ofRider_122 : decode cX12_ofRider 122 = .ok (.ireturn, 1) := by decide +kernel
theorem dX12_ofRider_123 : decode cX12_ofRider 123 = .ok (.aload_n 0, 1) := by decide +kernel
theorem dX12_ofRider_124 : decode cX12_ofRider 124 = .ok (.iload_n 3, 1) := by decide +kernel
theorem dX12_ofRider_125 : decode cX12_ofRider 125 = .ok (.aload_n 0, 1) := by decide +kernel
theorem dX12_ofRider_126 : decode cX12_ofRider 126 = .ok (.invokevirtual 106, 3) := by decide +kernel
theorem dX12_ofRider_129 : decode cX12_ofRider 129 = .ok (.invokevirtual 109, 3) := by decide +kernel
theorem dX12_ofRider_132 : decode cX12_ofRider 132 = .ok (.ifCond .eq 7, 3) := by decide +kernel
theorem dX12_ofRider_135 : decode cX12_ofRider 135 = .ok (.iconst 1, 1) := by decide +kernel
theorem dX12_ofRider_136 : decode cX12_ofRider 136 = .ok (.goto 4, 3) := by decide +kernel
theorem dX12_ofRider_139 : decode cX12_ofRider 139 = .ok (.iconst 0, 1) := by decide +kernel
theorem dX12_ofRider_140 : decode cX12_ofRider 140 = .ok (.ireturn, 1) := by decide +kernel
theorem dX12_ofRider_141 : decode cX12_ofRider 141 = .ok (.aload_n 0, 1) := by decide +kernel
theorem dX12_ofRider_142 : decode cX12_ofRider 142 = .ok (.iload_n 1, 1) := by decide +kernel
theorem dX12_ofRider_143 : decode cX12_ofRider 143 = .ok (.iload_n 2, 1) := by decide +kernel
theorem dX12_ofRider_144 : decode cX12_ofRider 144 = .ok (.invokevirtual 83, 3) := by decide +kernel
theorem dX12_ofRider_147 : decode cX12_ofRider 147 = .ok (.ireturn, 1) := by decide +kernel
theorem dX12_story_0 : decode cX12_story 0 = .ok (.aload_n 0, 1) := by decide +kernel
theorem dX12_story_1 : decode cX12_story 1 = .ok (.iload_n 1, 1) := by decide +kernel
theorem dX12_story_2 : decode cX12_story 2 = .ok (.invokevirtual 100, 3) := by decide +kernel
theorem dX12_story_5 : decode cX12_story 5 = .ok (.ifCond .eq 14, 3) := by decide +kernel
theorem dX12_story_8 : decode cX12_story 8 = .ok (.iload_n 2, 1) := by decide +kernel
theorem dX12_story_9 : decode cX12_story 9 = .ok (.iconst 0, 1) := by decide +kernel
theorem dX12_story_10 : decode cX12_story 10 = .ok (.sipush 6560, 3) := by decide +kernel
theorem dX12_story_13 : decode cX12_story 13 = .ok (.invokestatic 47, 3) := by decide +kernel
theorem dX12_story_16 : decode cX12_story 16 = .ok (.ifCond .ne 10, 3) := by decide +kernel
theorem dX12_story_19 : decode cX12_story 19 = .ok (.aload_n 0, 1) := by decide +kernel
theorem dX12_story_20 : decode cX12_story 20 = .ok (.ldc 55, 2) := by decide +kernel
theorem dX12_story_22 : decode cX12_story 22 = .ok (.invokevirtual 56, 3) := by decide +kernel
theorem dX12_story_25 : decode cX12_story 25 = .ok (.ireturn, 1) := by decide +kernel
theorem dX12_story_26 : decode cX12_story 26 = .ok (.aload_n 0, 1) := by decide +kernel
theorem dX12_story_27 : decode cX12_story 27 = .ok (.iload_n 1, 1) := by decide +kernel
theorem dX12_story_28 : decode cX12_story 28 = .ok (.iconst 2, 1) := by decide +kernel
theorem dX12_story_29 : decode cX12_story 29 = .ok (.invokevirtual 83, 3) := by decide +kernel
theorem dX12_story_32 : decode cX12_story 32 = .ok (.istore_n 3, 1) := by decide +kernel
theorem dX12_story_33 : decode cX12_story 33 = .ok (.aload_n 0, 1) := by decide +kernel
theorem dX12_story_34 : decode cX12_story 34 = .ok (.getfield 7, 3) := by decide +kernel
theorem dX12_story_37 : decode cX12_story 37 = .ok (.bipush 18, 2) := by decide +kernel
theorem dX12_story_39 : decode cX12_story 39 = .ok (.iconst 3, 1) := by decide +kernel
theorem dX12_story_40 : decode cX12_story 40 = .ok (.iload_n 1, 1) := by decide +kernel
theorem dX12_story_41 : decode cX12_story 41 = .ok (.imul, 1) := by decide +kernel
theorem dX12_story_42 : decode cX12_story 42 = .ok (.iadd, 1) := by decide +kernel
theorem dX12_story_43 : decode cX12_story 43 = .ok (.iconst 2, 1) := by decide +kernel
theorem dX12_story_44 : decode cX12_story 44 = .ok (.iadd, 1) := by decide +kernel
theorem dX12_story_45 : decode cX12_story 45 = .ok (.iload_n 2, 1) := by decide +kernel
theorem dX12_story_46 : decode cX12_story 46 = .ok (.iastore, 1) := by decide +kernel
theorem dX12_story_47 : decode cX12_story 47 = .ok (.iload_n 3, 1) := by decide +kernel
theorem dX12_story_48 : decode cX12_story 48 = .ok (.ireturn, 1) := by decide +kernel
theorem dX12_say_0 : decode cX12_say 0 = .ok (.aload_n 0, 1) := by decide +kernel
theorem dX12_say_1 : decode cX12_say 1 = .ok (.iload_n 1, 1) := by decide +kernel
theorem dX12_say_2 : decode cX12_say 2 = .ok (.invokevirtual 100, 3) := by decide +kernel
theorem dX12_say_5 : decode cX12_say 5 = .ok (.ifCond .eq 19, 3) := by decide +kernel
theorem dX12_say_8 : decode cX12_say 8 = .ok (.iload_n 2, 1) := by decide +kernel
theorem dX12_say_9 : decode cX12_say 9 = .ok (.invokestatic 51, 3) := by decide +kernel
theorem dX12_say_12 : decode cX12_say 12 = .ok (.ifCond .eq 12, 3) := by decide +kernel
theorem dX12_say_15 : decode cX12_say 15 = .ok (.iload_n 3, 1) := by decide +kernel
theorem dX12_say_16 : decode cX12_say 16 = .ok (.iconst 0, 1) := by decide +kernel
theorem dX12_say_17 : decode cX12_say 17 = .ok (.iconst 2, 1) := by decide +kernel
theorem dX12_say_18 : decode cX12_say 18 = .ok (.invokestatic 47, 3) := by decide +kernel
theorem dX12_say_21 : decode cX12_say 21 = .ok (.ifCond .ne 10, 3) := by decide +kernel
theorem dX12_say_24 : decode cX12_say 24 = .ok (.aload_n 0, 1) := by decide +kernel
theorem dX12_say_25 : decode cX12_say 25 = .ok (.ldc 55, 2) := by decide +kernel
theorem dX12_say_27 : decode cX12_say 27 = .ok (.invokevirtual 56, 3) := by decide +kernel
theorem dX12_say_30 : decode cX12_say 30 = .ok (.ireturn, 1) := by decide +kernel
theorem dX12_say_31 : decode cX12_say 31 = .ok (.aload_n 0, 1) := by decide +kernel
theorem dX12_say_32 : decode cX12_say 32 = .ok (.aload_n 0, 1) := by decide +kernel
theorem dX12_say_33 : decode cX12_say 33 = .ok (.iload_n 1, 1) := by decide +kernel
theorem dX12_say_34 : decode cX12_say 34 = .ok (.iconst 2, 1) := by decide +kernel
theorem dX12_say_35 : decode cX12_say 35 = .ok (.invokevirtual 83, 3) := by decide +kernel
theorem dX12_say_38 : decode cX12_say 38 = .ok (.iload_n 2, 1) := by decide +kernel
theorem dX12_say_39 : decode cX12_say 39 = .ok (.invokevirtual 75, 3) := by decide +kernel
theorem dX12_say_42 : decode cX12_say 42 = .ok (.istore 4, 2) := by decide +kernel
theorem dX12_say_44 : decode cX12_say 44 = .ok (.aload_n 0, 1) := by decide +kernel
theorem dX12_say_45 : decode cX12_say 45 = .ok (.getfield 7, 3) := by decide +kernel
theorem dX12_say_48 : decode cX12_say 48 = .ok (.bipush 18, 2) := by decide +kernel
theorem dX12_say_50 : decode cX12_say 50 = .ok (.iconst 3, 1) := by decide +kernel
theorem dX12_say_51 : decode cX12_say 51 = .ok (.iload_n 1, 1) := by decide +kernel
theorem dX12_say_52 : decode cX12_say 52 = .ok (.imul, 1) := by decide +kernel
theorem dX12_say_53 : decode cX12_say 53 = .ok (.iadd, 1) := by decide +kernel
theorem dX12_say_54 : decode cX12_say 54 = .ok (.iconst 2, 1) := by decide +kernel
theorem dX12_say_55 : decode cX12_say 55 = .ok (.iadd, 1) := by decide +kernel
theorem dX12_say_56 : decode cX12_say 56 = .ok (.dup2, 1) := by decide +kernel
theorem dX12_say_57 : decode cX12_say 57 = .ok (.iaload, 1) := by decide +kernel
theorem dX12_say_58 : decode cX12_say 58 = .ok (.aload_n 0, 1) := by decide +kernel
theorem dX12_say_59 : decode cX12_say 59 = .ok (.getfield 22, 3) := by decide +kernel
theorem dX12_say_62 : decode cX12_say 62 = .ok (.iload_n 2, 1) := by decide +kernel
theorem dX12_say_63 : decode cX12_say 63 = .ok (.iaload, 1) := by decide +kernel
theorem dX12_say_64 : decode cX12_say 64 = .ok (.iload_n 3, 1) := by decide +kernel
theorem dX12_say_65 : decode cX12_say 65 = .ok (.iload 4, 2) := by decide +kernel
theorem dX12_say_67 : decode cX12_say 67 = .ok (.isub, 1) := by decide +kernel
theorem dX12_say_68 : decode cX12_say 68 = .ok (.imul, 1) := by decide +kernel
theorem dX12_say_69 : decode cX12_say 69 = .ok (.iadd, 1) := by decide +kernel
theorem dX12_say_70 : decode cX12_say 70 = .ok (.iastore, 1) := by decide +kernel
theorem dX12_say_71 : decode cX12_say 71 = .ok (.iload 4, 2) := by decide +kernel
theorem dX12_say_73 : decode cX12_say 73 = .ok (.ireturn, 1) := by decide +kernel
theorem dX12_become_0 : decode cX12_become 0 = .ok (.aload_n 0, 1) := by decide +kernel
theorem dX12_become_1 : decode cX12_become 1 = .ok (.iload_n 1, 1) := by decide +kernel
theorem dX12_become_2 : decode cX12_become 2 = .ok (.invokevirtual 100, 3) := by decide +kernel
theorem dX12_become_5 : decode cX12_become 5 = .ok (.ifCond .eq 13, 3) := by decide +kernel
theorem dX12_become_8 : decode cX12_become 8 = .ok (.iload_n 2, 1) := by decide +kernel
theorem dX12_become_9 : decode cX12_become 9 = .ok (.iconst 0, 1) := by decide +kernel
theorem dX12_become_10 : decode cX12_become 10 = .ok (.bipush 69, 2) := by decide +kernel
theorem dX12_become_12 : decode cX12_become 12 = .ok (.invokestatic 47, 3) := by decide +kernel
theorem dX12_become_15 : decode cX12_become 15 = .ok (.ifCond .ne 10, 3) := by decide +kernel
theorem dX12_become_18 : decode cX12_become 18 = .ok (.aload_n 0, 1) := by decide +kernel
theorem dX12_become_19 : decode cX12_become 19 = .ok (.ldc 55, 2) := by decide +kernel
theorem dX12_become_21 : decode cX12_become 21 = .ok (.invokevirtual 56, 3) := by decide +kernel
theorem dX12_become_24 : decode cX12_become 24 = .ok (.ireturn, 1) := by decide +kernel
theorem dX12_become_25 : decode cX12_become 25 = .ok (.aload_n 0, 1) := by decide +kernel
theorem dX12_become_26 : decode cX12_become 26 = .ok (.iload_n 1, 1) := by decide +kernel
theorem dX12_become_27 : decode cX12_become 27 = .ok (.iconst 0, 1) := by decide +kernel
theorem dX12_become_28 : decode cX12_become 28 = .ok (.invokevirtual 83, 3) := by decide +kernel
theorem dX12_become_31 : decode cX12_become 31 = .ok (.istore_n 3, 1) := by decide +kernel
theorem dX12_become_32 : decode cX12_become 32 = .ok (.aload_n 0, 1) := by decide +kernel
theorem dX12_become_33 : decode cX12_become 33 = .ok (.getfield 7, 3) := by decide +kernel
theorem dX12_become_36 : decode cX12_become 36 = .ok (.bipush 18, 2) := by decide +kernel
theorem dX12_become_38 : decode cX12_become 38 = .ok (.iconst 3, 1) := by decide +kernel
theorem dX12_become_39 : decode cX12_become 39 = .ok (.iload_n 1, 1) := by decide +kernel
theorem dX12_become_40 : decode cX12_become 40 = .ok (.imul, 1) := by decide +kernel
theorem dX12_become_41 : decode cX12_become 41 = .ok (.iadd, 1) := by decide +kernel
theorem dX12_become_42 : decode cX12_become 42 = .ok (.iload_n 2, 1) := by decide +kernel
theorem dX12_become_43 : decode cX12_become 43 = .ok (.bipush 10, 2) := by decide +kernel
theorem dX12_become_45 : decode cX12_become 45 = .ok (.idiv, 1) := by decide +kernel
theorem dX12_become_46 : decode cX12_become 46 = .ok (.iastore, 1) := by decide +kernel
theorem dX12_become_47 : decode cX12_become 47 = .ok (.aload_n 0, 1) := by decide +kernel
theorem dX12_become_48 : decode cX12_become 48 = .ok (.getfield 7, 3) := by decide +kernel
theorem dX12_become_51 : decode cX12_become 51 = .ok (.bipush 18, 2) := by decide +kernel
theorem dX12_become_53 : decode cX12_become 53 = .ok (.iconst 3, 1) := by decide +kernel
theorem dX12_become_54 : decode cX12_become 54 = .ok (.iload_n 1, 1) := by decide +kernel
theorem dX12_become_55 : decode cX12_become 55 = .ok (.imul, 1) := by decide +kernel
theorem dX12_become_56 : decode cX12_become 56 = .ok (.iadd, 1) := by decide +kernel
theorem dX12_become_57 : decode cX12_become 57 = .ok (.iconst 1, 1) := by decide +kernel
theorem dX12_become_58 : decode cX12_become 58 = .ok (.iadd, 1) := by decide +kernel
theorem dX12_become_59 : decode cX12_become 59 = .ok (.iload_n 2, 1) := by decide +kernel
theorem dX12_become_60 : decode cX12_become 60 = .ok (.bipush 10, 2) := by decide +kernel
theorem dX12_become_62 : decode cX12_become 62 = .ok (.irem, 1) := by decide +kernel
theorem dX12_become_63 : decode cX12_become 63 = .ok (.iastore, 1) := by decide +kernel
theorem dX12_become_64 : decode cX12_become 64 = .ok (.iload_n 3, 1) := by decide +kernel
theorem dX12_become_65 : decode cX12_become 65 = .ok (.ireturn, 1) := by decide +kernel
theorem dX12_above_0 : decode cX12_above 0 = .ok (.iload_n 0, 1) := by decide +kernel
theorem dX12_above_1 : decode cX12_above 1 = .ok (.ifCond .ne 7, 3) := by decide +kernel
theorem dX12_above_4 : decode cX12_above 4 = .ok (.iconst (-1), 1) := by decide +kernel
theorem dX12_above_5 : decode cX12_above 5 = .ok (.goto 32, 3) := by decide +kernel
theorem dX12_above_8 : decode cX12_above 8 = .ok (.iload_n 0, 1) := by decide +kernel
theorem dX12_above_9 : decode cX12_above 9 = .ok (.iconst 4, 1) := by decide +kernel
theorem dX12_above_10 : decode cX12_above 10 = .ok (.if_icmp .ne 7, 3) := by decide +kernel
theorem dX12_above_13 : decode cX12_above 13 = .ok (.iconst 1, 1) := by decide +kernel
theorem dX12_above_14 : decode cX12_above 14 = .ok (.goto 23, 3) := by decide +kernel
theorem dX12_above_17 : decode cX12_above 17 = .ok (.iload_n 0, 1) := by decide +kernel
theorem dX12_above_18 : decode cX12_above 18 = .ok (.iconst 5, 1) := by decide +kernel
theorem dX12_above_19 : decode cX12_above 19 = .ok (.if_icmp .ne 7, 3) := by decide +kernel
theorem dX12_above_22 : decode cX12_above 22 = .ok (.iconst 2, 1) := by decide +kernel
theorem dX12_above_23 : decode cX12_above 23 = .ok (.goto 14, 3) := by decide +kernel
theorem dX12_above_26 : decode cX12_above 26 = .ok (.iload_n 0, 1) := by decide +kernel
theorem dX12_above_27 : decode cX12_above 27 = .ok (.bipush 6, 2) := by decide +kernel
theorem dX12_above_29 : decode cX12_above 29 = .ok (.if_icmp .ne 7, 3) := by decide +kernel
theorem dX12_above_32 : decode cX12_above 32 = .ok (.iconst 3, 1) := by decide +kernel
theorem dX12_above_33 : decode cX12_above 33 = .ok (.goto 4, 3) := by decide +kernel
theorem dX12_above_36 : decode cX12_above 36 = .ok (.iconst 0, 1) := by decide +kernel
theorem dX12_above_37 : decode cX12_above 37 = .ok (.ireturn, 1) := by decide +kernel
theorem dX12_as_0 : decode cX12_as 0 = .ok (.aload_n 0, 1) := by decide +kernel
theorem dX12_as_1 : decode cX12_as 1 = .ok (.iload_n 1, 1) := by decide +kernel
theorem dX12_as_2 : decode cX12_as 2 = .ok (.invokevirtual 100, 3) := by decide +kernel
theorem dX12_as_5 : decode cX12_as 5 = .ok (.ifCond .eq 13, 3) := by decide +kernel
theorem dX12_as_8 : decode cX12_as 8 = .ok (.iload_n 2, 1) := by decide +kernel
theorem dX12_as_9 : decode cX12_as 9 = .ok (.iconst 0, 1) := by decide +kernel
theorem dX12_as_10 : decode cX12_as 10 = .ok (.bipush 6, 2) := by decide +kernel
theorem dX12_as_12 : decode cX12_as 12 = .ok (.invokestatic 47, 3) := by decide +kernel
theorem dX12_as_15 : decode cX12_as 15 = .ok (.ifCond .ne 10, 3) := by decide +kernel
theorem dX12_as_18 : decode cX12_as 18 = .ok (.aload_n 0, 1) := by decide +kernel
theorem dX12_as_19 : decode cX12_as 19 = .ok (.ldc 55, 2) := by decide +kernel
theorem dX12_as_21 : decode cX12_as 21 = .ok (.invokevirtual 56, 3) := by decide +kernel
theorem dX12_as_24 : decode cX12_as 24 = .ok (.ireturn, 1) := by decide +kernel
theorem dX12_as_25 : decode cX12_as 25 = .ok (.aload_n 0, 1) := by decide +kernel
theorem dX12_as_26 : decode cX12_as 26 = .ok (.iload_n 1, 1) := by decide +kernel
theorem dX12_as_27 : decode cX12_as 27 = .ok (.iconst 0, 1) := by decide +kernel
theorem dX12_as_28 : decode cX12_as 28 = .ok (.invokevirtual 83, 3) := by decide +kernel
theorem dX12_as_31 : decode cX12_as 31 = .ok (.istore_n 3, 1) := by decide +kernel
theorem dX12_as_32 : decode cX12_as 32 = .ok (.iload_n 3, 1) := by decide +kernel
theorem dX12_as_33 : decode cX12_as 33 = .ok (.ifCond .lt 16, 3) := by decide +kernel
theorem dX12_as_36 : decode cX12_as 36 = .ok (.iload_n 3, 1) := by decide +kernel
theorem dX12_as_37 : decode cX12_as 37 = .ok (.iload_n 2, 1) := by decide +kernel
theorem dX12_as_38 : decode cX12_as 38 = .ok (.if_icmp .eq 11, 3) := by decide +kernel
theorem dX12_as_41 : decode cX12_as 41 = .ok (.iload_n 3, 1) := by decide +kernel
theorem dX12_as_42 : decode cX12_as 42 = .ok (.invokestatic 113, 3) := by decide +kernel
theorem dX12_as_45 : decode cX12_as 45 = .ok (.istore_n 3, 1) := by decide +kernel
theorem dX12_as_46 : decode cX12_as 46 = .ok (.goto (-14), 3) := by decide +kernel
theorem dX12_as_49 : decode cX12_as 49 = .ok (.iload_n 3, 1) := by decide +kernel
theorem dX12_as_50 : decode cX12_as 50 = .ok (.ifCond .ge 12, 3) := by decide +kernel
theorem dX12_as_53 : decode cX12_as 53 = .ok (.aload_n 0, 1) := by decide +kernel
theorem dX12_as_54 : decode cX12_as 54 = .ok (.ldc 116, 2) := by decide +kernel
theorem dX12_as_56 : decode cX12_as 56 = .ok (.invokevirtual 56, 3) := by decide +kernel
theorem dX12_as_59 : decode cX12_as 59 = .ok (.goto 9, 3) := by decide +kernel
theorem dX12_as_62 : decode cX12_as 62 = .ok (.aload_n 0, 1) := by decide +kernel
theorem dX12_as_63 : decode cX12_as 63 = .ok (.iload_n 1, 1) := by decide +kernel
theorem dX12_as_64 : decode cX12_as 64 = .ok (.iconst 1, 1) := by decide +kernel
theorem dX12_as_65 : decode cX12_as 65 = .ok (.invokevirtual 83, 3) := by decide +kernel
theorem dX12_as_68 : decode cX12_as 68 = .ok (.ireturn, 1) := by decide +kernel
theorem dX12_byteAt_0 : decode cX12_byteAt 0 = .ok (.iload_n 1, 1) := by decide +kernel
theorem dX12_byteAt_1 : decode cX12_byteAt 1 = .ok (.aload_n 0, 1) := by decide +kernel
theorem dX12_byteAt_2 : decode cX12_byteAt 2 = .ok (.getfield 117, 3) := by decide +kernel
theorem dX12_byteAt_5 : decode cX12_byteAt 5 = .ok (.if_icmp .ge 23, 3) := by decide +kernel
theorem dX12_byteAt_8 : decode cX12_byteAt 8 = .ok (.aload_n 0, 1) := by decide +kernel
theorem dX12_byteAt_9 : decode cX12_byteAt 9 = .ok (.getfield 7, 3) := by decide +kernel
theorem dX12_byteAt_12 : decode cX12_byteAt 12 = .ok (.bipush 106, 2) := by decide +kernel
theorem dX12_byteAt_14 : decode cX12_byteAt 14 = .ok (.bipush 50, 2) := by decide +kernel
theorem dX12_byteAt_16 : decode cX12_byteAt 16 = .ok (.aload_n 0, 1) := by decide +kernel
theorem dX12_byteAt_17 : decode cX12_byteAt 17 = .ok (.getfield 120, 3) := by decide +kernel
theorem dX12_byteAt_20 : decode cX12_byteAt 20 = .ok (.imul, 1) := by decide +kernel
theorem dX12_byteAt_21 : decode cX12_byteAt 21 = .ok (.iadd, 1) := by decide +kernel
theorem dX12_byteAt_22 : decode cX12_byteAt 22 = .ok (.iload_n 1, 1) := by decide +kernel
theorem dX12_byteAt_23 : decode cX12_byteAt 23 = .ok (.iadd, 1) := by decide +kernel
theorem dX12_byteAt_24 : decode cX12_byteAt 24 = .ok (.iaload, 1) := by decide +kernel
theorem dX12_byteAt_25 : decode cX12_byteAt 25 = .ok (.goto 4, 3) := by decide +kernel
theorem dX12_byteAt_28 : decode cX12_byteAt 28 = .ok (.iconst (-1), 1) := by decide +kernel
theorem dX12_byteAt_29 : decode cX12_byteAt 29 = .ok (.ireturn, 1) := by decide +kernel
theorem dX12_isDigit_0 : decode cX12_isDigit 0 = .ok (.iload_n 0, 1) := by decide +kernel
theorem dX12_isDigit_1 : decode cX12_isDigit 1 = .ok (.bipush 48, 2) := by decide +kernel
theorem dX12_isDigit_3 : decode cX12_isDigit 3 = .ok (.bipush 57, 2) := by decide +kernel
theorem dX12_isDigit_5 : decode cX12_isDigit 5 = .ok (.invokestatic 47, 3) := by decide +kernel
theorem dX12_isDigit_8 : decode cX12_isDigit 8 = .ok (.ireturn, 1) := by decide +kernel
theorem dX12_fails_0 : decode cX12_fails 0 = .ok (.aload_n 0, 1) := by decide +kernel
theorem dX12_fails_1 : decode cX12_fails 1 = .ok (.iconst 0, 1) := by decide +kernel
theorem dX12_fails_2 : decode cX12_fails 2 = .ok (.putfield 123, 3) := by decide +kernel
theorem dX12_fails_5 : decode cX12_fails 5 = .ok (.iconst 0, 1) := by decide +kernel
theorem dX12_fails_6 : decode cX12_fails 6 = .ok (.ireturn, 1) := by decide +kernel
theorem dX12_number_0 : decode cX12_number 0 = .ok (.iconst 0, 1) := by decide +kernel
theorem dX12_number_1 : decode cX12_number 1 = .ok (.istore_n 1, 1) := by decide +kernel
theorem dX12_number_2 : decode cX12_number 2 = .ok (.iconst 0, 1) := by decide +kernel
theorem dX12_number_3 : decode cX12_number 3 = .ok (.istore_n 2, 1) := by decide +kernel
theorem dX12_number_4 : decode cX12_number 4 = .ok (.iload_n 2, 1) := by decide +kernel
theorem dX12_number_5 : decode cX12_number 5 = .ok (.iconst 4, 1) := by decide +kernel
theorem dX12_number_6 : decode cX12_number 6 = .ok (.if_icmp .ge 50, 3) := by decide +kernel
theorem dX12_number_9 : decode cX12_number 9 = .ok (.aload_n 0, 1) := by decide +kernel
theorem dX12_number_10 : decode cX12_number 10 = .ok (.aload_n 0, 1) := by decide +kernel
theorem dX12_number_11 : decode cX12_number 11 = .ok (.getfield 127, 3) := by decide +kernel
theorem dX12_number_14 : decode cX12_number 14 = .ok (.invokevirtual 130, 3) := by decide +kernel
theorem dX12_number_17 : decode cX12_number 17 = .ok (.invokestatic 133, 3) := by decide +kernel
theorem dX12_number_20 : decode cX12_number 20 = .ok (.ifCond .eq 36, 3) := by decide +kernel
theorem dX12_number_23 : decode cX12_number 23 = .ok (.bipush 10, 2) := by decide +kernel
theorem dX12_number_25 : decode cX12_number 25 = .ok (.iload_n 1, 1) := by decide +kernel
theorem dX12_number_26 : decode cX12_number 26 = .ok (.imul, 1) := by decide +kernel
theorem dX12_number_27 : decode cX12_number 27 = .ok (.aload_n 0, 1) := by decide +kernel
theorem dX12_number_28 : decode cX12_number 28 = .ok (.aload_n 0, 1) := by decide +kernel
theorem dX12_number_29 : decode cX12_number 29 = .ok (.getfield 127, 3) := by decide +kernel
theorem dX12_number_32 : decode cX12_number 32 = .ok (.invokevirtual 130, 3) := by decide +kernel
theorem dX12_number_35 : decode cX12_number 35 = .ok (.iadd, 1) := by decide +kernel
theorem dX12_number_36 : decode cX12_number 36 = .ok (.bipush 48, 2) := by decide +kernel
theorem dX12_number_38 : decode cX12_number 38 = .ok (.isub, 1) := by decide +kernel
theorem dX12_number_39 : decode cX12_number 39 = .ok (.istore_n 1, 1) := by decide +kernel
theorem dX12_number_40 : decode cX12_number 40 = .ok (.aload_n 0, 1) := by decide +kernel
theorem dX12_number_41 : decode cX12_number 41 = .ok (.dup, 1) := by decide +kernel
theorem dX12_number_42 : decode cX12_number 42 = .ok (.getfield 127, 3) := by decide +kernel
theorem dX12_number_45 : decode cX12_number 45 = .ok (.iconst 1, 1) := by decide +kernel
theorem dX12_number_46 : decode cX12_number 46 = .ok (.iadd, 1) := by decide +kernel
theorem dX12_number_47 : decode cX12_number 47 = .ok (.putfield 127, 3) := by decide +kernel
theorem dX12_number_50 : decode cX12_number 50 = .ok (.iinc 2 1, 3) := by decide +kernel
theorem dX12_number_53 : decode cX12_number 53 = .ok (.goto (-49), 3) := by decide +kernel
theorem dX12_number_56 : decode cX12_number 56 = .ok (.iload_n 1, 1) := by decide +kernel
theorem dX12_number_57 : decode cX12_number 57 = .ok (.ireturn, 1) := by decide +kernel
theorem dX12_named_0 : decode cX12_named 0 = .ok (.iload_n 1, 1) := by decide +kernel
theorem dX12_named_1 : decode cX12_named 1 = .ok (.aload_n 0, 1) := by decide +kernel
theorem dX12_named_2 : decode cX12_named 2 = .ok (.getfield 120, 3) := by decide +kernel
theorem dX12_named_5 : decode cX12_named 5 = .ok (.ifCond .ne 8, 3) := by decide +kernel
theorem dX12_named_8 : decode cX12_named 8 = .ok (.bipush 104, 2) := by decide +kernel
theorem dX12_named_10 : decode cX12_named 10 = .ok (.goto 5, 3) := by decide +kernel
theorem dX12_named_13 : decode cX12_named 13 = .ok (.bipush 115, 2) := by decide +kernel
theorem dX12_named_15 : decode cX12_named 15 = .ok (.if_icmp .ne 7, 3) := by decide +kernel
theorem dX12_named_18 : decode cX12_named 18 = .ok (.iconst 1, 1) := by decide +kernel
theorem dX12_named_19 : decode cX12_named 19 = .ok (.goto 4, 3) := by decide +kernel
theorem dX12_named_22 : decode cX12_named 22 = .ok (.iconst 0, 1) := by decide +kernel
theorem dX12_named_23 : decode cX12_named 23 = .ok (.istore_n 2, 1) := by decide +kernel
theorem dX12_named_24 : decode cX12_named 24 = .ok (.iload_n 1, 1) := by decide +kernel
theorem dX12_named_25 : decode cX12_named 25 = .ok (.aload_n 0, 1) := by decide +kernel
theorem dX12_named_26 : decode cX12_named 26 = .ok (.getfield 120, 3) := by decide +kernel
theorem dX12_named_29 : decode cX12_named 29 = .ok (.ifCond .ne 8, 3) := by decide +kernel
theorem dX12_named_32 : decode cX12_named 32 = .ok (.bipush 99, 2) := by decide +kernel
theorem dX12_named_34 : decode cX12_named 34 = .ok (.goto 5, 3) := by decide +kernel
theorem dX12_named_37 : decode cX12_named 37 = .ok (.bipush 107, 2) := by decide +kernel
theorem dX12_named_39 : decode cX12_named 39 = .ok (.if_icmp .ne 7, 3) := by decide +kernel
theorem dX12_named_42 : decode cX12_named 42 = .ok (.iconst 1, 1) := by decide +kernel
theorem dX12_named_43 : decode cX12_named 43 = .ok (.goto 4, 3) := by decide +kernel
theorem dX12_named_46 : decode cX12_named 46 = .ok (.iconst 0, 1) := by decide +kernel
theorem dX12_named_47 : decode cX12_named 47 = .ok (.istore_n 3, 1) := by decide +kernel
theorem dX12_named_48 : decode cX12_named 48 = .ok (.iload_n 1, 1) := by decide +kernel
theorem dX12_named_49 : decode cX12_named 49 = .ok (.aload_n 0, 1) := by decide +kernel
theorem dX12_named_50 : decode cX12_named 50 = .ok (.getfield 120, 3) := by decide +kernel
theorem dX12_named_53 : decode cX12_named 53 = .ok (.ifCond .ne 8, 3) := by decide +kernel
theorem dX12_named_56 : decode cX12_named 56 = .ok (.bipush 110, 2) := by decide +kernel
theorem dX12_named_58 : decode cX12_named 58 = .ok (.goto 5, 3) := by decide +kernel
theorem dX12_named_61 : decode cX12_named 61 = .ok (.bipush 100, 2) := by decide +kernel
theorem dX12_named_63 : decode cX12_named 63 = .ok (.if_icmp .ne 7, 3) := by decide +kernel
theorem dX12_named_66 : decode cX12_named 66 = .ok (.iconst 1, 1) := by decide +kernel
theorem dX12_named_67 : decode cX12_named 67 = .ok (.goto 4, 3) := by decide +kernel
theorem dX12_named_70 : decode cX12_named 70 = .ok (.iconst 0, 1) := by decide +kernel
theorem dX12_named_71 : decode cX12_named 71 = .ok (.istore 4, 2) := by decide +kernel
theorem dX12_named_73 : decode cX12_named 73 = .ok (.iload_n 2, 1) := by decide +kernel
theorem dX12_named_74 : decode cX12_named 74 = .ok (.ifCond .ne 17, 3) := by decide +kernel
theorem dX12_named_77 : decode cX12_named 77 = .ok (.iload_n 3, 1) := by decide +kernel
theorem dX12_named_78 : decode cX12_named 78 = .ok (.ifCond .ne 13, 3) := by decide +kernel
theorem dX12_named_81 : decode cX12_named 81 = .ok (.iload 4, 2) := by decide +kernel
theorem dX12_named_83 : decode cX12_named 83 = .ok (.ifCond .ne 8, 3) := by decide +kernel
theorem dX12_named_86 : decode cX12_named 86 = .ok (.aload_n 0, 1) := by decide +kernel
theorem dX12_named_87 : decode cX12_named 87 = .ok (.invokevirtual 136, 3) := by decide +kernel
theorem dX12_named_90 : decode cX12_named 90 = .ok (.ireturn, 1) := by decide +kernel
theorem dX12_named_91 : decode cX12_named 91 = .ok (.aload_n 0, 1) := by decide +kernel
theorem dX12_named_92 : decode cX12_named 92 = .ok (.dup, 1) := by decide +kernel
theorem dX12_named_93 : decode cX12_named 93 = .ok (.getfield 127, 3) := by decide +kernel
theorem dX12_named_96 : decode cX12_named 96 = .ok (.iconst 1, 1) := by decide +kernel
theorem dX12_named_97 : decode cX12_named 97 = .ok (.iadd, 1) := by decide +kernel
theorem dX12_named_98 : decode cX12_named 98 = .ok (.putfield 127, 3) := by decide +kernel
theorem dX12_named_101 : decode cX12_named 101 = .ok (.iload_n 2, 1) := by decide +kernel
theorem dX12_named_102 : decode cX12_named 102 = .ok (.ifCond .eq 10, 3) := by decide +kernel
theorem dX12_named_105 : decode cX12_named 105 = .ok (.aload_n 0, 1) := by decide +kernel
theorem dX12_named_106 : decode cX12_named 106 = .ok (.getfield 139, 3) := by decide +kernel
theorem dX12_named_109 : decode cX12_named 109 = .ok (.goto 18, 3) := by decide +kernel
theorem dX12_named_112 : decode cX12_named 112 = .ok (.iload_n 3, 1) := by decide +kernel
theorem dX12_named_113 : decode cX12_named 113 = .ok (.ifCond .eq 10, 3) := by decide +kernel
theorem dX12_named_116 : decode cX12_named 116 = .ok (.aload_n 0, 1) := by decide +kernel
theorem dX12_named_117 : decode cX12_named 117 = .ok (.getfield 142, 3) := by decide +kernel
theorem dX12_named_120 : decode cX12_named 120 = .ok (.goto 7, 3) := by decide +kernel
theorem dX12_named_123 : decode cX12_named 123 = .ok (.aload_n 0, 1) := by decide +kernel
theorem dX12_named_124 : decode cX12_named 124 = .ok (.getfield 145, 3) := by decide +kernel
theorem dX12_named_127 : decode cX12_named 127 = .ok (.ireturn, 1) := by decide +kernel
theorem dX12_factor_0 : decode cX12_factor 0 = .ok (.aload_n 0, 1) := by decide +kernel
theorem dX12_factor_1 : decode cX12_factor 1 = .ok (.aload_n 0, 1) := by decide +kernel
theorem dX12_factor_2 : decode cX12_factor 2 = .ok (.getfield 127, 3) := by decide +kernel
theorem dX12_factor_5 : decode cX12_factor 5 = .ok (.invokevirtual 130, 3) := by decide +kernel
theorem dX12_factor_8 : decode cX12_factor 8 = .ok (.istore_n 1, 1) := by decide +kernel
theorem dX12_factor_9 : decode cX12_factor 9 = .ok (.iload_n 1, 1) := by decide +kernel
theorem dX12_factor_10 : decode cX12_factor 10 = .ok (.invokestatic 133, 3) := by decide +kernel
theorem dX12_factor_13 : decode cX12_factor 13 = .ok (.ifCond .eq 8, 3) := by decide +kernel
theorem dX12_factor_16 : decode cX12_factor 16 = .ok (.aload_n 0, 1) := by decide +kernel
theorem dX12_factor_17 : decode cX12_factor 17 = .ok (.invokevirtual 148, 3) := by decide +kernel
theorem dX12_factor_20 : decode cX12_factor 20 = .ok (.ireturn, 1) := by decide +kernel
theorem dX12_factor_21 : decode cX12_factor 21 = .ok (.iload_n 1, 1) := by decide +kernel
theorem dX12_factor_22 : decode cX12_factor 22 = .ok (.bipush 33, 2) := by decide +kernel
theorem dX12_factor_24 : decode cX12_factor 24 = .ok (.if_icmp .eq 15, 3) := by decide +kernel
theorem dX12_factor_27 : decode cX12_factor 27 = .ok (.iload_n 1, 1) := by decide +kernel
theorem dX12_factor_28 : decode cX12_factor 28 = .ok (.bipush 40, 2) := by decide +kernel
theorem dX12_factor_30 : decode cX12_factor 30 = .ok (.if_icmp .eq 9, 3) := by decide +kernel
theorem dX12_factor_33 : decode cX12_factor 33 = .ok (.aload_n 0, 1) := by decide +kernel
theorem dX12_factor_34 : decode cX12_factor 34 = .ok (.iload_n 1, 1) := by decide +kernel
theorem dX12_factor_35 : decode cX12_factor 35 = .ok (.invokevirtual 151, 3) := by decide +kernel
theorem dX12_factor_38 : decode cX12_factor 38 = .ok (.ireturn, 1) := by decide +kernel
theorem dX12_factor_39 : decode cX12_factor 39 = .ok (.aload_n 0, 1) := by decide +kernel
theorem dX12_factor_40 : decode cX12_factor 40 = .ok (.getfield 154, 3) := by decide +kernel
theorem dX12_factor_43 : decode cX12_factor 43 = .ok (.iconst 5, 1) := by decide +kernel
theorem dX12_factor_44 : decode cX12_factor 44 = .ok (.if_icmp .ne 8, 3) := by decide +kernel
theorem dX12_factor_47 : decode cX12_factor 47 = .ok (.aload_n 0, 1) := by decide +kernel
theorem dX12_factor_48 : decode cX12_factor 48 = .ok (.invokevirtual 136, 3) := by decide +kernel
theorem dX12_factor_51 : decode cX12_factor 51 = .ok (.ireturn, 1) := by decide +kernel
theorem dX12_factor_52 : decode cX12_factor 52 = .ok (.aload_n 0, 1) := by decide +kernel
theorem dX12_factor_53 : decode cX12_factor 53 = .ok (.dup, 1) := by decide +kernel
theorem dX12_factor_54 : decode cX12_factor 54 = .ok (.getfield 154, 3) := by decide +kernel
theorem dX12_factor_57 : decode cX12_factor 57 = .ok (.iconst 1, 1) := by decide +kernel
theorem dX12_factor_58 : decode cX12_factor 58 = .ok (.iadd, 1) := by decide +kernel
theorem dX12_factor_59 : decode cX12_factor 59 = .ok (.putfield 154, 3) := by decide +kernel
theorem dX12_factor_62 : decode cX12_factor 62 = .ok (.aload_n 0, 1) := by decide +kernel
theorem dX12_factor_63 : decode cX12_factor 63 = .ok (.dup, 1) := by decide +kernel
theorem dX12_factor_64 : decode cX12_factor 64 = .ok (.getfield 127, 3) := by decide +kernel
theorem dX12_factor_67 : decode cX12_factor 67 = .ok (.iconst 1, 1) := by decide +kernel
theorem dX12_factor_68 : decode cX12_factor 68 = .ok (.iadd, 1) := by decide +kernel
theorem dX12_factor_69 : decode cX12_factor 69 = .ok (.putfield 127, 3) := by decide +kernel
theorem dX12_factor_72 : decode cX12_factor 72 = .ok (.iload_n 1, 1) := by decide +kernel
theorem dX12_factor_73 : decode cX12_factor 73 = .ok (.bipush 33, 2) := by decide +kernel
theorem dX12_factor_75 : decode cX12_factor 75 = .ok (.if_icmp .ne 10, 3) := by decide +kernel
theorem dX12_factor_78 : decode cX12_factor 78 = .ok (.aload_n 0, 1) := by decide +kernel
theorem dX12_factor_79 : decode cX12_factor 79 = .ok (.invokevirtual 157, 3) := by decide +kernel
theorem dX12_factor_82 : decode cX12_factor 82 = .ok (.goto 7, 3) := by decide +kernel
theorem dX12_factor_85 : decode cX12_factor 85 = .ok (.aload_n 0, 1) := by decide +kernel
theorem dX12_factor_86 : decode cX12_factor 86 = .ok (.invokevirtual 160, 3) := by decide +kernel
theorem dX12_factor_89 : decode cX12_factor 89 = .ok (.istore_n 2, 1) := by decide +kernel
theorem dX12_factor_90 : decode cX12_factor 90 = .ok (.aload_n 0, 1) := by decide +kernel
theorem dX12_factor_91 : decode cX12_factor 91 = .ok (.dup, 1) := by decide +kernel
theorem dX12_factor_92 : decode cX12_factor 92 = .ok (.getfield 154, 3) := by decide +kernel
theorem dX12_factor_95 : decode cX12_factor 95 = .ok (.iconst 1, 1) := by decide +kernel
theorem dX12_factor_96 : decode cX12_factor 96 = .ok (.isub, 1) := by decide +kernel
theorem dX12_factor_97 : decode cX12_factor 97 = .ok (.putfield 154, 3) := by decide +kernel
theorem dX12_factor_100 : decode cX12_factor 100 = .ok (.iload_n 1, 1) := by decide +kernel
theorem dX12_factor_101 : decode cX12_factor 101 = .ok (.bipush 33, 2) := by decide +kernel
theorem dX12_factor_103 : decode cX12_factor 103 = .ok (.if_icmp .ne 13, 3) := by decide +kernel
theorem dX12_factor_106 : decode cX12_factor 106 = .ok (.iload_n 2, 1) := by decide +kernel
theorem dX12_factor_107 : decode cX12_factor 107 = .ok (.ifCond .ne 7, 3) := by decide +kernel
theorem dX12_factor_110 : decode cX12_factor 110 = .ok (.iconst 1, 1) := by decide +kernel
theorem dX12_factor_111 : decode cX12_factor 111 = .ok (.goto 4, 3) := by decide +kernel
theorem dX12_factor_114 : decode cX12_factor 114 = .ok (.iconst 0, 1) := by decide +kernel
theorem dX12_factor_115 : decode cX12_factor 115 = .ok (.ireturn, 1) := by decide +kernel
theorem dX12_factor_116 : decode cX12_factor 116 = .ok (.aload_n 0, 1) := by decide +kernel
theorem dX12_factor_117 : decode cX12_factor 117 = .ok (.getfield 123, 3) := by decide +kernel
theorem dX12_factor_120 : decode cX12_factor 120 = .ok (.ifCond .eq 28, 3) := by decide +kernel
theorem dX12_factor_123 : decode cX12_factor 123 = .ok (.aload_n 0, 1) := by decide +kernel
theorem dX12_factor_124 : decode cX12_factor 124 = .ok (.aload_n 0, 1) := by decide +kernel
theorem dX12_factor_125 : decode cX12_factor 125 = .ok (.getfield 127, 3) := by decide +kernel
theorem dX12_factor_128 : decode cX12_factor 128 = .ok (.invokevirtual 130, 3) := by decide +kernel
theorem dX12_factor_131 : decode cX12_factor 131 = .ok (.bipush 41, 2) := by decide +kernel
theorem dX12_factor_133 : decode cX12_factor 133 = .ok (.if_icmp .ne 15, 3) := by decide +kernel
theorem dX12_factor_136 : decode cX12_factor 136 = .ok (.aload_n 0, 1) := by decide +kernel
theorem dX12_factor_137 : decode cX12_factor 137 = .ok (.dup, 1) := by decide +kernel
theorem dX12_factor_138 : decode cX12_factor 138 = .ok (.getfield 127, 3) := by decide +kernel
theorem dX12_factor_141 : decode cX12_factor 141 = .ok (.iconst 1, 1) := by decide +kernel
theorem dX12_factor_142 : decode cX12_factor 142 = .ok (.iadd, 1) := by decide +kernel
theorem dX12_factor_143 : decode cX12_factor 143 = .ok (.putfield 127, 3) := by decide +kernel
theorem dX12_factor_146 : decode cX12_factor 146 = .ok (.iload_n 2, 1) := by decide +kernel
theorem dX12_factor_147 : decode cX12_factor 147 = .ok (.ireturn, 1) := by decide +kernel
theorem dX12_factor_148 : decode cX12_factor 148 = .ok (.aload_n 0, 1) := by decide +kernel
theorem dX12_factor_149 : decode cX12_factor 149 = .ok (.invokevirtual 136, 3) := by decide +kernel
theorem dX12_factor_152 : decode cX12_factor 152 = .ok (.ireturn, 1) := by decide +kernel
theorem dX12_product_0 : decode cX12_product 0 = .ok (.aload_n 0, 1) := by decide +kernel
theorem dX12_product_1 : decode cX12_product 1 = .ok (.invokevirtual 157, 3) := by decide +kernel
theorem dX12_product_4 : decode cX12_product 4 = .ok (.istore_n 1, 1) := by decide +kernel
theorem dX12_product_5 : decode cX12_product 5 = .ok (.aload_n 0, 1) := by decide +kernel
theorem dX12_product_6 : decode cX12_product 6 = .ok (.getfield 123, 3) := by decide +kernel
theorem dX12_product_9 : decode cX12_product 9 = .ok (.ifCond .eq 105, 3) := by decide +kernel
theorem dX12_product_12 : decode cX12_product 12 = .ok (.aload_n 0, 1) := by decide +kernel
theorem dX12_product_13 : decode cX12_product 13 = .ok (.aload_n 0, 1) := by decide +kernel
theorem dX12_product_14 : decode cX12_product 14 = .ok (.getfield 127, 3) := by decide +kernel
theorem dX12_product_17 : decode cX12_product 17 = .ok (.invokevirtual 130, 3) := by decide +kernel
theorem dX12_product_20 : decode cX12_product 20 = .ok (.bipush 42, 2) := by decide +kernel
theorem dX12_product_22 : decode cX12_product 22 = .ok (.if_icmp .eq 29, 3) := by decide +kernel
theorem dX12_product_25 : decode cX12_product 25 = .ok (.aload_n 0, 1) := by decide +kernel
theorem dX12_product_26 : decode cX12_product 26 = .ok (.aload_n 0, 1) := by decide +kernel
theorem dX12_product_27 : decode cX12_product 27 = .ok (.getfield 127, 3) := by decide +kernel
theorem dX12_product_30 : decode cX12_product 30 = .ok (.invokevirtual 130, 3) := by decide +kernel
theorem dX12_product_33 : decode cX12_product 33 = .ok (.bipush 47, 2) := by decide +kernel
theorem dX12_product_35 : decode cX12_product 35 = .ok (.if_icmp .eq 16, 3) := by decide +kernel
theorem dX12_product_38 : decode cX12_product 38 = .ok (.aload_n 0, 1) := by decide +kernel
theorem dX12_product_39 : decode cX12_product 39 = .ok (.aload_n 0, 1) := by decide +kernel
theorem dX12_product_40 : decode cX12_product 40 = .ok (.getfield 127, 3) := by decide +kernel
theorem dX12_product_43 : decode cX12_product 43 = .ok (.invokevirtual 130, 3) := by decide +kernel
theorem dX12_product_46 : decode cX12_product 46 = .ok (.bipush 37, 2) := by decide +kernel
theorem dX12_product_48 : decode cX12_product 48 = .ok (.if_icmp .ne 66, 3) := by decide +kernel
theorem dX12_product_51 : decode cX12_product 51 = .ok (.aload_n 0, 1) := by decide +kernel
theorem dX12_product_52 : decode cX12_product 52 = .ok (.aload_n 0, 1) := by decide +kernel
theorem dX12_product_53 : decode cX12_product 53 = .ok (.getfield 127, 3) := by decide +kernel
theorem dX12_product_56 : decode cX12_product 56 = .ok (.invokevirtual 130, 3) := by decide +kernel
theorem dX12_product_59 : decode cX12_product 59 = .ok (.istore_n 2, 1) := by decide +kernel
theorem dX12_product_60 : decode cX12_product 60 = .ok (.aload_n 0, 1) := by decide +kernel
theorem dX12_product_61 : decode cX12_product 61 = .ok (.dup, 1) := by decide +kernel
theorem dX12_product_62 : decode cX12_product 62 = .ok (.getfield 127, 3) := by decide +kernel
theorem dX12_product_65 : decode cX12_product 65 = .ok (.iconst 1, 1) := by decide +kernel
theorem dX12_product_66 : decode cX12_product 66 = .ok (.iadd, 1) := by decide +kernel
theorem dX12_product_67 : decode cX12_product 67 = .ok (.putfield 127, 3) := by decide +kernel
theorem dX12_product_70 : decode cX12_product 70 = .ok (.aload_n 0, 1) := by decide +kernel
theorem dX12_product_71 : decode cX12_product 71 = .ok (.invokevirtual 157, 3) := by decide +kernel
theorem dX12_product_74 : decode cX12_product 74 = .ok (.istore_n 3, 1) := by decide +kernel
theorem dX12_product_75 : decode cX12_product 75 = .ok (.iload_n 2, 1) := by decide +kernel
theorem dX12_product_76 : decode cX12_product 76 = .ok (.bipush 42, 2) := by decide +kernel
theorem dX12_product_78 : decode cX12_product 78 = .ok (.if_icmp .ne 9, 3) := by decide +kernel
theorem dX12_product_81 : decode cX12_product 81 = .ok (.iload_n 1, 1) := by decide +kernel
theorem dX12_product_82 : decode cX12_product 82 = .ok (.iload_n 3, 1) := by decide +kernel
theorem dX12_product_83 : decode cX12_product 83 = .ok (.imul, 1) := by decide +kernel
theorem dX12_product_84 : decode cX12_product 84 = .ok (.goto 26, 3) := by decide +kernel
theorem dX12_product_87 : decode cX12_product 87 = .ok (.iload_n 3, 1) := by decide +kernel
theorem dX12_product_88 : decode cX12_product 88 = .ok (.ifCond .ne 7, 3) := by decide +kernel
theorem dX12_product_91 : decode cX12_product 91 = .ok (.iconst 0, 1) := by decide +kernel
theorem dX12_product_92 : decode cX12_product 92 = .ok (.goto 18, 3) := by decide +kernel
theorem dX12_product_95 : decode cX12_product 95 = .ok (.iload_n 2, 1) := by decide +kernel
theorem dX12_product_96 : decode cX12_product 96 = .ok (.bipush 47, 2) := by decide +kernel
theorem dX12_product_98 : decode cX12_product 98 = .ok (.if_icmp .ne 9, 3) := by decide +kernel
theorem dX12_product_101 : decode cX12_product 101 = .ok (.iload_n 1, 1) := by decide +kernel
theorem dX12_product_102 : decode cX12_product 102 = .ok (.iload_n 3, 1) := by decide +kernel
theorem dX12_product_103 : decode cX12_product 103 = .ok (.idiv, 1) := by decide +kernel
theorem dX12_product_104 : decode cX12_product 104 = .ok (.goto 6, 3) := by decide +kernel
theorem dX12_product_107 : decode cX12_product 107 = .ok (.iload_n 1, 1) := by decide +kernel
theorem dX12_product_108 : decode cX12_product 108 = .ok (.iload_n 3, 1) := by decide +kernel
theorem dX12_product_109 : decode cX12_product 109 = .ok (.irem, 1) := by decide +kernel
theorem dX12_product_110 : decode cX12_product 110 = .ok (.istore_n 1, 1) := by decide +kernel
theorem dX12_product_111 : decode cX12_product 111 = .ok (.goto (-106), 3) := by decide +kernel
theorem dX12_product_114 : decode cX12_product 114 = .ok (.iload_n 1, 1) := by decide +kernel
theorem dX12_product_115 : decode cX12_product 115 = .ok (.ireturn, 1) := by decide +kernel
theorem dX12_sum_0 : decode cX12_sum 0 = .ok (.aload_n 0, 1) := by decide +kernel
theorem dX12_sum_1 : decode cX12_sum 1 = .ok (.invokevirtual 163, 3) := by decide +kernel
theorem dX12_sum_4 : decode cX12_sum 4 = .ok (.istore_n 1, 1) := by decide +kernel
theorem dX12_sum_5 : decode cX12_sum 5 = .ok (.aload_n 0, 1) := by decide +kernel
theorem dX12_sum_6 : decode cX12_sum 6 = .ok (.getfield 123, 3) := by decide +kernel
theorem dX12_sum_9 : decode cX12_sum 9 = .ok (.ifCond .eq 72, 3) := by decide +kernel
theorem dX12_sum_12 : decode cX12_sum 12 = .ok (.aload_n 0, 1) := by decide +kernel
theorem dX12_sum_13 : decode cX12_sum 13 = .ok (.aload_n 0, 1) := by decide +kernel
theorem dX12_sum_14 : decode cX12_sum 14 = .ok (.getfield 127, 3) := by decide +kernel
theorem dX12_sum_17 : decode cX12_sum 17 = .ok (.invokevirtual 130, 3) := by decide +kernel
theorem dX12_sum_20 : decode cX12_sum 20 = .ok (.bipush 43, 2) := by decide +kernel
theorem dX12_sum_22 : decode cX12_sum 22 = .ok (.if_icmp .eq 16, 3) := by decide +kernel
theorem dX12_sum_25 : decode cX12_sum 25 = .ok (.aload_n 0, 1) := by decide +kernel
theorem dX12_sum_26 : decode cX12_sum 26 = .ok (.aload_n 0, 1) := by decide +kernel
theorem dX12_sum_27 : decode cX12_sum 27 = .ok (.getfield 127, 3) := by decide +kernel
theorem dX12_sum_30 : decode cX12_sum 30 = .ok (.invokevirtual 130, 3) := by decide +kernel
theorem dX12_sum_33 : decode cX12_sum 33 = .ok (.bipush 45, 2) := by decide +kernel
theorem dX12_sum_35 : decode cX12_sum 35 = .ok (.if_icmp .ne 46, 3) := by decide +kernel
theorem dX12_sum_38 : decode cX12_sum 38 = .ok (.aload_n 0, 1) := by decide +kernel
theorem dX12_sum_39 : decode cX12_sum 39 = .ok (.aload_n 0, 1) := by decide +kernel
theorem dX12_sum_40 : decode cX12_sum 40 = .ok (.getfield 127, 3) := by decide +kernel
theorem dX12_sum_43 : decode cX12_sum 43 = .ok (.invokevirtual 130, 3) := by decide +kernel
theorem dX12_sum_46 : decode cX12_sum 46 = .ok (.istore_n 2, 1) := by decide +kernel
theorem dX12_sum_47 : decode cX12_sum 47 = .ok (.aload_n 0, 1) := by decide +kernel
theorem dX12_sum_48 : decode cX12_sum 48 = .ok (.dup, 1) := by decide +kernel
theorem dX12_sum_49 : decode cX12_sum 49 = .ok (.getfield 127, 3) := by decide +kernel
theorem dX12_sum_52 : decode cX12_sum 52 = .ok (.iconst 1, 1) := by decide +kernel
theorem dX12_sum_53 : decode cX12_sum 53 = .ok (.iadd, 1) := by decide +kernel
theorem dX12_sum_54 : decode cX12_sum 54 = .ok (.putfield 127, 3) := by decide +kernel
theorem dX12_sum_57 : decode cX12_sum 57 = .ok (.aload_n 0, 1) := by decide +kernel
theorem dX12_sum_58 : decode cX12_sum 58 = .ok (.invokevirtual 163, 3) := by decide +kernel
theorem dX12_sum_61 : decode cX12_sum 61 = .ok (.istore_n 3, 1) := by decide +kernel
theorem dX12_sum_62 : decode cX12_sum 62 = .ok (.iload_n 2, 1) := by decide +kernel
theorem dX12_sum_63 : decode cX12_sum 63 = .ok (.bipush 43, 2) := by decide +kernel
theorem dX12_sum_65 : decode cX12_sum 65 = .ok (.if_icmp .ne 9, 3) := by decide +kernel
theorem dX12_sum_68 : decode cX12_sum 68 = .ok (.iload_n 1, 1) := by decide +kernel
theorem dX12_sum_69 : decode cX12_sum 69 = .ok (.iload_n 3, 1) := by decide +kernel
theorem dX12_sum_70 : decode cX12_sum 70 = .ok (.iadd, 1) := by decide +kernel
theorem dX12_sum_71 : decode cX12_sum 71 = .ok (.goto 6, 3) := by decide +kernel
theorem dX12_sum_74 : decode cX12_sum 74 = .ok (.iload_n 1, 1) := by decide +kernel
theorem dX12_sum_75 : decode cX12_sum 75 = .ok (.iload_n 3, 1) := by decide +kernel
theorem dX12_sum_76 : decode cX12_sum 76 = .ok (.isub, 1) := by decide +kernel
theorem dX12_sum_77 : decode cX12_sum 77 = .ok (.istore_n 1, 1) := by decide +kernel
theorem dX12_sum_78 : decode cX12_sum 78 = .ok (.goto (-73), 3) := by decide +kernel
theorem dX12_sum_81 : decode cX12_sum 81 = .ok (.iload_n 1, 1) := by decide +kernel
theorem dX12_sum_82 : decode cX12_sum 82 = .ok (.ireturn, 1) := by decide +kernel
theorem dX12_compared_0 : decode cX12_compared 0 = .ok (.aload_n 0, 1) := by decide +kernel
theorem dX12_compared_1 : decode cX12_compared 1 = .ok (.invokevirtual 166, 3) := by decide +kernel
theorem dX12_compared_4 : decode cX12_compared 4 = .ok (.istore_n 1, 1) := by decide +kernel
theorem dX12_compared_5 : decode cX12_compared 5 = .ok (.aload_n 0, 1) := by decide +kernel
theorem dX12_compared_6 : decode cX12_compared 6 = .ok (.getfield 123, 3) := by decide +kernel
theorem dX12_compared_9 : decode cX12_compared 9 = .ok (.ifCond .eq 14, 3) := by decide +kernel
theorem dX12_compared_12 : decode cX12_compared 12 = .ok (.aload_n 0, 1) := by decide +kernel
theorem dX12_compared_13 : decode cX12_compared 13 = .ok (.aload_n 0, 1) := by decide +kernel
theorem dX12_compared_14 : decode cX12_compared 14 = .ok (.getfield 127, 3) := by decide +kernel
theorem dX12_compared_17 : decode cX12_compared 17 = .ok (.invokevirtual 130, 3) := by decide +kernel
theorem dX12_compared_20 : decode cX12_compared 20 = .ok (.goto 4, 3) := by decide +kernel
theorem dX12_compared_23 : decode cX12_compared 23 = .ok (.iconst (-1), 1) := by decide +kernel
theorem dX12_compared_24 : decode cX12_compared 24 = .ok (.istore_n 2, 1) := by decide +kernel
theorem dX12_compared_25 : decode cX12_compared 25 = .ok (.iload_n 2, 1) := by decide +kernel
theorem dX12_compared_26 : decode cX12_compared 26 = .ok (.bipush 60, 2) := by decide +kernel
theorem dX12_compared_28 : decode cX12_compared 28 = .ok (.if_icmp .eq 17, 3) := by decide +kernel
theorem dX12_compared_31 : decode cX12_compared 31 = .ok (.iload_n 2, 1) := by decide +kernel
theorem dX12_compared_32 : decode cX12_compared 32 = .ok (.bipush 61, 2) := by decide +kernel
theorem dX12_compared_34 : decode cX12_compared 34 = .ok (.if_icmp .eq 11, 3) := by decide +kernel
theorem dX12_compared_37 : decode cX12_compared 37 = .ok (.iload_n 2, 1) := by decide +kernel
theorem dX12_compared_38 : decode cX12_compared 38 = .ok (.bipush 62, 2) := by decide +kernel
theorem dX12_compared_40 : decode cX12_compared 40 = .ok (.if_icmp .eq 5, 3) := by decide +kernel
theorem dX12_compared_43 : decode cX12_compared 43 = .ok (.iload_n 1, 1) := by decide +kernel
theorem dX12_compared_44 : decode cX12_compared 44 = .ok (.ireturn, 1) := by decide +kernel
theorem dX12_compared_45 : decode cX12_compared 45 = .ok (.aload_n 0, 1) := by decide +kernel
theorem dX12_compared_46 : decode cX12_compared 46 = .ok (.dup, 1) := by decide +kernel
theorem dX12_compared_47 : decode cX12_compared 47 = .ok (.getfield 127, 3) := by decide +kernel
theorem dX12_compared_50 : decode cX12_compared 50 = .ok (.iconst 1, 1) := by decide +kernel
theorem dX12_compared_51 : decode cX12_compared 51 = .ok (.iadd, 1) := by decide +kernel
theorem dX12_compared_52 : decode cX12_compared 52 = .ok (.putfield 127, 3) := by decide +kernel
theorem dX12_compared_55 : decode cX12_compared 55 = .ok (.aload_n 0, 1) := by decide +kernel
theorem dX12_compared_56 : decode cX12_compared 56 = .ok (.invokevirtual 166, 3) := by decide +kernel
theorem dX12_compared_59 : decode cX12_compared 59 = .ok (.istore_n 3, 1) := by decide +kernel
theorem dX12_compared_60 : decode cX12_compared 60 = .ok (.iload_n 2, 1) := by decide +kernel
theorem dX12_compared_61 : decode cX12_compared 61 = .ok (.bipush 60, 2) := by decide +kernel
theorem dX12_compared_63 : decode cX12_compared 63 = .ok (.if_icmp .ne 16, 3) := by decide +kernel
theorem dX12_compared_66 : decode cX12_compared 66 = .ok (.iload_n 1, 1) := by decide +kernel
theorem dX12_compared_67 : decode cX12_compared 67 = .ok (.iload_n 3, 1) := by decide +kernel
theorem dX12_compared_68 : decode cX12_compared 68 = .ok (.if_icmp .ge 7, 3) := by decide +kernel
theorem dX12_compared_71 : decode cX12_compared 71 = .ok (.iconst 1, 1) := by decide +kernel
theorem dX12_compared_72 : decode cX12_compared 72 = .ok (.goto 36, 3) := by decide +kernel
theorem dX12_compared_75 : decode cX12_compared 75 = .ok (.iconst 0, 1) := by decide +kernel
theorem dX12_compared_76 : decode cX12_compared 76 = .ok (.goto 32, 3) := by decide +kernel
theorem dX12_compared_79 : decode cX12_compared 79 = .ok (.iload_n 2, 1) := by decide +kernel
theorem dX12_compared_80 : decode cX12_compared 80 = .ok (.bipush 61, 2) := by decide +kernel
theorem dX12_compared_82 : decode cX12_compared 82 = .ok (.if_icmp .ne 16, 3) := by decide +kernel
theorem dX12_compared_85 : decode cX12_compared 85 = .ok (.iload_n 1, 1) := by decide +kernel
theorem dX12_compared_86 : decode cX12_compared 86 = .ok (.iload_n 3, 1) := by decide +kernel
theorem dX12_compared_87 : decode cX12_compared 87 = .ok (.if_icmp .ne 7, 3) := by decide +kernel
theorem dX12_compared_90 : decode cX12_compared 90 = .ok (.iconst 1, 1) := by decide +kernel
theorem dX12_compared_91 : decode cX12_compared 91 = .ok (.goto 17, 3) := by decide +kernel
theorem dX12_compared_94 : decode cX12_compared 94 = .ok (.iconst 0, 1) := by decide +kernel
theorem dX12_compared_95 : decode cX12_compared 95 = .ok (.goto 13, 3) := by decide +kernel
theorem dX12_compared_98 : decode cX12_compared 98 = .ok (.iload_n 1, 1) := by decide +kernel
theorem dX12_compared_99 : decode cX12_compared 99 = .ok (.iload_n 3, 1) := by decide +kernel
theorem dX12_compared_100 : decode cX12_compared 100 = .ok (.if_icmp .le 7, 3) := by decide +kernel
theorem dX12_compared_103 : decode cX12_compared 103 = .ok (.iconst 1, 1) := by decide +kernel
theorem dX12_compared_104 : decode cX12_compared 104 = .ok (.goto 4, 3) := by decide +kernel
theorem dX12_compared_107 : decode cX12_compared 107 = .ok (.iconst 0, 1) := by decide +kernel
theorem dX12_compared_108 : decode cX12_compared 108 = .ok (.istore 4, 2) := by decide +kernel
theorem dX12_compared_110 : decode cX12_compared 110 = .ok (.iload 4, 2) := by decide +kernel
theorem dX12_compared_112 : decode cX12_compared 112 = .ok (.ifCond .eq 7, 3) := by decide +kernel
theorem dX12_compared_115 : decode cX12_compared 115 = .ok (.iconst 1, 1) := by decide +kernel
theorem dX12_compared_116 : decode cX12_compared 116 = .ok (.goto 4, 3) := by decide +kernel
theorem dX12_compared_119 : decode cX12_compared 119 = .ok (.iconst 0, 1) := by decide +kernel
theorem dX12_compared_120 : decode cX12_compared 120 = .ok (.ireturn, 1) := by decide +kernel
theorem dX12_both_0 : decode cX12_both 0 = .ok (.aload_n 0, 1) := by decide +kernel
theorem dX12_both_1 : decode cX12_both 1 = .ok (.invokevirtual 169, 3) := by decide +kernel
theorem dX12_both_4 : decode cX12_both 4 = .ok (.istore_n 1, 1) := by decide +kernel
theorem dX12_both_5 : decode cX12_both 5 = .ok (.aload_n 0, 1) := by decide +kernel
theorem dX12_both_6 : decode cX12_both 6 = .ok (.getfield 123, 3) := by decide +kernel
theorem dX12_both_9 : decode cX12_both 9 = .ok (.ifCond .eq 48, 3) := by decide +kernel
theorem dX12_both_12 : decode cX12_both 12 = .ok (.aload_n 0, 1) := by decide +kernel
theorem dX12_both_13 : decode cX12_both 13 = .ok (.aload_n 0, 1) := by decide +kernel
theorem dX12_both_14 : decode cX12_both 14 = .ok (.getfield 127, 3) := by decide +kernel
theorem dX12_both_17 : decode cX12_both 17 = .ok (.invokevirtual 130, 3) := by decide +kernel
theorem dX12_both_20 : decode cX12_both 20 = .ok (.bipush 38, 2) := by decide +kernel
theorem dX12_both_22 : decode cX12_both 22 = .ok (.if_icmp .ne 35, 3) := by decide +kernel
theorem dX12_both_25 : decode cX12_both 25 = .ok (.aload_n 0, 1) := by decide +kernel
theorem dX12_both_26 : decode cX12_both 26 = .ok (.dup, 1) := by decide +kernel
theorem dX12_both_27 : decode cX12_both 27 = .ok (.getfield 127, 3) := by decide +kernel
theorem dX12_both_30 : decode cX12_both 30 = .ok (.iconst 1, 1) := by decide +kernel
theorem dX12_both_31 : decode cX12_both 31 = .ok (.iadd, 1) := by decide +kernel
theorem dX12_both_32 : decode cX12_both 32 = .ok (.putfield 127, 3) := by decide +kernel
theorem dX12_both_35 : decode cX12_both 35 = .ok (.aload_n 0, 1) := by decide +kernel
theorem dX12_both_36 : decode cX12_both 36 = .ok (.invokevirtual 169, 3) := by decide +kernel
theorem dX12_both_39 : decode cX12_both 39 = .ok (.istore_n 2, 1) := by decide +kernel
theorem dX12_both_40 : decode cX12_both 40 = .ok (.iload_n 1, 1) := by decide +kernel
theorem dX12_both_41 : decode cX12_both 41 = .ok (.ifCond .eq 11, 3) := by decide +kernel
theorem dX12_both_44 : decode cX12_both 44 = .ok (.iload_n 2, 1) := by decide +kernel
theorem dX12_both_45 : decode cX12_both 45 = .ok (.ifCond .eq 7, 3) := by decide +kernel
theorem dX12_both_48 : decode cX12_both 48 = .ok (.iconst 1, 1) := by decide +kernel
theorem dX12_both_49 : decode cX12_both 49 = .ok (.goto 4, 3) := by decide +kernel
theorem dX12_both_52 : decode cX12_both 52 = .ok (.iconst 0, 1) := by decide +kernel
theorem dX12_both_53 : decode cX12_both 53 = .ok (.istore_n 1, 1) := by decide +kernel
theorem dX12_both_54 : decode cX12_both 54 = .ok (.goto (-49), 3) := by decide +kernel
theorem dX12_both_57 : decode cX12_both 57 = .ok (.iload_n 1, 1) := by decide +kernel
theorem dX12_both_58 : decode cX12_both 58 = .ok (.ireturn, 1) := by decide +kernel
theorem dX12_whole_0 : decode cX12_whole 0 = .ok (.aload_n 0, 1) := by decide +kernel
theorem dX12_whole_1 : decode cX12_whole 1 = .ok (.invokevirtual 172, 3) := by decide +kernel
theorem dX12_whole_4 : decode cX12_whole 4 = .ok (.istore_n 1, 1) := by decide +kernel
theorem dX12_whole_5 : decode cX12_whole 5 = .ok (.aload_n 0, 1) := by decide +kernel
theorem dX12_whole_6 : decode cX12_whole 6 = .ok (.getfield 123, 3) := by decide +kernel
theorem dX12_whole_9 : decode cX12_whole 9 = .ok (.ifCond .eq 48, 3) := by decide +kernel
theorem dX12_whole_12 : decode cX12_whole 12 = .ok (.aload_n 0, 1) := by decide +kernel
theorem dX12_whole_13 : decode cX12_whole 13 = .ok (.aload_n 0, 1) := by decide +kernel
theorem dX12_whole_14 : decode cX12_whole 14 = .ok (.getfield 127, 3) := by decide +kernel
theorem dX12_whole_17 : decode cX12_whole 17 = .ok (.invokevirtual 130, 3) := by decide +kernel
theorem dX12_whole_20 : decode cX12_whole 20 = .ok (.bipush 124, 2) := by decide +kernel
theorem dX12_whole_22 : decode cX12_whole 22 = .ok (.if_icmp .ne 35, 3) := by decide +kernel
theorem dX12_whole_25 : decode cX12_whole 25 = .ok (.aload_n 0, 1) := by decide +kernel
theorem dX12_whole_26 : decode cX12_whole 26 = .ok (.dup, 1) := by decide +kernel
theorem dX12_whole_27 : decode cX12_whole 27 = .ok (.getfield 127, 3) := by decide +kernel
theorem dX12_whole_30 : decode cX12_whole 30 = .ok (.iconst 1, 1) := by decide +kernel
theorem dX12_whole_31 : decode cX12_whole 31 = .ok (.iadd, 1) := by decide +kernel
theorem dX12_whole_32 : decode cX12_whole 32 = .ok (.putfield 127, 3) := by decide +kernel
theorem dX12_whole_35 : decode cX12_whole 35 = .ok (.aload_n 0, 1) := by decide +kernel
theorem dX12_whole_36 : decode cX12_whole 36 = .ok (.invokevirtual 172, 3) := by decide +kernel
theorem dX12_whole_39 : decode cX12_whole 39 = .ok (.istore_n 2, 1) := by decide +kernel
theorem dX12_whole_40 : decode cX12_whole 40 = .ok (.iload_n 1, 1) := by decide +kernel
theorem dX12_whole_41 : decode cX12_whole 41 = .ok (.ifCond .ne 7, 3) := by decide +kernel
theorem dX12_whole_44 : decode cX12_whole 44 = .ok (.iload_n 2, 1) := by decide +kernel
theorem dX12_whole_45 : decode cX12_whole 45 = .ok (.ifCond .eq 7, 3) := by decide +kernel
theorem dX12_whole_48 : decode cX12_whole 48 = .ok (.iconst 1, 1) := by decide +kernel
theorem dX12_whole_49 : decode cX12_whole 49 = .ok (.goto 4, 3) := by decide +kernel
theorem dX12_whole_52 : decode cX12_whole 52 = .ok (.iconst 0, 1) := by decide +kernel
theorem dX12_whole_53 : decode cX12_whole 53 = .ok (.istore_n 1, 1) := by decide +kernel
theorem dX12_whole_54 : decode cX12_whole 54 = .ok (.goto (-49), 3) := by decide +kernel
theorem dX12_whole_57 : decode cX12_whole 57 = .ok (.iload_n 1, 1) := by decide +kernel
theorem dX12_whole_58 : decode cX12_whole 58 = .ok (.ireturn, 1) := by decide +kernel
theorem dX12_walks_0 : decode cX12_walks 0 = .ok (.aload_n 0, 1) := by decide +kernel
theorem dX12_walks_1 : decode cX12_walks 1 = .ok (.iload_n 1, 1) := by decide +kernel
theorem dX12_walks_2 : decode cX12_walks 2 = .ok (.putfield 120, 3) := by decide +kernel
theorem dX12_walks_5 : decode cX12_walks 5 = .ok (.aload_n 0, 1) := by decide +kernel
theorem dX12_walks_6 : decode cX12_walks 6 = .ok (.iconst 0, 1) := by decide +kernel
theorem dX12_walks_7 : decode cX12_walks 7 = .ok (.putfield 127, 3) := by decide +kernel
theorem dX12_walks_10 : decode cX12_walks 10 = .ok (.aload_n 0, 1) := by decide +kernel
theorem dX12_walks_11 : decode cX12_walks 11 = .ok (.aload_n 0, 1) := by decide +kernel
theorem dX12_walks_12 : decode cX12_walks 12 = .ok (.getfield 7, 3) := by decide +kernel
theorem dX12_walks_15 : decode cX12_walks 15 = .ok (.bipush 6, 2) := by decide +kernel
theorem dX12_walks_17 : decode cX12_walks 17 = .ok (.iload_n 1, 1) := by decide +kernel
theorem dX12_walks_18 : decode cX12_walks 18 = .ok (.iadd, 1) := by decide +kernel
theorem dX12_walks_19 : decode cX12_walks 19 = .ok (.iaload, 1) := by decide +kernel
theorem dX12_walks_20 : decode cX12_walks 20 = .ok (.putfield 117, 3) := by decide +kernel
theorem dX12_walks_23 : decode cX12_walks 23 = .ok (.aload_n 0, 1) := by decide +kernel
theorem dX12_walks_24 : decode cX12_walks 24 = .ok (.iconst 0, 1) := by decide +kernel
theorem dX12_walks_25 : decode cX12_walks 25 = .ok (.putfield 154, 3) := by decide +kernel
theorem dX12_walks_28 : decode cX12_walks 28 = .ok (.aload_n 0, 1) := by decide +kernel
theorem dX12_walks_29 : decode cX12_walks 29 = .ok (.iconst 1, 1) := by decide +kernel
theorem dX12_walks_30 : decode cX12_walks 30 = .ok (.putfield 123, 3) := by decide +kernel
theorem dX12_walks_33 : decode cX12_walks 33 = .ok (.aload_n 0, 1) := by decide +kernel
theorem dX12_walks_34 : decode cX12_walks 34 = .ok (.iload_n 2, 1) := by decide +kernel
theorem dX12_walks_35 : decode cX12_walks 35 = .ok (.putfield 139, 3) := by decide +kernel
theorem dX12_walks_38 : decode cX12_walks 38 = .ok (.aload_n 0, 1) := by decide +kernel
theorem dX12_walks_39 : decode cX12_walks 39 = .ok (.iload_n 3, 1) := by decide +kernel
theorem dX12_walks_40 : decode cX12_walks 40 = .ok (.putfield 142, 3) := by decide +kernel
theorem dX12_walks_43 : decode cX12_walks 43 = .ok (.aload_n 0, 1) := by decide +kernel
theorem dX12_walks_44 : decode cX12_walks 44 = .ok (.iload 4, 2) := by decide +kernel
theorem dX12_walks_46 : decode cX12_walks 46 = .ok (.putfield 145, 3) := by decide +kernel
theorem dX12_walks_49 : decode cX12_walks 49 = .ok (.aload_n 0, 1) := by decide +kernel
theorem dX12_walks_50 : decode cX12_walks 50 = .ok (.invokevirtual 160, 3) := by decide +kernel
theorem dX12_walks_53 : decode cX12_walks 53 = .ok (.istore 5, 2) := by decide +kernel
theorem dX12_walks_55 : decode cX12_walks 55 = .ok (.aload_n 0, 1) := by decide +kernel
theorem dX12_walks_56 : decode cX12_walks 56 = .ok (.aload_n 0, 1) := by decide +kernel
theorem dX12_walks_57 : decode cX12_walks 57 = .ok (.getfield 123, 3) := by decide +kernel
theorem dX12_walks_60 : decode cX12_walks 60 = .ok (.ifCond .eq 18, 3) := by decide +kernel
theorem dX12_walks_63 : decode cX12_walks 63 = .ok (.aload_n 0, 1) := by decide +kernel
theorem dX12_walks_64 : decode cX12_walks 64 = .ok (.getfield 127, 3) := by decide +kernel
theorem dX12_walks_67 : decode cX12_walks 67 = .ok (.aload_n 0, 1) := by decide +kernel
theorem dX12_walks_68 : decode cX12_walks 68 = .ok (.getfield 117, 3) := by decide +kernel
theorem dX12_walks_71 : decode cX12_walks 71 = .ok (.if_icmp .ne 7, 3) := by decide +kernel
theorem dX12_walks_74 : decode cX12_walks 74 = .ok (.iconst 1, 1) := by decide +kernel
theorem dX12_walks_75 : decode cX12_walks 75 = .ok (.goto 4, 3) := by decide +kernel
theorem dX12_walks_78 : decode cX12_walks 78 = .ok (.iconst 0, 1) := by decide +kernel
theorem dX12_walks_79 : decode cX12_walks 79 = .ok (.putfield 123, 3) := by decide +kernel
theorem dX12_walks_82 : decode cX12_walks 82 = .ok (.iload 5, 2) := by decide +kernel
theorem dX12_walks_84 : decode cX12_walks 84 = .ok (.ireturn, 1) := by decide +kernel
theorem dX12_lawOf_0 : decode cX12_lawOf 0 = .ok (.aload_n 0, 1) := by decide +kernel
theorem dX12_lawOf_1 : decode cX12_lawOf 1 = .ok (.getfield 7, 3) := by decide +kernel
theorem dX12_lawOf_4 : decode cX12_lawOf 4 = .ok (.bipush 6, 2) := by decide +kernel
theorem dX12_lawOf_6 : decode cX12_lawOf 6 = .ok (.iload_n 1, 1) := by decide +kernel
theorem dX12_lawOf_7 : decode cX12_lawOf 7 = .ok (.iadd, 1) := by decide +kernel
theorem dX12_lawOf_8 : decode cX12_lawOf 8 = .ok (.iaload, 1) := by decide +kernel
theorem dX12_lawOf_9 : decode cX12_lawOf 9 = .ok (.ifCond .lt 20, 3) := by decide +kernel
theorem dX12_lawOf_12 : decode cX12_lawOf 12 = .ok (.aload_n 0, 1) := by decide +kernel
theorem dX12_lawOf_13 : decode cX12_lawOf 13 = .ok (.iload_n 1, 1) := by decide +kernel
theorem dX12_lawOf_14 : decode cX12_lawOf 14 = .ok (.iload_n 2, 1) := by decide +kernel
theorem dX12_lawOf_15 : decode cX12_lawOf 15 = .ok (.iload_n 3, 1) := by decide +kernel
theorem dX12_lawOf_16 : decode cX12_lawOf 16 = .ok (.iload 4, 2) := by decide +kernel
theorem dX12_lawOf_18 : decode cX12_lawOf 18 = .ok (.invokevirtual 175, 3) := by decide +kernel
theorem dX12_lawOf_21 : decode cX12_lawOf 21 = .ok (.bipush (-99), 2) := by decide +kernel
theorem dX12_lawOf_23 : decode cX12_lawOf 23 = .ok (.bipush 99, 2) := by decide +kernel
theorem dX12_lawOf_25 : decode cX12_lawOf 25 = .ok (.invokestatic 93, 3) := by decide +kernel
theorem dX12_lawOf_28 : decode cX12_lawOf 28 = .ok (.ireturn, 1) := by decide +kernel
theorem dX12_lawOf_29 : decode cX12_lawOf 29 = .ok (.iload_n 1, 1) := by decide +kernel
theorem dX12_lawOf_30 : decode cX12_lawOf 30 = .ok (.ifCond .ne 16, 3) := by decide +kernel
theorem dX12_lawOf_33 : decode cX12_lawOf 33 = .ok (.iload_n 2, 1) := by decide +kernel
theorem dX12_lawOf_34 : decode cX12_lawOf 34 = .ok (.iconst 2, 1) := by decide +kernel
theorem dX12_lawOf_35 : decode cX12_lawOf 35 = .ok (.imul, 1) := by decide +kernel
theorem dX12_lawOf_36 : decode cX12_lawOf 36 = .ok (.iload 4, 2) := by decide +kernel
theorem dX12_lawOf_38 : decode cX12_lawOf 38 = .ok (.iadd, 1) := by decide +kernel
theorem dX12_lawOf_39 : decode cX12_lawOf 39 = .ok (.iload_n 3, 1) := by decide +kernel
theorem dX12_lawOf_40 : decode cX12_lawOf 40 = .ok (.iconst 4, 1) := by decide +kernel
theorem dX12_lawOf_41 : decode cX12_lawOf 41 = .ok (.imul, 1) := by decide +kernel
theorem dX12_lawOf_42 : decode cX12_lawOf 42 = .ok (.isub, 1) := by decide +kernel
theorem dX12_lawOf_43 : decode cX12_lawOf 43 = .ok (.goto 19, 3) := by decide +kernel
theorem dX12_lawOf_46 : decode cX12_lawOf 46 = .ok (.iload_n 3, 1) := by decide +kernel
theorem dX12_lawOf_47 : decode cX12_lawOf 47 = .ok (.ifCond .ne 7, 3) := by decide +kernel
theorem dX12_lawOf_50 : decode cX12_lawOf 50 = .ok (.iconst 0, 1) := by decide +kernel
theorem dX12_lawOf_51 : decode cX12_lawOf 51 = .ok (.goto 6, 3) := by decide +kernel
theorem dX12_lawOf_54 : decode cX12_lawOf 54 = .ok (.iload_n 2, 1) := by decide +kernel
theorem dX12_lawOf_55 : decode cX12_lawOf 55 = .ok (.iload_n 3, 1) := by decide +kernel
theorem dX12_lawOf_56 : decode cX12_lawOf 56 = .ok (.idiv, 1) := by decide +kernel
theorem dX12_lawOf_57 : decode cX12_lawOf 57 = .ok (.iload 4, 2) := by decide +kernel
theorem dX12_lawOf_59 : decode cX12_lawOf 59 = .ok (.iconst 2, 1) := by decide +kernel
theorem dX12_lawOf_60 : decode cX12_lawOf 60 = .ok (.imul, 1) := by decide +kernel
theorem dX12_lawOf_61 : decode cX12_lawOf 61 = .ok (.isub, 1) := by decide +kernel
theorem dX12_lawOf_62 : decode cX12_lawOf 62 = .ok (.bipush (-99), 2) := by decide +kernel
theorem dX12_lawOf_64 : decode cX12_lawOf 64 = .ok (.bipush 99, 2) := by decide +kernel
theorem dX12_lawOf_66 : decode cX12_lawOf 66 = .ok (.invokestatic 93, 3) := by decide +kernel
theorem dX12_lawOf_69 : decode cX12_lawOf 69 = .ok (.ireturn, 1) := by decide +kernel
theorem dX12_law_0 : decode cX12_law 0 = .ok (.iload_n 1, 1) := by decide +kernel
theorem dX12_law_1 : decode cX12_law 1 = .ok (.iconst 0, 1) := by decide +kernel
theorem dX12_law_2 : decode cX12_law 2 = .ok (.iconst 1, 1) := by decide +kernel
theorem dX12_law_3 : decode cX12_law 3 = .ok (.invokestatic 47, 3) := by decide +kernel
theorem dX12_law_6 : decode cX12_law 6 = .ok (.ifCond .eq 15, 3) := by decide +kernel
theorem dX12_law_9 : decode cX12_law 9 = .ok (.aload_n 0, 1) := by decide +kernel
theorem dX12_law_10 : decode cX12_law 10 = .ok (.iload_n 1, 1) := by decide +kernel
theorem dX12_law_11 : decode cX12_law 11 = .ok (.iload_n 2, 1) := by decide +kernel
theorem dX12_law_12 : decode cX12_law 12 = .ok (.iload_n 3, 1) := by decide +kernel
theorem dX12_law_13 : decode cX12_law 13 = .ok (.iload 4, 2) := by decide +kernel
theorem dX12_law_15 : decode cX12_law 15 = .ok (.invokevirtual 86, 3) := by decide +kernel
theorem dX12_law_18 : decode cX12_law 18 = .ok (.goto 9, 3) := by decide +kernel
theorem dX12_law_21 : decode cX12_law 21 = .ok (.aload_n 0, 1) := by decide +kernel
theorem dX12_law_22 : decode cX12_law 22 = .ok (.ldc 55, 2) := by decide +kernel
theorem dX12_law_24 : decode cX12_law 24 = .ok (.invokevirtual 56, 3) := by decide +kernel
theorem dX12_law_27 : decode cX12_law 27 = .ok (.ireturn, 1) := by decide +kernel
theorem dX12_feed_0 : decode cX12_feed 0 = .ok (.iload_n 3, 1) := by decide +kernel
theorem dX12_feed_1 : decode cX12_feed 1 = .ok (.iconst 1, 1) := by decide +kernel
theorem dX12_feed_2 : decode cX12_feed 2 = .ok (.bipush 8, 2) := by decide +kernel
theorem dX12_feed_4 : decode cX12_feed 4 = .ok (.invokestatic 47, 3) := by decide +kernel
theorem dX12_feed_7 : decode cX12_feed 7 = .ok (.ifCond .ne 10, 3) := by decide +kernel
theorem dX12_feed_10 : decode cX12_feed 10 = .ok (.aload_n 0, 1) := by decide +kernel
theorem dX12_feed_11 : decode cX12_feed 11 = .ok (.ldc 55, 2) := by decide +kernel
theorem dX12_feed_13 : decode cX12_feed 13 = .ok (.invokevirtual 56, 3) := by decide +kernel
theorem dX12_feed_16 : decode cX12_feed 16 = .ok (.ireturn, 1) := by decide +kernel
theorem dX12_feed_17 : decode cX12_feed 17 = .ok (.aload_n 0, 1) := by decide +kernel
theorem dX12_feed_18 : decode cX12_feed 18 = .ok (.getfield 7, 3) := by decide +kernel
theorem dX12_feed_21 : decode cX12_feed 21 = .ok (.iconst 4, 1) := by decide +kernel
theorem dX12_feed_22 : decode cX12_feed 22 = .ok (.iaload, 1) := by decide +kernel
theorem dX12_feed_23 : decode cX12_feed 23 = .ok (.iload_n 3, 1) := by decide +kernel
theorem dX12_feed_24 : decode cX12_feed 24 = .ok (.iadd, 1) := by decide +kernel
theorem dX12_feed_25 : decode cX12_feed 25 = .ok (.bipush 50, 2) := by decide +kernel
theorem dX12_feed_27 : decode cX12_feed 27 = .ok (.if_icmp .le 10, 3) := by decide +kernel
theorem dX12_feed_30 : decode cX12_feed 30 = .ok (.aload_n 0, 1) := by decide +kernel
theorem dX12_feed_31 : decode cX12_feed 31 = .ok (.ldc 64, 2) := by decide +kernel
theorem dX12_feed_33 : decode cX12_feed 33 = .ok (.invokevirtual 56, 3) := by decide +kernel
theorem dX12_feed_36 : decode cX12_feed 36 = .ok (.ireturn, 1) := by decide +kernel
theorem dX12_feed_37 : decode cX12_feed 37 = .ok (.iconst 0, 1) := by decide +kernel
theorem dX12_feed_38 : decode cX12_feed 38 = .ok (.istore 4, 2) := by decide +kernel
theorem dX12_feed_40 : decode cX12_feed 40 = .ok (.iload 4, 2) := by decide +kernel
theorem dX12_feed_42 : decode cX12_feed 42 = .ok (.iload_n 3, 1) := by decide +kernel
theorem dX12_feed_43 : decode cX12_feed 43 = .ok (.if_icmp .ge 45, 3) := by decide +kernel
theorem dX12_feed_46 : decode cX12_feed 46 = .ok (.aload_n 0, 1) := by decide +kernel
theorem dX12_feed_47 : decode cX12_feed 47 = .ok (.getfield 7, 3) := by decide +kernel
theorem dX12_feed_50 : decode cX12_feed 50 = .ok (.bipush 36, 2) := by decide +kernel
theorem dX12_feed_52 : decode cX12_feed 52 = .ok (.aload_n 0, 1) := by decide +kernel
theorem dX12_feed_53 : decode cX12_feed 53 = .ok (.getfield 7, 3) := by decide +kernel
theorem dX12_feed_56 : decode cX12_feed 56 = .ok (.iconst 4, 1) := by decide +kernel
theorem dX12_feed_57 : decode cX12_feed 57 = .ok (.iaload, 1) := by decide +kernel
theorem dX12_feed_58 : decode cX12_feed 58 = .ok (.iadd, 1) := by decide +kernel
theorem dX12_feed_59 : decode cX12_feed 59 = .ok (.lload_n 1, 1) := by decide +kernel
theorem dX12_feed_60 : decode cX12_feed 60 = .ok (.bipush 8, 2) := by decide +kernel
theorem dX12_feed_62 : decode cX12_feed 62 = .ok (.iload 4, 2) := by decide +kernel
theorem dX12_feed_64 : decode cX12_feed 64 = .ok (.imul, 1) := by decide +kernel
theorem dX12_feed_65 : decode cX12_feed 65 = .ok (.lshr, 1) := by decide +kernel
theorem dX12_feed_66 : decode cX12_feed 66 = .ok (.ldc2_w 178, 3) := by decide +kernel
theorem dX12_feed_69 : decode cX12_feed 69 = .ok (.land, 1) := by decide +kernel
theorem dX12_feed_70 : decode cX12_feed 70 = .ok (.l2i, 1) := by decide +kernel
theorem dX12_feed_71 : decode cX12_feed 71 = .ok (.iastore, 1) := by decide +kernel
theorem dX12_feed_72 : decode cX12_feed 72 = .ok (.aload_n 0, 1) := by decide +kernel
theorem dX12_feed_73 : decode cX12_feed 73 = .ok (.getfield 7, 3) := by decide +kernel
theorem dX12_feed_76 : decode cX12_feed 76 = .ok (.iconst 4, 1) := by decide +kernel
theorem dX12_feed_77 : decode cX12_feed 77 = .ok (.dup2, 1) := by decide +kernel
theorem dX12_feed_78 : decode cX12_feed 78 = .ok (.iaload, 1) := by decide +kernel
theorem dX12_feed_79 : decode cX12_feed 79 = .ok (.iconst 1, 1) := by decide +kernel
theorem dX12_feed_80 : decode cX12_feed 80 = .ok (.iadd, 1) := by decide +kernel
theorem dX12_feed_81 : decode cX12_feed 81 = .ok (.iastore, 1) := by decide +kernel
theorem dX12_feed_82 : decode cX12_feed 82 = .ok (.iinc 4 1, 3) := by decide +kernel
theorem dX12_feed_85 : decode cX12_feed 85 = .ok (.goto (-45), 3) := by decide +kernel
theorem dX12_feed_88 : decode cX12_feed 88 = .ok (.aload_n 0, 1) := by decide +kernel
theorem dX12_feed_89 : decode cX12_feed 89 = .ok (.getfield 7, 3) := by decide +kernel
theorem dX12_feed_92 : decode cX12_feed 92 = .ok (.iconst 4, 1) := by decide +kernel
theorem dX12_feed_93 : decode cX12_feed 93 = .ok (.iaload, 1) := by decide +kernel
theorem dX12_feed_94 : decode cX12_feed 94 = .ok (.ireturn, 1) := by decide +kernel
theorem dX12_text_0 : decode cX12_text 0 = .ok (.iload_n 1, 1) := by decide +kernel
theorem dX12_text_1 : decode cX12_text 1 = .ok (.iconst 0, 1) := by decide +kernel
theorem dX12_text_2 : decode cX12_text 2 = .ok (.iconst 1, 1) := by decide +kernel
theorem dX12_text_3 : decode cX12_text 3 = .ok (.invokestatic 47, 3) := by decide +kernel
theorem dX12_text_6 : decode cX12_text 6 = .ok (.ifCond .ne 10, 3) := by decide +kernel
theorem dX12_text_9 : decode cX12_text 9 = .ok (.aload_n 0, 1) := by decide +kernel
theorem dX12_text_10 : decode cX12_text 10 = .ok (.ldc 55, 2) := by decide +kernel
theorem dX12_text_12 : decode cX12_text 12 = .ok (.invokevirtual 56, 3) := by decide +kernel
theorem dX12_text_15 : decode cX12_text 15 = .ok (.ireturn, 1) := by decide +kernel
theorem dX12_text_16 : decode cX12_text 16 = .ok (.aload_n 0, 1) := by decide +kernel
theorem dX12_text_17 : decode cX12_text 17 = .ok (.aload_n 0, 1) := by decide +kernel
theorem dX12_text_18 : decode cX12_text 18 = .ok (.getfield 7, 3) := by decide +kernel
theorem dX12_text_21 : decode cX12_text 21 = .ok (.aload_n 0, 1) := by decide +kernel
theorem dX12_text_22 : decode cX12_text 22 = .ok (.getfield 19, 3) := by decide +kernel
theorem dX12_text_25 : decode cX12_text 25 = .ok (.invokevirtual 180, 3) := by decide +kernel
theorem dX12_text_28 : decode cX12_text 28 = .ok (.iconst 0, 1) := by decide +kernel
theorem dX12_text_29 : decode cX12_text 29 = .ok (.istore_n 2, 1) := by decide +kernel
theorem dX12_text_30 : decode cX12_text 30 = .ok (.iload_n 2, 1) := by decide +kernel
theorem dX12_text_31 : decode cX12_text 31 = .ok (.bipush 50, 2) := by decide +kernel
theorem dX12_text_33 : decode cX12_text 33 = .ok (.if_icmp .ge 32, 3) := by decide +kernel
theorem dX12_text_36 : decode cX12_text 36 = .ok (.aload_n 0, 1) := by decide +kernel
theorem dX12_text_37 : decode cX12_text 37 = .ok (.getfield 7, 3) := by decide +kernel
theorem dX12_text_40 : decode cX12_text 40 = .ok (.bipush 106, 2) := by decide +kernel
theorem dX12_text_42 : decode cX12_text 42 = .ok (.bipush 50, 2) := by decide +kernel
theorem dX12_text_44 : decode cX12_text 44 = .ok (.iload_n 1, 1) := by decide +kernel
theorem dX12_text_45 : decode cX12_text 45 = .ok (.imul, 1) := by decide +kernel
theorem dX12_text_46 : decode cX12_text 46 = .ok (.iadd, 1) := by decide +kernel
theorem dX12_text_47 : decode cX12_text 47 = .ok (.iload_n 2, 1) := by decide +kernel
theorem dX12_text_48 : decode cX12_text 48 = .ok (.iadd, 1) := by decide +kernel
theorem dX12_text_49 : decode cX12_text 49 = .ok (.aload_n 0, 1) := by decide +kernel
theorem dX12_text_50 : decode cX12_text 50 = .ok (.getfield 7, 3) := by decide +kernel
theorem dX12_text_53 : decode cX12_text 53 = .ok (.bipush 36, 2) := by decide +kernel
theorem dX12_text_55 : decode cX12_text 55 = .ok (.iload_n 2, 1) := by decide +kernel
theorem dX12_text_56 : decode cX12_text 56 = .ok (.iadd, 1) := by decide +kernel
theorem dX12_text_57 : decode cX12_text 57 = .ok (.iaload, 1) := by decide +kernel
theorem dX12_text_58 : decode cX12_text 58 = .ok (.iastore, 1) := by decide +kernel
theorem dX12_text_59 : decode cX12_text 59 = .ok (.iinc 2 1, 3) := by decide +kernel
theorem dX12_text_62 : decode cX12_text 62 = .ok (.goto (-32), 3) := by decide +kernel
theorem dX12_text_65 : decode cX12_text 65 = .ok (.aload_n 0, 1) := by decide +kernel
theorem dX12_text_66 : decode cX12_text 66 = .ok (.getfield 7, 3) := by decide +kernel
theorem dX12_text_69 : decode cX12_text 69 = .ok (.bipush 6, 2) := by decide +kernel
theorem dX12_text_71 : decode cX12_text 71 = .ok (.iload_n 1, 1) := by decide +kernel
theorem dX12_text_72 : decode cX12_text 72 = .ok (.iadd, 1) := by decide +kernel
theorem dX12_text_73 : decode cX12_text 73 = .ok (.aload_n 0, 1) := by decide +kernel
theorem dX12_text_74 : decode cX12_text 74 = .ok (.getfield 7, 3) := by decide +kernel
theorem dX12_text_77 : decode cX12_text 77 = .ok (.iconst 4, 1) := by decide +kernel
theorem dX12_text_78 : decode cX12_text 78 = .ok (.iaload, 1) := by decide +kernel
theorem dX12_text_79 : decode cX12_text 79 = .ok (.iastore, 1) := by decide +kernel
theorem dX12_text_80 : decode cX12_text 80 = .ok (.aload_n 0, 1) := by decide +kernel
theorem dX12_text_81 : decode cX12_text 81 = .ok (.iload_n 1, 1) := by decide +kernel
theorem dX12_text_82 : decode cX12_text 82 = .ok (.iconst 1, 1) := by decide +kernel
theorem dX12_text_83 : decode cX12_text 83 = .ok (.iconst 1, 1) := by decide +kernel
theorem dX12_text_84 : decode cX12_text 84 = .ok (.iconst 1, 1) := by decide +kernel
theorem dX12_text_85 : decode cX12_text 85 = .ok (.invokevirtual 175, 3) := by decide +kernel
theorem dX12_text_88 : decode cX12_text 88 = .ok (.istore_n 2, 1) := by decide +kernel
theorem dX12_text_89 : decode cX12_text 89 = .ok (.aload_n 0, 1) := by decide +kernel
theorem dX12_text_90 : decode cX12_text 90 = .ok (.getfield 123, 3) := by decide +kernel
theorem dX12_text_93 : decode cX12_text 93 = .ok (.ifCond .eq 12, 3) := by decide +kernel
theorem dX12_text_96 : decode cX12_text 96 = .ok (.iload_n 2, 1) := by decide +kernel
theorem dX12_text_97 : decode cX12_text 97 = .ok (.iload_n 2, 1) := by decide +kernel
theorem dX12_text_98 : decode cX12_text 98 = .ok (.if_icmp .ne 7, 3) := by decide +kernel
theorem dX12_text_101 : decode cX12_text 101 = .ok (.iconst 1, 1) := by decide +kernel
theorem dX12_text_102 : decode cX12_text 102 = .ok (.goto 4, 3) := by decide +kernel
theorem dX12_text_105 : decode cX12_text 105 = .ok (.iconst 0, 1) := by decide +kernel
theorem dX12_text_106 : decode cX12_text 106 = .ok (.istore_n 3, 1) := by decide +kernel
theorem dX12_text_107 : decode cX12_text 107 = .ok (.aload_n 0, 1) := by decide +kernel
theorem dX12_text_108 : decode cX12_text 108 = .ok (.getfield 127, 3) := by decide +kernel
theorem dX12_text_111 : decode cX12_text 111 = .ok (.istore 4, 2) := by decide +kernel
theorem dX12_text_113 : decode cX12_text 113 = .ok (.iload_n 3, 1) := by decide +kernel
theorem dX12_text_114 : decode cX12_text 114 = .ok (.ifCond .ne 15, 3) := by decide +kernel
theorem dX12_text_117 : decode cX12_text 117 = .ok (.aload_n 0, 1) := by decide +kernel
theorem dX12_text_118 : decode cX12_text 118 = .ok (.aload_n 0, 1) := by decide +kernel
theorem dX12_text_119 : decode cX12_text 119 = .ok (.getfield 19, 3) := by decide +kernel
theorem dX12_text_122 : decode cX12_text 122 = .ok (.aload_n 0, 1) := by decide +kernel
theorem dX12_text_123 : decode cX12_text 123 = .ok (.getfield 7, 3) := by decide +kernel
theorem dX12_text_126 : decode cX12_text 126 = .ok (.invokevirtual 180, 3) := by decide +kernel
theorem dX12_text_129 : decode cX12_text 129 = .ok (.aload_n 0, 1) := by decide +kernel
theorem dX12_text_130 : decode cX12_text 130 = .ok (.getfield 7, 3) := by decide +kernel
theorem dX12_text_133 : decode cX12_text 133 = .ok (.iconst 4, 1) := by decide +kernel
theorem dX12_text_134 : decode cX12_text 134 = .ok (.iconst 0, 1) := by decide +kernel
theorem dX12_text_135 : decode cX12_text 135 = .ok (.iastore, 1) := by decide +kernel
theorem dX12_text_136 : decode cX12_text 136 = .ok (.iload_n 3, 1) := by decide +kernel
theorem dX12_text_137 : decode cX12_text 137 = .ok (.ifCond .eq 7, 3) := by decide +kernel
theorem dX12_text_140 : decode cX12_text 140 = .ok (.iconst 1, 1) := by decide +kernel
theorem dX12_text_141 : decode cX12_text 141 = .ok (.goto 8, 3) := by decide +kernel
theorem dX12_text_144 : decode cX12_text 144 = .ok (.bipush (-10), 2) := by decide +kernel
theorem dX12_text_146 : decode cX12_text 146 = .ok (.iload 4, 2) := by decide +kernel
theorem dX12_text_148 : decode cX12_text 148 = .ok (.isub, 1) := by decide +kernel
theorem dX12_text_149 : decode cX12_text 149 = .ok (.ireturn, 1) := by decide +kernel
theorem dX12_rides_0 : decode cX12_rides 0 = .ok (.aload_n 0, 1) := by decide +kernel
theorem dX12_rides_1 : decode cX12_rides 1 = .ok (.iload_n 1, 1) := by decide +kernel
theorem dX12_rides_2 : decode cX12_rides 2 = .ok (.iconst 2, 1) := by decide +kernel
theorem dX12_rides_3 : decode cX12_rides 3 = .ok (.invokevirtual 83, 3) := by decide +kernel
theorem dX12_rides_6 : decode cX12_rides 6 = .ok (.istore_n 2, 1) := by decide +kernel
theorem dX12_rides_7 : decode cX12_rides 7 = .ok (.aload_n 0, 1) := by decide +kernel
theorem dX12_rides_8 : decode cX12_rides 8 = .ok (.iload_n 1, 1) := by decide +kernel
theorem dX12_rides_9 : decode cX12_rides 9 = .ok (.iload_n 2, 1) := by decide +kernel
theorem dX12_rides_10 : decode cX12_rides 10 = .ok (.invokevirtual 97, 3) := by decide +kernel
theorem dX12_rides_13 : decode cX12_rides 13 = .ok (.istore_n 3, 1) := by decide +kernel
theorem dX12_rides_14 : decode cX12_rides 14 = .ok (.iconst 0, 1) := by decide +kernel
theorem dX12_rides_15 : decode cX12_rides 15 = .ok (.istore 4, 2) := by decide +kernel
theorem dX12_rides_17 : decode cX12_rides 17 = .ok (.iload 4, 2) := by decide +kernel
theorem dX12_rides_19 : decode cX12_rides 19 = .ok (.bipush 8, 2) := by decide +kernel
theorem dX12_rides_21 : decode cX12_rides 21 = .ok (.if_icmp .ge 102, 3) := by decide +kernel
theorem dX12_rides_24 : decode cX12_rides 24 = .ok (.iload_n 3, 1) := by decide +kernel
theorem dX12_rides_25 : decode cX12_rides 25 = .ok (.aload_n 0, 1) := by decide +kernel
theorem dX12_rides_26 : decode cX12_rides 26 = .ok (.getfield 7, 3) := by decide +kernel
theorem dX12_rides_29 : decode cX12_rides 29 = .ok (.bipush 9, 2) := by decide +kernel
theorem dX12_rides_31 : decode cX12_rides 31 = .ok (.iaload, 1) := by decide +kernel
theorem dX12_rides_32 : decode cX12_rides 32 = .ok (.if_icmp .lt 91, 3) := by decide +kernel
theorem dX12_rides_35 : decode cX12_rides 35 = .ok (.aload_n 0, 1) := by decide +kernel
theorem dX12_rides_36 : decode cX12_rides 36 = .ok (.iload_n 2, 1) := by decide +kernel
theorem dX12_rides_37 : decode cX12_rides 37 = .ok (.iload 4, 2) := by decide +kernel
theorem dX12_rides_39 : decode cX12_rides 39 = .ok (.invokevirtual 75, 3) := by decide +kernel
theorem dX12_rides_42 : decode cX12_rides 42 = .ok (.istore 5, 2) := by decide +kernel
theorem dX12_rides_44 : decode cX12_rides 44 = .ok (.aload_n 0, 1) := by decide +kernel
theorem dX12_rides_45 : decode cX12_rides 45 = .ok (.getfield 7, 3) := by decide +kernel
theorem dX12_rides_48 : decode cX12_rides 48 = .ok (.bipush 10, 2) := by decide +kernel
theorem dX12_rides_50 : decode cX12_rides 50 = .ok (.iload 4, 2) := by decide +kernel
theorem dX12_rides_52 : decode cX12_rides 52 = .ok (.iadd, 1) := by decide +kernel
theorem dX12_rides_53 : decode cX12_rides 53 = .ok (.iaload, 1) := by decide +kernel
theorem dX12_rides_54 : decode cX12_rides 54 = .ok (.istore 6, 2) := by decide +kernel
theorem dX12_rides_56 : decode cX12_rides 56 = .ok (.iload 5, 2) := by decide +kernel
theorem dX12_rides_58 : decode cX12_rides 58 = .ok (.ifCond .le 23, 3) := by decide +kernel
theorem dX12_rides_61 : decode cX12_rides 61 = .ok (.iload 6, 2) := by decide +kernel
theorem dX12_rides_63 : decode cX12_rides 63 = .ok (.ifCond .ne 18, 3) := by decide +kernel
theorem dX12_rides_66 : decode cX12_rides 66 = .ok (.aload_n 0, 1) := by decide +kernel
theorem dX12_rides_67 : decode cX12_rides 67 = .ok (.getfield 7, 3) := by decide +kernel
theorem dX12_rides_70 : decode cX12_rides 70 = .ok (.bipush 10, 2) := by decide +kernel
theorem dX12_rides_72 : decode cX12_rides 72 = .ok (.iload 4, 2) := by decide +kernel
theorem dX12_rides_74 : decode cX12_rides 74 = .ok (.iadd, 1) := by decide +kernel
theorem dX12_rides_75 : decode cX12_rides 75 = .ok (.iload 5, 2) := by decide +kernel
theorem dX12_rides_77 : decode cX12_rides 77 = .ok (.iastore, 1) := by decide +kernel
theorem dX12_rides_78 : decode cX12_rides 78 = .ok (.goto 39, 3) := by decide +kernel
theorem dX12_rides_81 : decode cX12_rides 81 = .ok (.iload 5, 2) := by decide +kernel
theorem dX12_rides_83 : decode cX12_rides 83 = .ok (.ifCond .le 34, 3) := by decide +kernel
theorem dX12_rides_86 : decode cX12_rides 86 = .ok (.iload 5, 2) := by decide +kernel
theorem dX12_rides_88 : decode cX12_rides 88 = .ok (.iload 6, 2) := by decide +kernel
theorem dX12_rides_90 : decode cX12_rides 90 = .ok (.if_icmp .eq 27, 3) := by decide +kernel
theorem dX12_rides_93 : decode cX12_rides 93 = .ok (.iload_n 3, 1) := by decide +kernel
theorem dX12_rides_94 : decode cX12_rides 94 = .ok (.iconst 2, 1) := by decide +kernel
theorem dX12_rides_95 : decode cX12_rides 95 = .ok (.aload_n 0, 1) := by decide +kernel
theorem dX12_rides_96 : decode cX12_rides 96 = .ok (.getfield 7, 3) := by decide +kernel
theorem dX12_rides_99 : decode cX12_rides 99 = .ok (.bipush 9, 2) := by decide +kernel
theorem dX12_rides_101 : decode cX12_rides 101 = .ok (.iaload, 1) := by decide +kernel
theorem dX12_rides_102 : decode cX12_rides 102 = .ok (.imul, 1) := by decide +kernel
theorem dX12_rides_103 : decode cX12_rides 103 = .ok (.if_icmp .lt 14, 3) := by decide +kernel
theorem dX12_rides_106 : decode cX12_rides 106 = .ok (.aload_n 0, 1) := by decide +kernel
theorem dX12_rides_107 : decode cX12_rides 107 = .ok (.getfield 7, 3) := by decide +kernel
theorem dX12_rides_110 : decode cX12_rides 110 = .ok (.bipush 10, 2) := by decide +kernel
theorem dX12_rides_112 : decode cX12_rides 112 = .ok (.iload 4, 2) := by decide +kernel
theorem dX12_rides_114 : decode cX12_rides 114 = .ok (.iadd, 1) := by decide +kernel
theorem dX12_rides_115 : decode cX12_rides 115 = .ok (.iconst 0, 1) := by decide +kernel
theorem dX12_rides_116 : decode cX12_rides 116 = .ok (.iastore, 1) := by decide +kernel
theorem dX12_rides_117 : decode cX12_rides 117 = .ok (.iinc 4 1, 3) := by decide +kernel
theorem dX12_rides_120 : decode cX12_rides 120 = .ok (.goto (-103), 3) := by decide +kernel
theorem dX12_rides_123 : decode cX12_rides 123 = .ok (.aload_n 0, 1) := by decide +kernel
theorem dX12_rides_124 : decode cX12_rides 124 = .ok (.getfield 7, 3) := by decide +kernel
theorem dX12_rides_127 : decode cX12_rides 127 = .ok (.iconst 1, 1) := by decide +kernel
theorem dX12_rides_128 : decode cX12_rides 128 = .ok (.aload_n 0, 1) := by decide +kernel
theorem dX12_rides_129 : decode cX12_rides 129 = .ok (.getfield 7, 3) := by decide +kernel
theorem dX12_rides_132 : decode cX12_rides 132 = .ok (.iconst 1, 1) := by decide +kernel
theorem dX12_rides_133 : decode cX12_rides 133 = .ok (.iaload, 1) := by decide +kernel
theorem dX12_rides_134 : decode cX12_rides 134 = .ok (.iconst 1, 1) := by decide +kernel
theorem dX12_rides_135 : decode cX12_rides 135 = .ok (.iadd, 1) := by decide +kernel
theorem dX12_rides_136 : decode cX12_rides 136 = .ok (.iconst 0, 1) := by decide +kernel
theorem dX12_rides_137 : decode cX12_rides 137 = .ok (.sipush 9999, 3) := by decide +kernel
theorem dX12_rides_140 : decode cX12_rides 140 = .ok (.invokestatic 93, 3) := by decide +kernel
theorem dX12_rides_143 : decode cX12_rides 143 = .ok (.iastore, 1) := by decide +kernel
theorem dX12_rides_144 : decode cX12_rides 144 = .ok (.iload_n 3, 1) := by decide +kernel
theorem dX12_rides_145 : decode cX12_rides 145 = .ok (.ireturn, 1) := by decide +kernel
theorem dX12_ride_0 : decode cX12_ride 0 = .ok (.aload_n 0, 1) := by decide +kernel
theorem dX12_ride_1 : decode cX12_ride 1 = .ok (.iload_n 1, 1) := by decide +kernel
theorem dX12_ride_2 : decode cX12_ride 2 = .ok (.invokevirtual 100, 3) := by decide +kernel
theorem dX12_ride_5 : decode cX12_ride 5 = .ok (.ifCond .eq 11, 3) := by decide +kernel
theorem dX12_ride_8 : decode cX12_ride 8 = .ok (.aload_n 0, 1) := by decide +kernel
theorem dX12_ride_9 : decode cX12_ride 9 = .ok (.iload_n 1, 1) := by decide +kernel
theorem dX12_ride_10 : decode cX12_ride 10 = .ok (.invokevirtual 184, 3) := by decide +kernel
theorem dX12_ride_13 : decode cX12_ride 13 = .ok (.goto 9, 3) := by decide +kernel
theorem dX12_ride_16 : decode cX12_ride 16 = .ok (.aload_n 0, 1) := by decide +kernel
theorem dX12_ride_17 : decode cX12_ride 17 = .ok (.ldc 55, 2) := by decide +kernel
theorem dX12_ride_19 : decode cX12_ride 19 = .ok (.invokevirtual 56, 3) := by decide +kernel
theorem dX12_ride_22 : decode cX12_ride 22 = .ok (.ireturn, 1) := by decide +kernel
theorem dX12_oneDay_0 : decode cX12_oneDay 0 = .ok (.iconst 0, 1) := by decide +kernel
theorem dX12_oneDay_1 : decode cX12_oneDay 1 = .ok (.istore_n 1, 1) := by decide +kernel
theorem dX12_oneDay_2 : decode cX12_oneDay 2 = .ok (.iload_n 1, 1) := by decide +kernel
theorem dX12_oneDay_3 : decode cX12_oneDay 3 = .ok (.aload_n 0, 1) := by decide +kernel
theorem dX12_oneDay_4 : decode cX12_oneDay 4 = .ok (.getfield 7, 3) := by decide +kernel
theorem dX12_oneDay_7 : decode cX12_oneDay 7 = .ok (.iconst 3, 1) := by decide +kernel
theorem dX12_oneDay_8 : decode cX12_oneDay 8 = .ok (.iaload, 1) := by decide +kernel
theorem dX12_oneDay_9 : decode cX12_oneDay 9 = .ok (.if_icmp .ge 15, 3) := by decide +kernel
theorem dX12_oneDay_12 : decode cX12_oneDay 12 = .ok (.aload_n 0, 1) := by decide +kernel
theorem dX12_oneDay_13 : decode cX12_oneDay 13 = .ok (.iload_n 1, 1) := by decide +kernel
theorem dX12_oneDay_14 : decode cX12_oneDay 14 = .ok (.invokevirtual 184, 3) := by decide +kernel
theorem dX12_oneDay_17 : decode cX12_oneDay 17 = .ok (.pop, 1) := by decide +kernel
theorem dX12_oneDay_18 : decode cX12_oneDay 18 = .ok (.iinc 1 1, 3) := by decide +kernel
theorem dX12_oneDay_21 : decode cX12_oneDay 21 = .ok (.goto (-19), 3) := by decide +kernel
theorem dX12_oneDay_24 : decode cX12_oneDay 24 = .ok (.aload_n 0, 1) := by decide +kernel
theorem dX12_oneDay_25 : decode cX12_oneDay 25 = .ok (.getfield 7, 3) := by decide +kernel
theorem dX12_oneDay_28 : decode cX12_oneDay 28 = .ok (.iconst 0, 1) := by decide +kernel
theorem dX12_oneDay_29 : decode cX12_oneDay 29 = .ok (.dup2, 1) := by decide +kernel
theorem dX12_oneDay_30 : decode cX12_oneDay 30 = .ok (.iaload, 1) := by decide +kernel
theorem dX12_oneDay_31 : decode cX12_oneDay 31 = .ok (.iconst 1, 1) := by decide +kernel
theorem dX12_oneDay_32 : decode cX12_oneDay 32 = .ok (.iadd, 1) := by decide +kernel
theorem dX12_oneDay_33 : decode cX12_oneDay 33 = .ok (.iastore, 1) := by decide +kernel
theorem dX12_oneDay_34 : decode cX12_oneDay 34 = .ok (.return_, 1) := by decide +kernel
theorem dX12_days_0 : decode cX12_days 0 = .ok (.iload_n 1, 1) := by decide +kernel
theorem dX12_days_1 : decode cX12_days 1 = .ok (.iconst 1, 1) := by decide +kernel
theorem dX12_days_2 : decode cX12_days 2 = .ok (.bipush 60, 2) := by decide +kernel
theorem dX12_days_4 : decode cX12_days 4 = .ok (.invokestatic 47, 3) := by decide +kernel
theorem dX12_days_7 : decode cX12_days 7 = .ok (.ifCond .ne 10, 3) := by decide +kernel
theorem dX12_days_10 : decode cX12_days 10 = .ok (.aload_n 0, 1) := by decide +kernel
theorem dX12_days_11 : decode cX12_days 11 = .ok (.ldc 55, 2) := by decide +kernel
theorem dX12_days_13 : decode cX12_days 13 = .ok (.invokevirtual 56, 3) := by decide +kernel
theorem dX12_days_16 : decode cX12_days 16 = .ok (.ireturn, 1) := by decide +kernel
theorem dX12_days_17 : decode cX12_days 17 = .ok (.aload_n 0, 1) := by decide +kernel
theorem dX12_days_18 : decode cX12_days 18 = .ok (.getfield 7, 3) := by decide +kernel
theorem dX12_days_21 : decode cX12_days 21 = .ok (.iconst 0, 1) := by decide +kernel
theorem dX12_days_22 : decode cX12_days 22 = .ok (.iaload, 1) := by decide +kernel
theorem dX12_days_23 : decode cX12_days 23 = .ok (.iload_n 1, 1) := by decide +kernel
theorem dX12_days_24 : decode cX12_days 24 = .ok (.iadd, 1) := by decide +kernel
theorem dX12_days_25 : decode cX12_days 25 = .ok (.sipush 9999, 3) := by decide +kernel
theorem dX12_days_28 : decode cX12_days 28 = .ok (.if_icmp .le 10, 3) := by decide +kernel
theorem dX12_days_31 : decode cX12_days 31 = .ok (.aload_n 0, 1) := by decide +kernel
theorem dX12_days_32 : decode cX12_days 32 = .ok (.ldc 187, 2) := by decide +kernel
theorem dX12_days_34 : decode cX12_days 34 = .ok (.invokevirtual 56, 3) := by decide +kernel
theorem dX12_days_37 : decode cX12_days 37 = .ok (.ireturn, 1) := by decide +kernel
theorem dX12_days_38 : decode cX12_days 38 = .ok (.iconst 0, 1) := by decide +kernel
theorem dX12_days_39 : decode cX12_days 39 = .ok (.istore_n 2, 1) := by decide +kernel
theorem dX12_days_40 : decode cX12_days 40 = .ok (.iload_n 2, 1) := by decide +kernel
theorem dX12_days_41 : decode cX12_days 41 = .ok (.iload_n 1, 1) := by decide +kernel
theorem dX12_days_42 : decode cX12_days 42 = .ok (.if_icmp .ge 13, 3) := by decide +kernel
theorem dX12_days_45 : decode cX12_days 45 = .ok (.aload_n 0, 1) := by decide +kernel
theorem dX12_days_46 : decode cX12_days 46 = .ok (.invokevirtual 188, 3) := by decide +kernel
theorem dX12_days_49 : decode cX12_days 49 = .ok (.iinc 2 1, 3) := by decide +kernel
theorem dX12_days_52 : decode cX12_days 52 = .ok (.goto (-12), 3) := by decide +kernel
theorem dX12_days_55 : decode cX12_days 55 = .ok (.aload_n 0, 1) := by decide +kernel
theorem dX12_days_56 : decode cX12_days 56 = .ok (.invokevirtual 60, 3) := by decide +kernel
theorem dX12_days_59 : decode cX12_days 59 = .ok (.ireturn, 1) := by decide +kernel
theorem dX12_drawn_0 : decode cX12_drawn 0 = .ok (.aload_n 0, 1) := by decide +kernel
theorem dX12_drawn_1 : decode cX12_drawn 1 = .ok (.getfield 7, 3) := by decide +kernel
theorem dX12_drawn_4 : decode cX12_drawn 4 = .ok (.iconst 2, 1) := by decide +kernel
theorem dX12_drawn_5 : decode cX12_drawn 5 = .ok (.aload_n 0, 1) := by decide +kernel
theorem dX12_drawn_6 : decode cX12_drawn 6 = .ok (.getfield 7, 3) := by decide +kernel
theorem dX12_drawn_9 : decode cX12_drawn 9 = .ok (.iconst 2, 1) := by decide +kernel
theorem dX12_drawn_10 : decode cX12_drawn 10 = .ok (.iaload, 1) := by decide +kernel
theorem dX12_drawn_11 : decode cX12_drawn 11 = .ok (.ldc 191, 2) := by decide +kernel
theorem dX12_drawn_13 : decode cX12_drawn 13 = .ok (.imul, 1) := by decide +kernel
theorem dX12_drawn_14 : decode cX12_drawn 14 = .ok (.sipush 12345, 3) := by decide +kernel
theorem dX12_drawn_17 : decode cX12_drawn 17 = .ok (.iadd, 1) := by decide +kernel
theorem dX12_drawn_18 : decode cX12_drawn 18 = .ok (.iastore, 1) := by decide +kernel
theorem dX12_drawn_19 : decode cX12_drawn 19 = .ok (.aload_n 0, 1) := by decide +kernel
theorem dX12_drawn_20 : decode cX12_drawn 20 = .ok (.getfield 7, 3) := by decide +kernel
theorem dX12_drawn_23 : decode cX12_drawn 23 = .ok (.iconst 2, 1) := by decide +kernel
theorem dX12_drawn_24 : decode cX12_drawn 24 = .ok (.iaload, 1) := by decide +kernel
theorem dX12_drawn_25 : decode cX12_drawn 25 = .ok (.bipush 8, 2) := by decide +kernel
theorem dX12_drawn_27 : decode cX12_drawn 27 = .ok (.iushr, 1) := by decide +kernel
theorem dX12_drawn_28 : decode cX12_drawn 28 = .ok (.iload_n 1, 1) := by decide +kernel
theorem dX12_drawn_29 : decode cX12_drawn 29 = .ok (.irem, 1) := by decide +kernel
theorem dX12_drawn_30 : decode cX12_drawn 30 = .ok (.ireturn, 1) := by decide +kernel
theorem dX12_rumours_0 : decode cX12_rumours 0 = .ok (.iload_n 1, 1) := by decide +kernel
theorem dX12_rumours_1 : decode cX12_rumours 1 = .ok (.iconst 1, 1) := by decide +kernel
theorem dX12_rumours_2 : decode cX12_rumours 2 = .ok (.bipush 40, 2) := by decide +kernel
theorem dX12_rumours_4 : decode cX12_rumours 4 = .ok (.invokestatic 47, 3) := by decide +kernel
theorem dX12_rumours_7 : decode cX12_rumours 7 = .ok (.ifCond .ne 10, 3) := by decide +kernel
theorem dX12_rumours_10 : decode cX12_rumours 10 = .ok (.aload_n 0, 1) := by decide +kernel
theorem dX12_rumours_11 : decode cX12_rumours 11 = .ok (.ldc 55, 2) := by decide +kernel
theorem dX12_rumours_13 : decode cX12_rumours 13 = .ok (.invokevirtual 56, 3) := by decide +kernel
theorem dX12_rumours_16 : decode cX12_rumours 16 = .ok (.ireturn, 1) := by decide +kernel
theorem dX12_rumours_17 : decode cX12_rumours 17 = .ok (.aload_n 0, 1) := by decide +kernel
theorem dX12_rumours_18 : decode cX12_rumours 18 = .ok (.getfield 7, 3) := by decide +kernel
theorem dX12_rumours_21 : decode cX12_rumours 21 = .ok (.iconst 0, 1) := by decide +kernel
theorem dX12_rumours_22 : decode cX12_rumours 22 = .ok (.iaload, 1) := by decide +kernel
theorem dX12_rumours_23 : decode cX12_rumours 23 = .ok (.iload_n 1, 1) := by decide +kernel
theorem dX12_rumours_24 : decode cX12_rumours 24 = .ok (.iadd, 1) := by decide +kernel
theorem dX12_rumours_25 : decode cX12_rumours 25 = .ok (.sipush 9999, 3) := by decide +kernel
theorem dX12_rumours_28 : decode cX12_rumours 28 = .ok (.if_icmp .le 10, 3) := by decide +kernel
theorem dX12_rumours_31 : decode cX12_rumours 31 = .ok (.aload_n 0, 1) := by decide +kernel
theorem dX12_rumours_32 : decode cX12_rumours 32 = .ok (.ldc 187, 2) := by decide +kernel
theorem dX12_rumours_34 : decode cX12_rumours 34 = .ok (.invokevirtual 56, 3) := by decide +kernel
theorem dX12_rumours_37 : decode cX12_rumours 37 = .ok (.ireturn, 1) := by decide +kernel
theorem dX12_rumours_38 : decode cX12_rumours 38 = .ok (.iconst 0, 1) := by decide +kernel
theorem dX12_rumours_39 : decode cX12_rumours 39 = .ok (.istore_n 2, 1) := by decide +kernel
theorem dX12_rumours_40 : decode cX12_rumours 40 = .ok (.iload_n 2, 1) := by decide +kernel
theorem dX12_rumours_41 : decode cX12_rumours 41 = .ok (.iload_n 1, 1) := by decide +kernel
theorem dX12_rumours_42 : decode cX12_rumours 42 = .ok (.if_icmp .ge 34, 3) := by decide +kernel
theorem dX12_rumours_45 : decode cX12_rumours 45 = .ok (.aload_n 0, 1) := by decide +kernel
theorem dX12_rumours_46 : decode cX12_rumours 46 = .ok (.bipush 8, 2) := by decide +kernel
theorem dX12_rumours_48 : decode cX12_rumours 48 = .ok (.invokevirtual 192, 3) := by decide +kernel
theorem dX12_rumours_51 : decode cX12_rumours 51 = .ok (.istore_n 3, 1) := by decide +kernel
theorem dX12_rumours_52 : decode cX12_rumours 52 = .ok (.aload_n 0, 1) := by decide +kernel
theorem dX12_rumours_53 : decode cX12_rumours 53 = .ok (.getfield 7, 3) := by decide +kernel
theorem dX12_rumours_56 : decode cX12_rumours 56 = .ok (.bipush 10, 2) := by decide +kernel
theorem dX12_rumours_58 : decode cX12_rumours 58 = .ok (.iload_n 3, 1) := by decide +kernel
theorem dX12_rumours_59 : decode cX12_rumours 59 = .ok (.iadd, 1) := by decide +kernel
theorem dX12_rumours_60 : decode cX12_rumours 60 = .ok (.aload_n 0, 1) := by decide +kernel
theorem dX12_rumours_61 : decode cX12_rumours 61 = .ok (.iconst 3, 1) := by decide +kernel
theorem dX12_rumours_62 : decode cX12_rumours 62 = .ok (.invokevirtual 192, 3) := by decide +kernel
theorem dX12_rumours_65 : decode cX12_rumours 65 = .ok (.iastore, 1) := by decide +kernel
theorem dX12_rumours_66 : decode cX12_rumours 66 = .ok (.aload_n 0, 1) := by decide +kernel
theorem dX12_rumours_67 : decode cX12_rumours 67 = .ok (.invokevirtual 188, 3) := by decide +kernel
theorem dX12_rumours_70 : decode cX12_rumours 70 = .ok (.iinc 2 1, 3) := by decide +kernel
theorem dX12_rumours_73 : decode cX12_rumours 73 = .ok (.goto (-33), 3) := by decide +kernel
theorem dX12_rumours_76 : decode cX12_rumours 76 = .ok (.aload_n 0, 1) := by decide +kernel
theorem dX12_rumours_77 : decode cX12_rumours 77 = .ok (.invokevirtual 60, 3) := by decide +kernel
theorem dX12_rumours_80 : decode cX12_rumours 80 = .ok (.ireturn, 1) := by decide +kernel
theorem dX12_bits_0 : decode cX12_bits 0 = .ok (.iconst 0, 1) := by decide +kernel
theorem dX12_bits_1 : decode cX12_bits 1 = .ok (.istore_n 1, 1) := by decide +kernel
theorem dX12_bits_2 : decode cX12_bits 2 = .ok (.iconst 0, 1) := by decide +kernel
theorem dX12_bits_3 : decode cX12_bits 3 = .ok (.istore_n 2, 1) := by decide +kernel
theorem dX12_bits_4 : decode cX12_bits 4 = .ok (.iload_n 2, 1) := by decide +kernel
theorem dX12_bits_5 : decode cX12_bits 5 = .ok (.bipush 8, 2) := by decide +kernel
theorem dX12_bits_7 : decode cX12_bits 7 = .ok (.if_icmp .ge 17, 3) := by decide +kernel
theorem dX12_bits_10 : decode cX12_bits 10 = .ok (.iload_n 1, 1) := by decide +kernel
theorem dX12_bits_11 : decode cX12_bits 11 = .ok (.iload_n 0, 1) := by decide +kernel
theorem dX12_bits_12 : decode cX12_bits 12 = .ok (.iload_n 2, 1) := by decide +kernel
theorem dX12_bits_13 : decode cX12_bits 13 = .ok (.ishr, 1) := by decide +kernel
theorem dX12_bits_14 : decode cX12_bits 14 = .ok (.iconst 1, 1) := by decide +kernel
theorem dX12_bits_15 : decode cX12_bits 15 = .ok (.iand, 1) := by decide +kernel
theorem dX12_bits_16 : decode cX12_bits 16 = .ok (.iadd, 1) := by decide +kernel
theorem dX12_bits_17 : decode cX12_bits 17 = .ok (.istore_n 1, 1) := by decide +kernel
theorem dX12_bits_18 : decode cX12_bits 18 = .ok (.iinc 2 1, 3) := by decide +kernel
theorem dX12_bits_21 : decode cX12_bits 21 = .ok (.goto (-17), 3) := by decide +kernel
theorem dX12_bits_24 : decode cX12_bits 24 = .ok (.iload_n 1, 1) := by decide +kernel
theorem dX12_bits_25 : decode cX12_bits 25 = .ok (.ireturn, 1) := by decide +kernel
theorem dX12_floorTogether_0 : decode cX12_floorTogether 0 = .ok (.iconst 0, 1) := by decide +kernel
theorem dX12_floorTogether_1 : decode cX12_floorTogether 1 = .ok (.istore_n 2, 1) := by decide +kernel
theorem dX12_floorTogether_2 : decode cX12_floorTogether 2 = .ok (.iconst 0, 1) := by decide +kernel
theorem dX12_floorTogether_3 : decode cX12_floorTogether 3 = .ok (.istore_n 3, 1) := by decide +kernel
theorem dX12_floorTogether_4 : decode cX12_floorTogether 4 = .ok (.iconst 0, 1) := by decide +kernel
theorem dX12_floorTogether_5 : decode cX12_floorTogether 5 = .ok (.istore 4, 2) := by decide +kernel
theorem dX12_floorTogether_7 : decode cX12_floorTogether 7 = .ok (.iconst 0, 1) := by decide +kernel
theorem dX12_floorTogether_8 : decode cX12_floorTogether 8 = .ok (.istore 5, 2) := by decide +kernel
theorem dX12_floorTogether_10 : decode cX12_floorTogether 10 = .ok (.iload 5, 2) := by decide +kernel
theorem dX12_floorTogether_12 : decode cX12_floorTogether 12 = .ok (.aload_n 0, 1) := by decide +kernel
theorem dX12_floorTogether_13 : decode cX12_floorTogether 13 = .ok (.getfield 7, 3) := by decide +kernel
theorem dX12_floorTogether_16 : decode cX12_floorTogether 16 = .ok (.iconst 3, 1) := by decide +kernel
theorem dX12_floorTogether_17 : decode cX12_floorTogether 17 = .ok (.iaload, 1) := by decide +kernel
theorem dX12_floorTogether_18 : decode cX12_floorTogether 18 = .ok (.if_icmp .ge 102, 3) := by decide +kernel
theorem dX12_floorTogether_21 : decode cX12_floorTogether 21 = .ok (.iload_n 1, 1) := by decide +kernel
theorem dX12_floorTogether_22 : decode cX12_floorTogether 22 = .ok (.iload 5, 2) := by decide +kernel
theorem dX12_floorTogether_24 : decode cX12_floorTogether 24 = .ok (.ishr, 1) := by decide +kernel
theorem dX12_floorTogether_25 : decode cX12_floorTogether 25 = .ok (.iconst 1, 1) := by decide +kernel
theorem dX12_floorTogether_26 : decode cX12_floorTogether 26 = .ok (.iand, 1) := by decide +kernel
theorem dX12_floorTogether_27 : decode cX12_floorTogether 27 = .ok (.iconst 1, 1) := by decide +kernel
theorem dX12_floorTogether_28 : decode cX12_floorTogether 28 = .ok (.if_icmp .ne 86, 3) := by decide +kernel
theorem dX12_floorTogether_31 : decode cX12_floorTogether 31 = .ok (.iload_n 2, 1) := by decide +kernel
theorem dX12_floorTogether_32 : decode cX12_floorTogether 32 = .ok (.aload_n 0, 1) := by decide +kernel
theorem dX12_floorTogether_33 : decode cX12_floorTogether 33 = .ok (.iload 5, 2) := by decide +kernel
theorem dX12_floorTogether_35 : decode cX12_floorTogether 35 = .ok (.aload_n 0, 1) := by decide +kernel
theorem dX12_floorTogether_36 : decode cX12_floorTogether 36 = .ok (.iload 5, 2) := by decide +kernel
theorem dX12_floorTogether_38 : decode cX12_floorTogether 38 = .ok (.iconst 2, 1) := by decide +kernel
theorem dX12_floorTogether_39 : decode cX12_floorTogether 39 = .ok (.invokevirtual 83, 3) := by decide +kernel
theorem dX12_floorTogether_42 : decode cX12_floorTogether 42 = .ok (.invokevirtual 90, 3) := by decide +kernel
theorem dX12_floorTogether_45 : decode cX12_floorTogether 45 = .ok (.iadd, 1) := by decide +kernel
theorem dX12_floorTogether_46 : decode cX12_floorTogether 46 = .ok (.istore_n 2, 1) := by decide +kernel
theorem dX12_floorTogether_47 : decode cX12_floorTogether 47 = .ok (.iconst 0, 1) := by decide +kernel
theorem dX12_floorTogether_48 : decode cX12_floorTogether 48 = .ok (.istore 6, 2) := by decide +kernel
theorem dX12_floorTogether_50 : decode cX12_floorTogether 50 = .ok (.iload 6, 2) := by decide +kernel
theorem dX12_floorTogether_52 : decode cX12_floorTogether 52 = .ok (.bipush 8, 2) := by decide +kernel
theorem dX12_floorTogether_54 : decode cX12_floorTogether 54 = .ok (.if_icmp .ge 60, 3) := by decide +kernel
theorem dX12_floorTogether_57 : decode cX12_floorTogether 57 = .ok (.aload_n 0, 1) := by decide +kernel
theorem dX12_floorTogether_58 : decode cX12_floorTogether 58 = .ok (.aload_n 0, 1) := by decide +kernel
theorem dX12_floorTogether_59 : decode cX12_floorTogether 59 = .ok (.iload 5, 2) := by decide +kernel
theorem dX12_floorTogether_61 : decode cX12_floorTogether 61 = .ok (.iconst 2, 1) := by decide +kernel
theorem dX12_floorTogether_62 : decode cX12_floorTogether 62 = .ok (.invokevirtual 83, 3) := by decide +kernel
theorem dX12_floorTogether_65 : decode cX12_floorTogether 65 = .ok (.iload 6, 2) := by decide +kernel
theorem dX12_floorTogether_67 : decode cX12_floorTogether 67 = .ok (.invokevirtual 75, 3) := by decide +kernel
theorem dX12_floorTogether_70 : decode cX12_floorTogether 70 = .ok (.istore 7, 2) := by decide +kernel
theorem dX12_floorTogether_72 : decode cX12_floorTogether 72 = .ok (.iload_n 3, 1) := by decide +kernel
theorem dX12_floorTogether_73 : decode cX12_floorTogether 73 = .ok (.iload 7, 2) := by decide +kernel
theorem dX12_floorTogether_75 : decode cX12_floorTogether 75 = .ok (.iconst 1, 1) := by decide +kernel
theorem dX12_floorTogether_76 : decode cX12_floorTogether 76 = .ok (.if_icmp .ne 10, 3) := by decide +kernel
theorem dX12_floorTogether_79 : decode cX12_floorTogether 79 = .ok (.iconst 1, 1) := by decide +kernel
theorem dX12_floorTogether_80 : decode cX12_floorTogether 80 = .ok (.iload 6, 2) := by decide +kernel
theorem dX12_floorTogether_82 : decode cX12_floorTogether 82 = .ok (.ishl, 1) := by decide +kernel
theorem dX12_floorTogether_83 : decode cX12_floorTogether 83 = .ok (.goto 4, 3) := by decide +kernel
theorem dX12_floorTogether_86 : decode cX12_floorTogether 86 = .ok (.iconst 0, 1) := by decide +kernel
theorem dX12_floorTogether_87 : decode cX12_floorTogether 87 = .ok (.ior, 1) := by decide +kernel
theorem dX12_floorTogether_88 : decode cX12_floorTogether 88 = .ok (.istore_n 3, 1) := by decide +kernel
theorem dX12_floorTogether_89 : decode cX12_floorTogether 89 = .ok (.iload 4, 2) := by decide +kernel
theorem dX12_floorTogether_91 : decode cX12_floorTogether 91 = .ok (.iload 7, 2) := by decide +kernel
theorem dX12_floorTogether_93 : decode cX12_floorTogether 93 = .ok (.iconst 2, 1) := by decide +kernel
theorem dX12_floorTogether_94 : decode cX12_floorTogether 94 = .ok (.if_icmp .ne 10, 3) := by decide +kernel
theorem dX12_floorTogether_97 : decode cX12_floorTogether 97 = .ok (.iconst 1, 1) := by decide +kernel
theorem dX12_floorTogether_98 : decode cX12_floorTogether 98 = .ok (.iload 6, 2) := by decide +kernel
theorem dX12_floorTogether_100 : decode cX12_floorTogether 100 = .ok (.ishl, 1) := by decide +kernel
theorem dX12_floorTogether_101 : decode cX12_floorTogether 101 = .ok (.goto 4, 3) := by decide +kernel
theorem dX12_floorTogether_104 : decode cX12_floorTogether 104 = .ok (.iconst 0, 1) := by decide +kernel
theorem dX12_floorTogether_105 : decode cX12_floorTogether 105 = .ok (.ior, 1) := by decide +kernel
theorem dX12_floorTogether_106 : decode cX12_floorTogether 106 = .ok (.istore 4, 2) := by decide +kernel
theorem dX12_floorTogether_108 : decode cX12_floorTogether 108 = .ok (.iinc 6 1, 3) := by decide +kernel
theorem dX12_floorTogether_111 : decode cX12_floorTogether 111 = .ok (.goto (-61), 3) := by decide +kernel
theorem dX12_floorTogether_114 : decode cX12_floorTogether 114 = .ok (.iinc 5 1, 3) := by decide +kernel
theorem dX12_floorTogether_117 : decode cX12_floorTogether 117 = .ok (.goto (-107), 3) := by decide +kernel
theorem dX12_floorTogether_120 : decode cX12_floorTogether 120 = .ok (.aload_n 0, 1) := by decide +kernel
theorem dX12_floorTogether_121 : decode cX12_floorTogether 121 = .ok (.iconst 1, 1) := by decide +kernel
theorem dX12_floorTogether_122 : decode cX12_floorTogether 122 = .ok (.iload_n 2, 1) := by decide +kernel
theorem dX12_floorTogether_123 : decode cX12_floorTogether 123 = .ok (.iload_n 1, 1) := by decide +kernel
theorem dX12_floorTogether_124 : decode cX12_floorTogether 124 = .ok (.invokestatic 195, 3) := by decide +kernel
theorem dX12_floorTogether_127 : decode cX12_floorTogether 127 = .ok (.iload_n 3, 1) := by decide +kernel
theorem dX12_floorTogether_128 : decode cX12_floorTogether 128 = .ok (.iload 4, 2) := by decide +kernel
theorem dX12_floorTogether_130 : decode cX12_floorTogether 130 = .ok (.iand, 1) := by decide +kernel
theorem dX12_floorTogether_131 : decode cX12_floorTogether 131 = .ok (.invokestatic 195, 3) := by decide +kernel
theorem dX12_floorTogether_134 : decode cX12_floorTogether 134 = .ok (.invokevirtual 86, 3) := by decide +kernel
theorem dX12_floorTogether_137 : decode cX12_floorTogether 137 = .ok (.istore 5, 2) := by decide +kernel
theorem dX12_floorTogether_139 : decode cX12_floorTogether 139 = .ok (.iload_n 3, 1) := by decide +kernel
theorem dX12_floorTogether_140 : decode cX12_floorTogether 140 = .ok (.iload 4, 2) := by decide +kernel
theorem dX12_floorTogether_142 : decode cX12_floorTogether 142 = .ok (.ior, 1) := by decide +kernel
theorem dX12_floorTogether_143 : decode cX12_floorTogether 143 = .ok (.ifCond .ne 7, 3) := by decide +kernel
theorem dX12_floorTogether_146 : decode cX12_floorTogether 146 = .ok (.iconst (-1), 1) := by decide +kernel
theorem dX12_floorTogether_147 : decode cX12_floorTogether 147 = .ok (.goto 11, 3) := by decide +kernel
theorem dX12_floorTogether_150 : decode cX12_floorTogether 150 = .ok (.iload 5, 2) := by decide +kernel
theorem dX12_floorTogether_152 : decode cX12_floorTogether 152 = .ok (.iconst 0, 1) := by decide +kernel
theorem dX12_floorTogether_153 : decode cX12_floorTogether 153 = .ok (.bipush 9, 2) := by decide +kernel
theorem dX12_floorTogether_155 : decode cX12_floorTogether 155 = .ok (.invokestatic 93, 3) := by decide +kernel
theorem dX12_floorTogether_158 : decode cX12_floorTogether 158 = .ok (.ireturn, 1) := by decide +kernel
theorem dX12_together_0 : decode cX12_together 0 = .ok (.iload_n 1, 1) := by decide +kernel
theorem dX12_together_1 : decode cX12_together 1 = .ok (.iconst 1, 1) := by decide +kernel
theorem dX12_together_2 : decode cX12_together 2 = .ok (.iconst 1, 1) := by decide +kernel
theorem dX12_together_3 : decode cX12_together 3 = .ok (.aload_n 0, 1) := by decide +kernel
theorem dX12_together_4 : decode cX12_together 4 = .ok (.getfield 7, 3) := by decide +kernel
theorem dX12_together_7 : decode cX12_together 7 = .ok (.iconst 3, 1) := by decide +kernel
theorem dX12_together_8 : decode cX12_together 8 = .ok (.iaload, 1) := by decide +kernel
theorem dX12_together_9 : decode cX12_together 9 = .ok (.ishl, 1) := by decide +kernel
theorem dX12_together_10 : decode cX12_together 10 = .ok (.iconst 1, 1) := by decide +kernel
theorem dX12_together_11 : decode cX12_together 11 = .ok (.isub, 1) := by decide +kernel
theorem dX12_together_12 : decode cX12_together 12 = .ok (.invokestatic 47, 3) := by decide +kernel
theorem dX12_together_15 : decode cX12_together 15 = .ok (.ifCond .eq 11, 3) := by decide +kernel
theorem dX12_together_18 : decode cX12_together 18 = .ok (.aload_n 0, 1) := by decide +kernel
theorem dX12_together_19 : decode cX12_together 19 = .ok (.iload_n 1, 1) := by decide +kernel
theorem dX12_together_20 : decode cX12_together 20 = .ok (.invokevirtual 198, 3) := by decide +kernel
theorem dX12_together_23 : decode cX12_together 23 = .ok (.goto 9, 3) := by decide +kernel
theorem dX12_together_26 : decode cX12_together 26 = .ok (.aload_n 0, 1) := by decide +kernel
theorem dX12_together_27 : decode cX12_together 27 = .ok (.ldc 55, 2) := by decide +kernel
theorem dX12_together_29 : decode cX12_together 29 = .ok (.invokevirtual 56, 3) := by decide +kernel
theorem dX12_together_32 : decode cX12_together 32 = .ok (.ireturn, 1) := by decide +kernel
theorem dX12_bestWith_0 : decode cX12_bestWith 0 = .ok (.aload_n 0, 1) := by decide +kernel
theorem dX12_bestWith_1 : decode cX12_bestWith 1 = .ok (.iload_n 1, 1) := by decide +kernel
theorem dX12_bestWith_2 : decode cX12_bestWith 2 = .ok (.invokevirtual 100, 3) := by decide +kernel
theorem dX12_bestWith_5 : decode cX12_bestWith 5 = .ok (.ifCond .eq 12, 3) := by decide +kernel
theorem dX12_bestWith_8 : decode cX12_bestWith 8 = .ok (.iload_n 2, 1) := by decide +kernel
theorem dX12_bestWith_9 : decode cX12_bestWith 9 = .ok (.iconst 0, 1) := by decide +kernel
theorem dX12_bestWith_10 : decode cX12_bestWith 10 = .ok (.iconst 1, 1) := by decide +kernel
theorem dX12_bestWith_11 : decode cX12_bestWith 11 = .ok (.invokestatic 47, 3) := by decide +kernel
theorem dX12_bestWith_14 : decode cX12_bestWith 14 = .ok (.ifCond .ne 10, 3) := by decide +kernel
theorem dX12_bestWith_17 : decode cX12_bestWith 17 = .ok (.aload_n 0, 1) := by decide +kernel
theorem dX12_bestWith_18 : decode cX12_bestWith 18 = .ok (.ldc 55, 2) := by decide +kernel
theorem dX12_bestWith_20 : decode cX12_bestWith 20 = .ok (.invokevirtual 56, 3) := by decide +kernel
theorem dX12_bestWith_23 : decode cX12_bestWith 23 = .ok (.ireturn, 1) := by decide +kernel
theorem dX12_bestWith_24 : decode cX12_bestWith 24 = .ok (.iconst 0, 1) := by decide +kernel
theorem dX12_bestWith_25 : decode cX12_bestWith 25 = .ok (.istore_n 3, 1) := by decide +kernel
theorem dX12_bestWith_26 : decode cX12_bestWith 26 = .ok (.bipush (-2), 2) := by decide +kernel
theorem dX12_bestWith_28 : decode cX12_bestWith 28 = .ok (.istore 4, 2) := by decide +kernel
theorem dX12_bestWith_30 : decode cX12_bestWith 30 = .ok (.iconst 1, 1) := by decide +kernel
theorem dX12_bestWith_31 : decode cX12_bestWith 31 = .ok (.istore 5, 2) := by decide +kernel
theorem dX12_bestWith_33 : decode cX12_bestWith 33 = .ok (.iload 5, 2) := by decide +kernel
theorem dX12_bestWith_35 : decode cX12_bestWith 35 = .ok (.iconst 1, 1) := by decide +kernel
theorem dX12_bestWith_36 : decode cX12_bestWith 36 = .ok (.aload_n 0, 1) := by decide +kernel
theorem dX12_bestWith_37 : decode cX12_bestWith 37 = .ok (.getfield 7, 3) := by decide +kernel
theorem dX12_bestWith_40 : decode cX12_bestWith 40 = .ok (.iconst 3, 1) := by decide +kernel
theorem dX12_bestWith_41 : decode cX12_bestWith 41 = .ok (.iaload, 1) := by decide +kernel
theorem dX12_bestWith_42 : decode cX12_bestWith 42 = .ok (.ishl, 1) := by decide +kernel
theorem dX12_bestWith_43 : decode cX12_bestWith 43 = .ok (.if_icmp .ge 86, 3) := by decide +kernel
theorem dX12_bestWith_46 : decode cX12_bestWith 46 = .ok (.iload 5, 2) := by decide +kernel
theorem dX12_bestWith_48 : decode cX12_bestWith 48 = .ok (.iload_n 1, 1) := by decide +kernel
theorem dX12_bestWith_49 : decode cX12_bestWith 49 = .ok (.ishr, 1) := by decide +kernel
theorem dX12_bestWith_50 : decode cX12_bestWith 50 = .ok (.iconst 1, 1) := by decide +kernel
theorem dX12_bestWith_51 : decode cX12_bestWith 51 = .ok (.iand, 1) := by decide +kernel
theorem dX12_bestWith_52 : decode cX12_bestWith 52 = .ok (.iconst 1, 1) := by decide +kernel
theorem dX12_bestWith_53 : decode cX12_bestWith 53 = .ok (.if_icmp .ne 70, 3) := by decide +kernel
theorem dX12_bestWith_56 : decode cX12_bestWith 56 = .ok (.aload_n 0, 1) := by decide +kernel
theorem dX12_bestWith_57 : decode cX12_bestWith 57 = .ok (.iload 5, 2) := by decide +kernel
theorem dX12_bestWith_59 : decode cX12_bestWith 59 = .ok (.invokevirtual 198, 3) := by decide +kernel
theorem dX12_bestWith_62 : decode cX12_bestWith 62 = .ok (.istore 6, 2) := by decide +kernel
theorem dX12_bestWith_64 : decode cX12_bestWith 64 = .ok (.iload 6, 2) := by decide +kernel
theorem dX12_bestWith_66 : decode cX12_bestWith 66 = .ok (.iload 4, 2) := by decide +kernel
theorem dX12_bestWith_68 : decode cX12_bestWith 68 = .ok (.if_icmp .gt 22, 3) := by decide +kernel
theorem dX12_bestWith_71 : decode cX12_bestWith 71 = .ok (.iload 6, 2) := by decide +kernel
theorem dX12_bestWith_73 : decode cX12_bestWith 73 = .ok (.iload 4, 2) := by decide +kernel
theorem dX12_bestWith_75 : decode cX12_bestWith 75 = .ok (.if_icmp .ne 19, 3) := by decide +kernel
theorem dX12_bestWith_78 : decode cX12_bestWith 78 = .ok (.iload 5, 2) := by decide +kernel
theorem dX12_bestWith_80 : decode cX12_bestWith 80 = .ok (.invokestatic 195, 3) := by decide +kernel
theorem dX12_bestWith_83 : decode cX12_bestWith 83 = .ok (.iload_n 3, 1) := by decide +kernel
theorem dX12_bestWith_84 : decode cX12_bestWith 84 = .ok (.invokestatic 195, 3) := by decide +kernel
theorem dX12_bestWith_87 : decode cX12_bestWith 87 = .ok (.if_icmp .ge 7, 3) := by decide +kernel
theorem dX12_bestWith_90 : decode cX12_bestWith 90 = .ok (.iconst 1, 1) := by decide +kernel
theorem dX12_bestWith_91 : decode cX12_bestWith 91 = .ok (.goto 4, 3) := by decide +kernel
theorem dX12_bestWith_94 : decode cX12_bestWith 94 = .ok (.iconst 0, 1) := by decide +kernel
theorem dX12_bestWith_95 : decode cX12_bestWith 95 = .ok (.istore 7, 2) := by decide +kernel
theorem dX12_bestWith_97 : decode cX12_bestWith 97 = .ok (.iload 7, 2) := by decide +kernel
theorem dX12_bestWith_99 : decode cX12_bestWith 99 = .ok (.ifCond .eq 8, 3) := by decide +kernel
theorem dX12_bestWith_102 : decode cX12_bestWith 102 = .ok (.iload 5, 2) := by decide +kernel
theorem dX12_bestWith_104 : decode cX12_bestWith 104 = .ok (.goto 4, 3) := by decide +kernel
theorem dX12_bestWith_107 : decode cX12_bestWith 107 = .ok (.iload_n 3, 1) := by decide +kernel
theorem dX12_bestWith_108 : decode cX12_bestWith 108 = .ok (.istore_n 3, 1) := by decide +kernel
theorem dX12_bestWith_109 : decode cX12_bestWith 109 = .ok (.iload 7, 2) := by decide +kernel
theorem dX12_bestWith_111 : decode cX12_bestWith 111 = .ok (.ifCond .eq 8, 3) := by decide +kernel
theorem dX12_bestWith_114 : decode cX12_bestWith 114 = .ok (.iload 6, 2) := by decide +kernel
theorem dX12_bestWith_116 : decode cX12_bestWith 116 = .ok (.goto 5, 3) := by decide +kernel
theorem dX12_bestWith_119 : decode cX12_bestWith 119 = .ok (.iload 4, 2) := by decide +kernel
theorem dX12_bestWith_121 : decode cX12_bestWith 121 = .ok (.istore 4, 2) := by decide +kernel
theorem dX12_bestWith_123 : decode cX12_bestWith 123 = .ok (.iinc 5 1, 3) := by decide +kernel
theorem dX12_bestWith_126 : decode cX12_bestWith 126 = .ok (.goto (-93), 3) := by decide +kernel
theorem dX12_bestWith_129 : decode cX12_bestWith 129 = .ok (.iload_n 2, 1) := by decide +kernel
theorem dX12_bestWith_130 : decode cX12_bestWith 130 = .ok (.ifCond .ne 7, 3) := by decide +kernel
theorem dX12_bestWith_133 : decode cX12_bestWith 133 = .ok (.iload_n 3, 1) := by decide +kernel
theorem dX12_bestWith_134 : decode cX12_bestWith 134 = .ok (.goto 5, 3) := by decide +kernel
theorem dX12_bestWith_137 : decode cX12_bestWith 137 = .ok (.iload 4, 2) := by decide +kernel
theorem dX12_bestWith_139 : decode cX12_bestWith 139 = .ok (.ireturn, 1) := by decide +kernel
theorem dX12_longOf_0 : decode cX12_longOf 0 = .ok (.iconst 0, 1) := by decide +kernel
theorem dX12_longOf_1 : decode cX12_longOf 1 = .ok (.istore_n 2, 1) := by decide +kernel
theorem dX12_longOf_2 : decode cX12_longOf 2 = .ok (.iconst 0, 1) := by decide +kernel
theorem dX12_longOf_3 : decode cX12_longOf 3 = .ok (.istore_n 3, 1) := by decide +kernel
theorem dX12_longOf_4 : decode cX12_longOf 4 = .ok (.iload_n 3, 1) := by decide +kernel
theorem dX12_longOf_5 : decode cX12_longOf 5 = .ok (.bipush 8, 2) := by decide +kernel
theorem dX12_longOf_7 : decode cX12_longOf 7 = .ok (.if_icmp .ge 26, 3) := by decide +kernel
theorem dX12_longOf_10 : decode cX12_longOf 10 = .ok (.iload_n 2, 1) := by decide +kernel
theorem dX12_longOf_11 : decode cX12_longOf 11 = .ok (.aload_n 0, 1) := by decide +kernel
theorem dX12_longOf_12 : decode cX12_longOf 12 = .ok (.iload_n 1, 1) := by decide +kernel
theorem dX12_longOf_13 : decode cX12_longOf 13 = .ok (.iload_n 3, 1) := by decide +kernel
theorem dX12_longOf_14 : decode cX12_longOf 14 = .ok (.invokevirtual 75, 3) := by decide +kernel
theorem dX12_longOf_17 : decode cX12_longOf 17 = .ok (.ifCond .le 7, 3) := by decide +kernel
theorem dX12_longOf_20 : decode cX12_longOf 20 = .ok (.iconst 1, 1) := by decide +kernel
theorem dX12_longOf_21 : decode cX12_longOf 21 = .ok (.goto 4, 3) := by decide +kernel
theorem dX12_longOf_24 : decode cX12_longOf 24 = .ok (.iconst 0, 1) := by decide +kernel
theorem dX12_longOf_25 : decode cX12_longOf 25 = .ok (.iadd, 1) := by decide +kernel
theorem dX12_longOf_26 : decode cX12_longOf 26 = .ok (.istore_n 2, 1) := by decide +kernel
theorem dX12_longOf_27 : decode cX12_longOf 27 = .ok (.iinc 3 1, 3) := by decide +kernel
theorem dX12_longOf_30 : decode cX12_longOf 30 = .ok (.goto (-26), 3) := by decide +kernel
theorem dX12_longOf_33 : decode cX12_longOf 33 = .ok (.iload_n 2, 1) := by decide +kernel
theorem dX12_longOf_34 : decode cX12_longOf 34 = .ok (.ireturn, 1) := by decide +kernel
theorem dX12_shortestTo_0 : decode cX12_shortestTo 0 = .ok (.aload_n 0, 1) := by decide +kernel
theorem dX12_shortestTo_1 : decode cX12_shortestTo 1 = .ok (.invokevirtual 106, 3) := by decide +kernel
theorem dX12_shortestTo_4 : decode cX12_shortestTo 4 = .ok (.istore 4, 2) := by decide +kernel
theorem dX12_shortestTo_6 : decode cX12_shortestTo 6 = .ok (.iconst (-1), 1) := by decide +kernel
theorem dX12_shortestTo_7 : decode cX12_shortestTo 7 = .ok (.istore 5, 2) := by decide +kernel
theorem dX12_shortestTo_9 : decode cX12_shortestTo 9 = .ok (.bipush 9, 2) := by decide +kernel
theorem dX12_shortestTo_11 : decode cX12_shortestTo 11 = .ok (.istore 6, 2) := by decide +kernel
theorem dX12_shortestTo_13 : decode cX12_shortestTo 13 = .ok (.iconst 1, 1) := by decide +kernel
theorem dX12_shortestTo_14 : decode cX12_shortestTo 14 = .ok (.istore 7, 2) := by decide +kernel
theorem dX12_shortestTo_16 : decode cX12_shortestTo 16 = .ok (.iload 7, 2) := by decide +kernel
theorem dX12_shortestTo_18 : decode cX12_shortestTo 18 = .ok (.sipush 6561, 3) := by decide +kernel
theorem dX12_shortestTo_21 : decode cX12_shortestTo 21 = .ok (.if_icmp .ge 70, 3) := by decide +kernel
theorem dX12_shortestTo_24 : decode cX12_shortestTo 24 = .ok (.iload_n 3, 1) := by decide +kernel
theorem dX12_shortestTo_25 : decode cX12_shortestTo 25 = .ok (.ifCond .eq 14, 3) := by decide +kernel
theorem dX12_shortestTo_28 : decode cX12_shortestTo 28 = .ok (.aload_n 0, 1) := by decide +kernel
theorem dX12_shortestTo_29 : decode cX12_shortestTo 29 = .ok (.iload 7, 2) := by decide +kernel
theorem dX12_shortestTo_31 : decode cX12_shortestTo 31 = .ok (.iload 4, 2) := by decide +kernel
theorem dX12_shortestTo_33 : decode cX12_shortestTo 33 = .ok (.invokevirtual 109, 3) := by decide +kernel
theorem dX12_shortestTo_36 : decode cX12_shortestTo 36 = .ok (.ifCond .eq 18, 3) := by decide +kernel
theorem dX12_shortestTo_39 : decode cX12_shortestTo 39 = .ok (.aload_n 0, 1) := by decide +kernel
theorem dX12_shortestTo_40 : decode cX12_shortestTo 40 = .ok (.iload 7, 2) := by decide +kernel
theorem dX12_shortestTo_42 : decode cX12_shortestTo 42 = .ok (.invokevirtual 201, 3) := by decide +kernel
theorem dX12_shortestTo_45 : decode cX12_shortestTo 45 = .ok (.iload 6, 2) := by decide +kernel
theorem dX12_shortestTo_47 : decode cX12_shortestTo 47 = .ok (.if_icmp .ge 7, 3) := by decide +kernel
theorem dX12_shortestTo_50 : decode cX12_shortestTo 50 = .ok (.iconst 1, 1) := by decide +kernel
theorem dX12_shortestTo_51 : decode cX12_shortestTo 51 = .ok (.goto 4, 3) := by decide +kernel
theorem dX12_shortestTo_54 : decode cX12_shortestTo 54 = .ok (.iconst 0, 1) := by decide +kernel
theorem dX12_shortestTo_55 : decode cX12_shortestTo 55 = .ok (.istore 8, 2) := by decide +kernel
theorem dX12_shortestTo_57 : decode cX12_shortestTo 57 = .ok (.iload 8, 2) := by decide +kernel
theorem dX12_shortestTo_59 : decode cX12_shortestTo 59 = .ok (.ifCond .eq 26, 3) := by decide +kernel
theorem dX12_shortestTo_62 : decode cX12_shortestTo 62 = .ok (.aload_n 0, 1) := by decide +kernel
theorem dX12_shortestTo_63 : decode cX12_shortestTo 63 = .ok (.iload_n 1, 1) := by decide +kernel
theorem dX12_shortestTo_64 : decode cX12_shortestTo 64 = .ok (.iload 7, 2) := by decide +kernel
theorem dX12_shortestTo_66 : decode cX12_shortestTo 66 = .ok (.invokevirtual 97, 3) := by decide +kernel
theorem dX12_shortestTo_69 : decode cX12_shortestTo 69 = .ok (.iload_n 2, 1) := by decide +kernel
theorem dX12_shortestTo_70 : decode cX12_shortestTo 70 = .ok (.if_icmp .lt 15, 3) := by decide +kernel
theorem dX12_shortestTo_73 : decode cX12_shortestTo 73 = .ok (.iload 7, 2) := by decide +kernel
theorem dX12_shortestTo_75 : decode cX12_shortestTo 75 = .ok (.istore 5, 2) := by decide +kernel
theorem dX12_shortestTo_77 : decode cX12_shortestTo 77 = .ok (.aload_n 0, 1) := by decide +kernel
theorem dX12_shortestTo_78 : decode cX12_shortestTo 78 = .ok (.iload 7, 2) := by decide +kernel
theorem dX12_shortestTo_80 : decode cX12_shortestTo 80 = .ok (.invokevirtual 201, 3) := by decide +kernel
theorem dX12_shortestTo_83 : decode cX12_shortestTo 83 = .ok (.istore 6, 2) := by decide +kernel
theorem dX12_shortestTo_85 : decode cX12_shortestTo 85 = .ok (.iinc 7 1, 3) := by decide +kernel
theorem dX12_shortestTo_88 : decode cX12_shortestTo 88 = .ok (.goto (-72), 3) := by decide +kernel
theorem dX12_shortestTo_91 : decode cX12_shortestTo 91 = .ok (.iload 5, 2) := by decide +kernel
theorem dX12_shortestTo_93 : decode cX12_shortestTo 93 = .ok (.ireturn, 1) := by decide +kernel
theorem dX12_isFloor_0 : decode cX12_isFloor 0 = .ok (.iload_n 0, 1) := by decide +kernel
theorem dX12_isFloor_1 : decode cX12_isFloor 1 = .ok (.iconst 0, 1) := by decide +kernel
theorem dX12_isFloor_2 : decode cX12_isFloor 2 = .ok (.bipush 9, 2) := by decide +kernel
theorem dX12_isFloor_4 : decode cX12_isFloor 4 = .ok (.invokestatic 47, 3) := by decide +kernel
theorem dX12_isFloor_7 : decode cX12_isFloor 7 = .ok (.ireturn, 1) := by decide +kernel
theorem dX12_shortest_0 : decode cX12_shortest 0 = .ok (.aload_n 0, 1) := by decide +kernel
theorem dX12_shortest_1 : decode cX12_shortest 1 = .ok (.iload_n 1, 1) := by decide +kernel
theorem dX12_shortest_2 : decode cX12_shortest 2 = .ok (.invokevirtual 100, 3) := by decide +kernel
theorem dX12_shortest_5 : decode cX12_shortest 5 = .ok (.ifCond .eq 10, 3) := by decide +kernel
theorem dX12_shortest_8 : decode cX12_shortest 8 = .ok (.iload_n 2, 1) := by decide +kernel
theorem dX12_shortest_9 : decode cX12_shortest 9 = .ok (.invokestatic 204, 3) := by decide +kernel
theorem dX12_shortest_12 : decode cX12_shortest 12 = .ok (.ifCond .ne 10, 3) := by decide +kernel
theorem dX12_shortest_15 : decode cX12_shortest 15 = .ok (.aload_n 0, 1) := by decide +kernel
theorem dX12_shortest_16 : decode cX12_shortest 16 = .ok (.ldc 55, 2) := by decide +kernel
theorem dX12_shortest_18 : decode cX12_shortest 18 = .ok (.invokevirtual 56, 3) := by decide +kernel
theorem dX12_shortest_21 : decode cX12_shortest 21 = .ok (.ireturn, 1) := by decide +kernel
theorem dX12_shortest_22 : decode cX12_shortest 22 = .ok (.aload_n 0, 1) := by decide +kernel
theorem dX12_shortest_23 : decode cX12_shortest 23 = .ok (.iload_n 1, 1) := by decide +kernel
theorem dX12_shortest_24 : decode cX12_shortest 24 = .ok (.iload_n 2, 1) := by decide +kernel
theorem dX12_shortest_25 : decode cX12_shortest 25 = .ok (.iconst 0, 1) := by decide +kernel
theorem dX12_shortest_26 : decode cX12_shortest 26 = .ok (.invokevirtual 207, 3) := by decide +kernel
theorem dX12_shortest_29 : decode cX12_shortest 29 = .ok (.istore_n 3, 1) := by decide +kernel
theorem dX12_shortest_30 : decode cX12_shortest 30 = .ok (.iload_n 3, 1) := by decide +kernel
theorem dX12_shortest_31 : decode cX12_shortest 31 = .ok (.ifCond .ge 12, 3) := by decide +kernel
theorem dX12_shortest_34 : decode cX12_shortest 34 = .ok (.aload_n 0, 1) := by decide +kernel
theorem dX12_shortest_35 : decode cX12_shortest 35 = .ok (.ldc 211, 2) := by decide +kernel
theorem dX12_shortest_37 : decode cX12_shortest 37 = .ok (.invokevirtual 56, 3) := by decide +kernel
theorem dX12_shortest_40 : decode cX12_shortest 40 = .ok (.goto 4, 3) := by decide +kernel
theorem dX12_shortest_43 : decode cX12_shortest 43 = .ok (.iload_n 3, 1) := by decide +kernel
theorem dX12_shortest_44 : decode cX12_shortest 44 = .ok (.ireturn, 1) := by decide +kernel
theorem dX12_truest_0 : decode cX12_truest 0 = .ok (.aload_n 0, 1) := by decide +kernel
theorem dX12_truest_1 : decode cX12_truest 1 = .ok (.iload_n 1, 1) := by decide +kernel
theorem dX12_truest_2 : decode cX12_truest 2 = .ok (.invokevirtual 100, 3) := by decide +kernel
theorem dX12_truest_5 : decode cX12_truest 5 = .ok (.ifCond .eq 10, 3) := by decide +kernel
theorem dX12_truest_8 : decode cX12_truest 8 = .ok (.iload_n 2, 1) := by decide +kernel
theorem dX12_truest_9 : decode cX12_truest 9 = .ok (.invokestatic 204, 3) := by decide +kernel
theorem dX12_truest_12 : decode cX12_truest 12 = .ok (.ifCond .ne 10, 3) := by decide +kernel
theorem dX12_truest_15 : decode cX12_truest 15 = .ok (.aload_n 0, 1) := by decide +kernel
theorem dX12_truest_16 : decode cX12_truest 16 = .ok (.ldc 55, 2) := by decide +kernel
theorem dX12_truest_18 : decode cX12_truest 18 = .ok (.invokevirtual 56, 3) := by decide +kernel
theorem dX12_truest_21 : decode cX12_truest 21 = .ok (.ireturn, 1) := by decide +kernel
theorem dX12_truest_22 : decode cX12_truest 22 = .ok (.aload_n 0, 1) := by decide +kernel
theorem dX12_truest_23 : decode cX12_truest 23 = .ok (.iload_n 1, 1) := by decide +kernel
theorem dX12_truest_24 : decode cX12_truest 24 = .ok (.iload_n 2, 1) := by decide +kernel
theorem dX12_truest_25 : decode cX12_truest 25 = .ok (.iconst 1, 1) := by decide +kernel
theorem dX12_truest_26 : decode cX12_truest 26 = .ok (.invokevirtual 207, 3) := by decide +kernel
theorem dX12_truest_29 : decode cX12_truest 29 = .ok (.istore_n 3, 1) := by decide +kernel
theorem dX12_truest_30 : decode cX12_truest 30 = .ok (.iload_n 3, 1) := by decide +kernel
theorem dX12_truest_31 : decode cX12_truest 31 = .ok (.ifCond .ge 12, 3) := by decide +kernel
theorem dX12_truest_34 : decode cX12_truest 34 = .ok (.aload_n 0, 1) := by decide +kernel
theorem dX12_truest_35 : decode cX12_truest 35 = .ok (.ldc 211, 2) := by decide +kernel
theorem dX12_truest_37 : decode cX12_truest 37 = .ok (.invokevirtual 56, 3) := by decide +kernel
theorem dX12_truest_40 : decode cX12_truest 40 = .ok (.goto 4, 3) := by decide +kernel
theorem dX12_truest_43 : decode cX12_truest 43 = .ok (.iload_n 3, 1) := by decide +kernel
theorem dX12_truest_44 : decode cX12_truest 44 = .ok (.ireturn, 1) := by decide +kernel
theorem dX12_out_0 : decode cX12_out 0 = .ok (.aload_n 0, 1) := by decide +kernel
theorem dX12_out_1 : decode cX12_out 1 = .ok (.iload_n 1, 1) := by decide +kernel
theorem dX12_out_2 : decode cX12_out 2 = .ok (.invokevirtual 100, 3) := by decide +kernel
theorem dX12_out_5 : decode cX12_out 5 = .ok (.ifCond .eq 10, 3) := by decide +kernel
theorem dX12_out_8 : decode cX12_out 8 = .ok (.iload_n 2, 1) := by decide +kernel
theorem dX12_out_9 : decode cX12_out 9 = .ok (.invokestatic 204, 3) := by decide +kernel
theorem dX12_out_12 : decode cX12_out 12 = .ok (.ifCond .ne 10, 3) := by decide +kernel
theorem dX12_out_15 : decode cX12_out 15 = .ok (.aload_n 0, 1) := by decide +kernel
theorem dX12_out_16 : decode cX12_out 16 = .ok (.ldc 55, 2) := by decide +kernel
theorem dX12_out_18 : decode cX12_out 18 = .ok (.invokevirtual 56, 3) := by decide +kernel
theorem dX12_out_21 : decode cX12_out 21 = .ok (.ireturn, 1) := by decide +kernel
theorem dX12_out_22 : decode cX12_out 22 = .ok (.aload_n 0, 1) := by decide +kernel
theorem dX12_out_23 : decode cX12_out 23 = .ok (.iload_n 1, 1) := by decide +kernel
theorem dX12_out_24 : decode cX12_out 24 = .ok (.iconst 2, 1) := by decide +kernel
theorem dX12_out_25 : decode cX12_out 25 = .ok (.invokevirtual 83, 3) := by decide +kernel
theorem dX12_out_28 : decode cX12_out 28 = .ok (.istore_n 3, 1) := by decide +kernel
theorem dX12_out_29 : decode cX12_out 29 = .ok (.iconst (-1), 1) := by decide +kernel
theorem dX12_out_30 : decode cX12_out 30 = .ok (.istore 4, 2) := by decide +kernel
theorem dX12_out_32 : decode cX12_out 32 = .ok (.iconst 0, 1) := by decide +kernel
theorem dX12_out_33 : decode cX12_out 33 = .ok (.istore 5, 2) := by decide +kernel
theorem dX12_out_35 : decode cX12_out 35 = .ok (.iload 5, 2) := by decide +kernel
theorem dX12_out_37 : decode cX12_out 37 = .ok (.sipush 256, 3) := by decide +kernel
theorem dX12_out_40 : decode cX12_out 40 = .ok (.if_icmp .ge 126, 3) := by decide +kernel
theorem dX12_out_43 : decode cX12_out 43 = .ok (.iload_n 3, 1) := by decide +kernel
theorem dX12_out_44 : decode cX12_out 44 = .ok (.istore 6, 2) := by decide +kernel
theorem dX12_out_46 : decode cX12_out 46 = .ok (.iload 4, 2) := by decide +kernel
theorem dX12_out_48 : decode cX12_out 48 = .ok (.ifCond .lt 16, 3) := by decide +kernel
theorem dX12_out_51 : decode cX12_out 51 = .ok (.iload 5, 2) := by decide +kernel
theorem dX12_out_53 : decode cX12_out 53 = .ok (.invokestatic 195, 3) := by decide +kernel
theorem dX12_out_56 : decode cX12_out 56 = .ok (.iload 4, 2) := by decide +kernel
theorem dX12_out_58 : decode cX12_out 58 = .ok (.invokestatic 195, 3) := by decide +kernel
theorem dX12_out_61 : decode cX12_out 61 = .ok (.if_icmp .ge 7, 3) := by decide +kernel
theorem dX12_out_64 : decode cX12_out 64 = .ok (.iconst 1, 1) := by decide +kernel
theorem dX12_out_65 : decode cX12_out 65 = .ok (.goto 4, 3) := by decide +kernel
theorem dX12_out_68 : decode cX12_out 68 = .ok (.iconst 0, 1) := by decide +kernel
theorem dX12_out_69 : decode cX12_out 69 = .ok (.istore 7, 2) := by decide +kernel
theorem dX12_out_71 : decode cX12_out 71 = .ok (.iconst 0, 1) := by decide +kernel
theorem dX12_out_72 : decode cX12_out 72 = .ok (.istore 8, 2) := by decide +kernel
theorem dX12_out_74 : decode cX12_out 74 = .ok (.iload 8, 2) := by decide +kernel
theorem dX12_out_76 : decode cX12_out 76 = .ok (.bipush 8, 2) := by decide +kernel
theorem dX12_out_78 : decode cX12_out 78 = .ok (.if_icmp .ge 62, 3) := by decide +kernel
theorem dX12_out_81 : decode cX12_out 81 = .ok (.iload 7, 2) := by decide +kernel
theorem dX12_out_83 : decode cX12_out 83 = .ok (.ifCond .eq 57, 3) := by decide +kernel
theorem dX12_out_86 : decode cX12_out 86 = .ok (.iload 5, 2) := by decide +kernel
theorem dX12_out_88 : decode cX12_out 88 = .ok (.iload 8, 2) := by decide +kernel
theorem dX12_out_90 : decode cX12_out 90 = .ok (.ishr, 1) := by decide +kernel
theorem dX12_out_91 : decode cX12_out 91 = .ok (.iconst 1, 1) := by decide +kernel
theorem dX12_out_92 : decode cX12_out 92 = .ok (.iand, 1) := by decide +kernel
theorem dX12_out_93 : decode cX12_out 93 = .ok (.iconst 1, 1) := by decide +kernel
theorem dX12_out_94 : decode cX12_out 94 = .ok (.if_icmp .ne 40, 3) := by decide +kernel
theorem dX12_out_97 : decode cX12_out 97 = .ok (.aload_n 0, 1) := by decide +kernel
theorem dX12_out_98 : decode cX12_out 98 = .ok (.iload_n 3, 1) := by decide +kernel
theorem dX12_out_99 : decode cX12_out 99 = .ok (.iload 8, 2) := by decide +kernel
theorem dX12_out_101 : decode cX12_out 101 = .ok (.invokevirtual 75, 3) := by decide +kernel
theorem dX12_out_104 : decode cX12_out 104 = .ok (.ifCond .le 7, 3) := by decide +kernel
theorem dX12_out_107 : decode cX12_out 107 = .ok (.iconst 1, 1) := by decide +kernel
theorem dX12_out_108 : decode cX12_out 108 = .ok (.goto 4, 3) := by decide +kernel
theorem dX12_out_111 : decode cX12_out 111 = .ok (.iconst 0, 1) := by decide +kernel
theorem dX12_out_112 : decode cX12_out 112 = .ok (.istore 7, 2) := by decide +kernel
theorem dX12_out_114 : decode cX12_out 114 = .ok (.iload 6, 2) := by decide +kernel
theorem dX12_out_116 : decode cX12_out 116 = .ok (.aload_n 0, 1) := by decide +kernel
theorem dX12_out_117 : decode cX12_out 117 = .ok (.getfield 22, 3) := by decide +kernel
theorem dX12_out_120 : decode cX12_out 120 = .ok (.iload 8, 2) := by decide +kernel
theorem dX12_out_122 : decode cX12_out 122 = .ok (.iaload, 1) := by decide +kernel
theorem dX12_out_123 : decode cX12_out 123 = .ok (.aload_n 0, 1) := by decide +kernel
theorem dX12_out_124 : decode cX12_out 124 = .ok (.iload_n 3, 1) := by decide +kernel
theorem dX12_out_125 : decode cX12_out 125 = .ok (.iload 8, 2) := by decide +kernel
theorem dX12_out_127 : decode cX12_out 127 = .ok (.invokevirtual 75, 3) := by decide +kernel
theorem dX12_out_130 : decode cX12_out 130 = .ok (.imul, 1) := by decide +kernel
theorem dX12_out_131 : decode cX12_out 131 = .ok (.isub, 1) := by decide +kernel
theorem dX12_out_132 : decode cX12_out 132 = .ok (.istore 6, 2) := by decide +kernel
theorem dX12_out_134 : decode cX12_out 134 = .ok (.iinc 8 1, 3) := by decide +kernel
theorem dX12_out_137 : decode cX12_out 137 = .ok (.goto (-63), 3) := by decide +kernel
theorem dX12_out_140 : decode cX12_out 140 = .ok (.iload 7, 2) := by decide +kernel
theorem dX12_out_142 : decode cX12_out 142 = .ok (.ifCond .eq 18, 3) := by decide +kernel
theorem dX12_out_145 : decode cX12_out 145 = .ok (.aload_n 0, 1) := by decide +kernel
theorem dX12_out_146 : decode cX12_out 146 = .ok (.iload_n 1, 1) := by decide +kernel
theorem dX12_out_147 : decode cX12_out 147 = .ok (.iload 6, 2) := by decide +kernel
theorem dX12_out_149 : decode cX12_out 149 = .ok (.invokevirtual 97, 3) := by decide +kernel
theorem dX12_out_152 : decode cX12_out 152 = .ok (.iload_n 2, 1) := by decide +kernel
theorem dX12_out_153 : decode cX12_out 153 = .ok (.if_icmp .lt 7, 3) := by decide +kernel
theorem dX12_out_156 : decode cX12_out 156 = .ok (.iload 5, 2) := by decide +kernel
theorem dX12_out_158 : decode cX12_out 158 = .ok (.istore 4, 2) := by decide +kernel
theorem dX12_out_160 : decode cX12_out 160 = .ok (.iinc 5 1, 3) := by decide +kernel
theorem dX12_out_163 : decode cX12_out 163 = .ok (.goto (-128), 3) := by decide +kernel
theorem dX12_out_166 : decode cX12_out 166 = .ok (.iload 4, 2) := by decide +kernel
theorem dX12_out_168 : decode cX12_out 168 = .ok (.ifCond .ge 12, 3) := by decide +kernel
theorem dX12_out_171 : decode cX12_out 171 = .ok (.aload_n 0, 1) := by decide +kernel
theorem dX12_out_172 : decode cX12_out 172 = .ok (.ldc 211, 2) := by decide +kernel
theorem dX12_out_174 : decode cX12_out 174 = .ok (.invokevirtual 56, 3) := by decide +kernel
theorem dX12_out_177 : decode cX12_out 177 = .ok (.goto 5, 3) := by decide +kernel
theorem dX12_out_180 : decode cX12_out 180 = .ok (.iload 4, 2) := by decide +kernel
theorem dX12_out_182 : decode cX12_out 182 = .ok (.ireturn, 1) := by decide +kernel
theorem dX12_when_0 : decode cX12_when 0 = .ok (.aload_n 0, 1) := by decide +kernel
theorem dX12_when_1 : decode cX12_when 1 = .ok (.iload_n 1, 1) := by decide +kernel
theorem dX12_when_2 : decode cX12_when 2 = .ok (.invokevirtual 100, 3) := by decide +kernel
theorem dX12_when_5 : decode cX12_when 5 = .ok (.ifCond .eq 10, 3) := by decide +kernel
theorem dX12_when_8 : decode cX12_when 8 = .ok (.iload_n 2, 1) := by decide +kernel
theorem dX12_when_9 : decode cX12_when 9 = .ok (.invokestatic 204, 3) := by decide +kernel
theorem dX12_when_12 : decode cX12_when 12 = .ok (.ifCond .ne 10, 3) := by decide +kernel
theorem dX12_when_15 : decode cX12_when 15 = .ok (.aload_n 0, 1) := by decide +kernel
theorem dX12_when_16 : decode cX12_when 16 = .ok (.ldc 55, 2) := by decide +kernel
theorem dX12_when_18 : decode cX12_when 18 = .ok (.invokevirtual 56, 3) := by decide +kernel
theorem dX12_when_21 : decode cX12_when 21 = .ok (.ireturn, 1) := by decide +kernel
theorem dX12_when_22 : decode cX12_when 22 = .ok (.aload_n 0, 1) := by decide +kernel
theorem dX12_when_23 : decode cX12_when 23 = .ok (.aload_n 0, 1) := by decide +kernel
theorem dX12_when_24 : decode cX12_when 24 = .ok (.getfield 7, 3) := by decide +kernel
theorem dX12_when_27 : decode cX12_when 27 = .ok (.aload_n 0, 1) := by decide +kernel
theorem dX12_when_28 : decode cX12_when 28 = .ok (.getfield 16, 3) := by decide +kernel
theorem dX12_when_31 : decode cX12_when 31 = .ok (.invokevirtual 180, 3) := by decide +kernel
theorem dX12_when_34 : decode cX12_when 34 = .ok (.iconst 0, 1) := by decide +kernel
theorem dX12_when_35 : decode cX12_when 35 = .ok (.istore_n 3, 1) := by decide +kernel
theorem dX12_when_36 : decode cX12_when 36 = .ok (.iload_n 3, 1) := by decide +kernel
theorem dX12_when_37 : decode cX12_when 37 = .ok (.bipush 60, 2) := by decide +kernel
theorem dX12_when_39 : decode cX12_when 39 = .ok (.if_icmp .gt 22, 3) := by decide +kernel
theorem dX12_when_42 : decode cX12_when 42 = .ok (.aload_n 0, 1) := by decide +kernel
theorem dX12_when_43 : decode cX12_when 43 = .ok (.iload_n 1, 1) := by decide +kernel
theorem dX12_when_44 : decode cX12_when 44 = .ok (.invokevirtual 103, 3) := by decide +kernel
theorem dX12_when_47 : decode cX12_when 47 = .ok (.iload_n 2, 1) := by decide +kernel
theorem dX12_when_48 : decode cX12_when 48 = .ok (.if_icmp .ge 13, 3) := by decide +kernel
theorem dX12_when_51 : decode cX12_when 51 = .ok (.aload_n 0, 1) := by decide +kernel
theorem dX12_when_52 : decode cX12_when 52 = .ok (.invokevirtual 188, 3) := by decide +kernel
theorem dX12_when_55 : decode cX12_when 55 = .ok (.iinc 3 1, 3) := by decide +kernel
theorem dX12_when_58 : decode cX12_when 58 = .ok (.goto (-22), 3) := by decide +kernel
theorem dX12_when_61 : decode cX12_when 61 = .ok (.aload_n 0, 1) := by decide +kernel
theorem dX12_when_62 : decode cX12_when 62 = .ok (.aload_n 0, 1) := by decide +kernel
theorem dX12_when_63 : decode cX12_when 63 = .ok (.getfield 16, 3) := by decide +kernel
theorem dX12_when_66 : decode cX12_when 66 = .ok (.aload_n 0, 1) := by decide +kernel
theorem dX12_when_67 : decode cX12_when 67 = .ok (.getfield 7, 3) := by decide +kernel
theorem dX12_when_70 : decode cX12_when 70 = .ok (.invokevirtual 180, 3) := by decide +kernel
theorem dX12_when_73 : decode cX12_when 73 = .ok (.iload_n 3, 1) := by decide +kernel
theorem dX12_when_74 : decode cX12_when 74 = .ok (.bipush 60, 2) := by decide +kernel
theorem dX12_when_76 : decode cX12_when 76 = .ok (.if_icmp .le 12, 3) := by decide +kernel
theorem dX12_when_79 : decode cX12_when 79 = .ok (.aload_n 0, 1) := by decide +kernel
theorem dX12_when_80 : decode cX12_when 80 = .ok (.ldc 211, 2) := by decide +kernel
theorem dX12_when_82 : decode cX12_when 82 = .ok (.invokevirtual 56, 3) := by decide +kernel
theorem dX12_when_85 : decode cX12_when 85 = .ok (.goto 4, 3) := by decide +kernel
theorem dX12_when_88 : decode cX12_when 88 = .ok (.iload_n 3, 1) := by decide +kernel
theorem dX12_when_89 : decode cX12_when 89 = .ok (.ireturn, 1) := by decide +kernel
theorem dX12_still_0 : decode cX12_still 0 = .ok (.aload_n 0, 1) := by decide +kernel
theorem dX12_still_1 : decode cX12_still 1 = .ok (.aload_n 0, 1) := by decide +kernel
theorem dX12_still_2 : decode cX12_still 2 = .ok (.getfield 7, 3) := by decide +kernel
theorem dX12_still_5 : decode cX12_still 5 = .ok (.aload_n 0, 1) := by decide +kernel
theorem dX12_still_6 : decode cX12_still 6 = .ok (.getfield 16, 3) := by decide +kernel
theorem dX12_still_9 : decode cX12_still 9 = .ok (.invokevirtual 180, 3) := by decide +kernel
theorem dX12_still_12 : decode cX12_still 12 = .ok (.iconst (-1), 1) := by decide +kernel
theorem dX12_still_13 : decode cX12_still 13 = .ok (.istore_n 1, 1) := by decide +kernel
theorem dX12_still_14 : decode cX12_still 14 = .ok (.iconst (-1), 1) := by decide +kernel
theorem dX12_still_15 : decode cX12_still 15 = .ok (.istore_n 2, 1) := by decide +kernel
theorem dX12_still_16 : decode cX12_still 16 = .ok (.iload_n 1, 1) := by decide +kernel
theorem dX12_still_17 : decode cX12_still 17 = .ok (.bipush 60, 2) := by decide +kernel
theorem dX12_still_19 : decode cX12_still 19 = .ok (.if_icmp .gt 26, 3) := by decide +kernel
theorem dX12_still_22 : decode cX12_still 22 = .ok (.iload_n 2, 1) := by decide +kernel
theorem dX12_still_23 : decode cX12_still 23 = .ok (.aload_n 0, 1) := by decide +kernel
theorem dX12_still_24 : decode cX12_still 24 = .ok (.invokevirtual 60, 3) := by decide +kernel
theorem dX12_still_27 : decode cX12_still 27 = .ok (.if_icmp .eq 18, 3) := by decide +kernel
theorem dX12_still_30 : decode cX12_still 30 = .ok (.aload_n 0, 1) := by decide +kernel
theorem dX12_still_31 : decode cX12_still 31 = .ok (.invokevirtual 60, 3) := by decide +kernel
theorem dX12_still_34 : decode cX12_still 34 = .ok (.istore_n 2, 1) := by decide +kernel
theorem dX12_still_35 : decode cX12_still 35 = .ok (.aload_n 0, 1) := by decide +kernel
theorem dX12_still_36 : decode cX12_still 36 = .ok (.invokevirtual 188, 3) := by decide +kernel
theorem dX12_still_39 : decode cX12_still 39 = .ok (.iinc 1 1, 3) := by decide +kernel
theorem dX12_still_42 : decode cX12_still 42 = .ok (.goto (-26), 3) := by decide +kernel
theorem dX12_still_45 : decode cX12_still 45 = .ok (.aload_n 0, 1) := by decide +kernel
theorem dX12_still_46 : decode cX12_still 46 = .ok (.aload_n 0, 1) := by decide +kernel
theorem dX12_still_47 : decode cX12_still 47 = .ok (.getfield 16, 3) := by decide +kernel
theorem dX12_still_50 : decode cX12_still 50 = .ok (.aload_n 0, 1) := by decide +kernel
theorem dX12_still_51 : decode cX12_still 51 = .ok (.getfield 7, 3) := by decide +kernel
theorem dX12_still_54 : decode cX12_still 54 = .ok (.invokevirtual 180, 3) := by decide +kernel
theorem dX12_still_57 : decode cX12_still 57 = .ok (.iload_n 1, 1) := by decide +kernel
theorem dX12_still_58 : decode cX12_still 58 = .ok (.bipush 60, 2) := by decide +kernel
theorem dX12_still_60 : decode cX12_still 60 = .ok (.if_icmp .le 12, 3) := by decide +kernel
theorem dX12_still_63 : decode cX12_still 63 = .ok (.aload_n 0, 1) := by decide +kernel
theorem dX12_still_64 : decode cX12_still 64 = .ok (.ldc 211, 2) := by decide +kernel
theorem dX12_still_66 : decode cX12_still 66 = .ok (.invokevirtual 56, 3) := by decide +kernel
theorem dX12_still_69 : decode cX12_still 69 = .ok (.goto 4, 3) := by decide +kernel
theorem dX12_still_72 : decode cX12_still 72 = .ok (.iload_n 1, 1) := by decide +kernel
theorem dX12_still_73 : decode cX12_still 73 = .ok (.ireturn, 1) := by decide +kernel
theorem dX12_then_0 : decode cX12_then 0 = .ok (.iload_n 1, 1) := by decide +kernel
theorem dX12_then_1 : decode cX12_then 1 = .ok (.iconst 0, 1) := by decide +kernel
theorem dX12_then_2 : decode cX12_then 2 = .ok (.bipush 60, 2) := by decide +kernel
theorem dX12_then_4 : decode cX12_then 4 = .ok (.invokestatic 47, 3) := by decide +kernel
theorem dX12_then_7 : decode cX12_then 7 = .ok (.ifCond .ne 10, 3) := by decide +kernel
theorem dX12_then_10 : decode cX12_then 10 = .ok (.aload_n 0, 1) := by decide +kernel
theorem dX12_then_11 : decode cX12_then 11 = .ok (.ldc 55, 2) := by decide +kernel
theorem dX12_then_13 : decode cX12_then 13 = .ok (.invokevirtual 56, 3) := by decide +kernel
theorem dX12_then_16 : decode cX12_then 16 = .ok (.ireturn, 1) := by decide +kernel
theorem dX12_then_17 : decode cX12_then 17 = .ok (.aload_n 0, 1) := by decide +kernel
theorem dX12_then_18 : decode cX12_then 18 = .ok (.aload_n 0, 1) := by decide +kernel
theorem dX12_then_19 : decode cX12_then 19 = .ok (.getfield 7, 3) := by decide +kernel
theorem dX12_then_22 : decode cX12_then 22 = .ok (.aload_n 0, 1) := by decide +kernel
theorem dX12_then_23 : decode cX12_then 23 = .ok (.getfield 16, 3) := by decide +kernel
theorem dX12_then_26 : decode cX12_then 26 = .ok (.invokevirtual 180, 3) := by decide +kernel
theorem dX12_then_29 : decode cX12_then 29 = .ok (.iconst 0, 1) := by decide +kernel
theorem dX12_then_30 : decode cX12_then 30 = .ok (.istore_n 2, 1) := by decide +kernel
theorem dX12_then_31 : decode cX12_then 31 = .ok (.iload_n 2, 1) := by decide +kernel
theorem dX12_then_32 : decode cX12_then 32 = .ok (.iload_n 1, 1) := by decide +kernel
theorem dX12_then_33 : decode cX12_then 33 = .ok (.if_icmp .ge 13, 3) := by decide +kernel
theorem dX12_then_36 : decode cX12_then 36 = .ok (.aload_n 0, 1) := by decide +kernel
theorem dX12_then_37 : decode cX12_then 37 = .ok (.invokevirtual 188, 3) := by decide +kernel
theorem dX12_then_40 : decode cX12_then 40 = .ok (.iinc 2 1, 3) := by decide +kernel
theorem dX12_then_43 : decode cX12_then 43 = .ok (.goto (-12), 3) := by decide +kernel
theorem dX12_then_46 : decode cX12_then 46 = .ok (.aload_n 0, 1) := by decide +kernel
theorem dX12_then_47 : decode cX12_then 47 = .ok (.invokevirtual 60, 3) := by decide +kernel
theorem dX12_then_50 : decode cX12_then 50 = .ok (.istore_n 2, 1) := by decide +kernel
theorem dX12_then_51 : decode cX12_then 51 = .ok (.aload_n 0, 1) := by decide +kernel
theorem dX12_then_52 : decode cX12_then 52 = .ok (.aload_n 0, 1) := by decide +kernel
theorem dX12_then_53 : decode cX12_then 53 = .ok (.getfield 16, 3) := by decide +kernel
theorem dX12_then_56 : decode cX12_then 56 = .ok (.aload_n 0, 1) := by decide +kernel
theorem dX12_then_57 : decode cX12_then 57 = .ok (.getfield 7, 3) := by decide +kernel
theorem dX12_then_60 : decode cX12_then 60 = .ok (.invokevirtual 180, 3) := by decide +kernel
theorem dX12_then_63 : decode cX12_then 63 = .ok (.iload_n 2, 1) := by decide +kernel
theorem dX12_then_64 : decode cX12_then 64 = .ok (.ireturn, 1) := by decide +kernel
theorem dX12_isSheet_0 : decode cX12_isSheet 0 = .ok (.iload_n 0, 1) := by decide +kernel
theorem dX12_isSheet_1 : decode cX12_isSheet 1 = .ok (.iconst 0, 1) := by decide +kernel
theorem dX12_isSheet_2 : decode cX12_isSheet 2 = .ok (.iconst 3, 1) := by decide +kernel
theorem dX12_isSheet_3 : decode cX12_isSheet 3 = .ok (.invokestatic 47, 3) := by decide +kernel
theorem dX12_isSheet_6 : decode cX12_isSheet 6 = .ok (.ireturn, 1) := by decide +kernel
theorem dX12_areSo_0 : decode cX12_areSo 0 = .ok (.iconst 1, 1) := by decide +kernel
theorem dX12_areSo_1 : decode cX12_areSo 1 = .ok (.istore_n 2, 1) := by decide +kernel
theorem dX12_areSo_2 : decode cX12_areSo 2 = .ok (.iconst 0, 1) := by decide +kernel
theorem dX12_areSo_3 : decode cX12_areSo 3 = .ok (.istore_n 3, 1) := by decide +kernel
theorem dX12_areSo_4 : decode cX12_areSo 4 = .ok (.iload_n 3, 1) := by decide +kernel
theorem dX12_areSo_5 : decode cX12_areSo 5 = .ok (.aload_n 0, 1) := by decide +kernel
theorem dX12_areSo_6 : decode cX12_areSo 6 = .ok (.getfield 31, 3) := by decide +kernel
theorem dX12_areSo_9 : decode cX12_areSo 9 = .ok (.iload_n 1, 1) := by decide +kernel
theorem dX12_areSo_10 : decode cX12_areSo 10 = .ok (.iaload, 1) := by decide +kernel
theorem dX12_areSo_11 : decode cX12_areSo 11 = .ok (.if_icmp .ge 38, 3) := by decide +kernel
theorem dX12_areSo_14 : decode cX12_areSo 14 = .ok (.iload_n 2, 1) := by decide +kernel
theorem dX12_areSo_15 : decode cX12_areSo 15 = .ok (.ifCond .eq 34, 3) := by decide +kernel
theorem dX12_areSo_18 : decode cX12_areSo 18 = .ok (.aload_n 0, 1) := by decide +kernel
theorem dX12_areSo_19 : decode cX12_areSo 19 = .ok (.iload_n 3, 1) := by decide +kernel
theorem dX12_areSo_20 : decode cX12_areSo 20 = .ok (.invokevirtual 103, 3) := by decide +kernel
theorem dX12_areSo_23 : decode cX12_areSo 23 = .ok (.aload_n 0, 1) := by decide +kernel
theorem dX12_areSo_24 : decode cX12_areSo 24 = .ok (.getfield 34, 3) := by decide +kernel
theorem dX12_areSo_27 : decode cX12_areSo 27 = .ok (.bipush 40, 2) := by decide +kernel
theorem dX12_areSo_29 : decode cX12_areSo 29 = .ok (.iload_n 1, 1) := by decide +kernel
theorem dX12_areSo_30 : decode cX12_areSo 30 = .ok (.imul, 1) := by decide +kernel
theorem dX12_areSo_31 : decode cX12_areSo 31 = .ok (.iload_n 3, 1) := by decide +kernel
theorem dX12_areSo_32 : decode cX12_areSo 32 = .ok (.iadd, 1) := by decide +kernel
theorem dX12_areSo_33 : decode cX12_areSo 33 = .ok (.iaload, 1) := by decide +kernel
theorem dX12_areSo_34 : decode cX12_areSo 34 = .ok (.if_icmp .ne 7, 3) := by decide +kernel
theorem dX12_areSo_37 : decode cX12_areSo 37 = .ok (.iconst 1, 1) := by decide +kernel
theorem dX12_areSo_38 : decode cX12_areSo 38 = .ok (.goto 4, 3) := by decide +kernel
theorem dX12_areSo_41 : decode cX12_areSo 41 = .ok (.iconst 0, 1) := by decide +kernel
theorem dX12_areSo_42 : decode cX12_areSo 42 = .ok (.istore_n 2, 1) := by decide +kernel
theorem dX12_areSo_43 : decode cX12_areSo 43 = .ok (.iinc 3 1, 3) := by decide +kernel
theorem dX12_areSo_46 : decode cX12_areSo 46 = .ok (.goto (-42), 3) := by decide +kernel
theorem dX12_areSo_49 : decode cX12_areSo 49 = .ok (.iload_n 2, 1) := by decide +kernel
theorem dX12_areSo_50 : decode cX12_areSo 50 = .ok (.ireturn, 1) := by decide +kernel
theorem dX12_believed_0 : decode cX12_believed 0 = .ok (.iload_n 1, 1) := by decide +kernel
theorem dX12_believed_1 : decode cX12_believed 1 = .ok (.invokestatic 212, 3) := by decide +kernel
theorem dX12_believed_4 : decode cX12_believed 4 = .ok (.ifCond .eq 12, 3) := by decide +kernel
theorem dX12_believed_7 : decode cX12_believed 7 = .ok (.iload_n 2, 1) := by decide +kernel
theorem dX12_believed_8 : decode cX12_believed 8 = .ok (.iconst 0, 1) := by decide +kernel
theorem dX12_believed_9 : decode cX12_believed 9 = .ok (.iconst 1, 1) := by decide +kernel
theorem dX12_believed_10 : decode cX12_believed 10 = .ok (.invokestatic 47, 3) := by decide +kernel
theorem dX12_believed_13 : decode cX12_believed 13 = .ok (.ifCond .ne 10, 3) := by decide +kernel
theorem dX12_believed_16 : decode cX12_believed 16 = .ok (.aload_n 0, 1) := by decide +kernel
theorem dX12_believed_17 : decode cX12_believed 17 = .ok (.ldc 55, 2) := by decide +kernel
theorem dX12_believed_19 : decode cX12_believed 19 = .ok (.invokevirtual 56, 3) := by decide +kernel
theorem dX12_believed_22 : decode cX12_believed 22 = .ok (.ireturn, 1) := by decide +kernel
theorem dX12_believed_23 : decode cX12_believed 23 = .ok (.aload_n 0, 1) := by decide +kernel
theorem dX12_believed_24 : decode cX12_believed 24 = .ok (.getfield 28, 3) := by decide +kernel
theorem dX12_believed_27 : decode cX12_believed 27 = .ok (.iload_n 1, 1) := by decide +kernel
theorem dX12_believed_28 : decode cX12_believed 28 = .ok (.iaload, 1) := by decide +kernel
theorem dX12_believed_29 : decode cX12_believed 29 = .ok (.ifCond .eq 18, 3) := by decide +kernel
theorem dX12_believed_32 : decode cX12_believed 32 = .ok (.aload_n 0, 1) := by decide +kernel
theorem dX12_believed_33 : decode cX12_believed 33 = .ok (.getfield 31, 3) := by decide +kernel
theorem dX12_believed_36 : decode cX12_believed 36 = .ok (.iload_n 1, 1) := by decide +kernel
theorem dX12_believed_37 : decode cX12_believed 37 = .ok (.iaload, 1) := by decide +kernel
theorem dX12_believed_38 : decode cX12_believed 38 = .ok (.aload_n 0, 1) := by decide +kernel
theorem dX12_believed_39 : decode cX12_believed 39 = .ok (.getfield 7, 3) := by decide +kernel
theorem dX12_believed_42 : decode cX12_believed 42 = .ok (.iconst 3, 1) := by decide +kernel
theorem dX12_believed_43 : decode cX12_believed 43 = .ok (.iaload, 1) := by decide +kernel
theorem dX12_believed_44 : decode cX12_believed 44 = .ok (.if_icmp .le 10, 3) := by decide +kernel
theorem dX12_believed_47 : decode cX12_believed 47 = .ok (.aload_n 0, 1) := by decide +kernel
theorem dX12_believed_48 : decode cX12_believed 48 = .ok (.ldc 211, 2) := by decide +kernel
theorem dX12_believed_50 : decode cX12_believed 50 = .ok (.invokevirtual 56, 3) := by decide +kernel
theorem dX12_believed_53 : decode cX12_believed 53 = .ok (.ireturn, 1) := by decide +kernel
theorem dX12_believed_54 : decode cX12_believed 54 = .ok (.aload_n 0, 1) := by decide +kernel
theorem dX12_believed_55 : decode cX12_believed 55 = .ok (.aload_n 0, 1) := by decide +kernel
theorem dX12_believed_56 : decode cX12_believed 56 = .ok (.getfield 7, 3) := by decide +kernel
theorem dX12_believed_59 : decode cX12_believed 59 = .ok (.aload_n 0, 1) := by decide +kernel
theorem dX12_believed_60 : decode cX12_believed 60 = .ok (.getfield 16, 3) := by decide +kernel
theorem dX12_believed_63 : decode cX12_believed 63 = .ok (.invokevirtual 180, 3) := by decide +kernel
theorem dX12_believed_66 : decode cX12_believed 66 = .ok (.iconst 0, 1) := by decide +kernel
theorem dX12_believed_67 : decode cX12_believed 67 = .ok (.istore_n 3, 1) := by decide +kernel
theorem dX12_believed_68 : decode cX12_believed 68 = .ok (.iconst (-1), 1) := by decide +kernel
theorem dX12_believed_69 : decode cX12_believed 69 = .ok (.istore 4, 2) := by decide +kernel
theorem dX12_believed_71 : decode cX12_believed 71 = .ok (.iconst 0, 1) := by decide +kernel
theorem dX12_believed_72 : decode cX12_believed 72 = .ok (.istore 5, 2) := by decide +kernel
theorem dX12_believed_74 : decode cX12_believed 74 = .ok (.iload 5, 2) := by decide +kernel
theorem dX12_believed_76 : decode cX12_believed 76 = .ok (.sipush 6561, 3) := by decide +kernel
theorem dX12_believed_79 : decode cX12_believed 79 = .ok (.if_icmp .ge 40, 3) := by decide +kernel
theorem dX12_believed_82 : decode cX12_believed 82 = .ok (.aload_n 0, 1) := by decide +kernel
theorem dX12_believed_83 : decode cX12_believed 83 = .ok (.iload 5, 2) := by decide +kernel
theorem dX12_believed_85 : decode cX12_believed 85 = .ok (.invokevirtual 215, 3) := by decide +kernel
theorem dX12_believed_88 : decode cX12_believed 88 = .ok (.aload_n 0, 1) := by decide +kernel
theorem dX12_believed_89 : decode cX12_believed 89 = .ok (.iload_n 1, 1) := by decide +kernel
theorem dX12_believed_90 : decode cX12_believed 90 = .ok (.invokevirtual 218, 3) := by decide +kernel
theorem dX12_believed_93 : decode cX12_believed 93 = .ok (.ifCond .eq 20, 3) := by decide +kernel
theorem dX12_believed_96 : decode cX12_believed 96 = .ok (.iload 4, 2) := by decide +kernel
theorem dX12_believed_98 : decode cX12_believed 98 = .ok (.ifCond .ge 8, 3) := by decide +kernel
theorem dX12_believed_101 : decode cX12_believed 101 = .ok (.iload 5, 2) := by decide +kernel
theorem dX12_believed_103 : decode cX12_believed 103 = .ok (.goto 5, 3) := by decide +kernel
theorem dX12_believed_106 : decode cX12_believed 106 = .ok (.iload 4, 2) := by decide +kernel
theorem dX12_believed_108 : decode cX12_believed 108 = .ok (.istore 4, 2) := by decide +kernel
theorem dX12_believed_110 : decode cX12_believed 110 = .ok (.iinc 3 1, 3) := by decide +kernel
theorem dX12_believed_113 : decode cX12_believed 113 = .ok (.iinc 5 1, 3) := by decide +kernel
theorem dX12_believed_116 : decode cX12_believed 116 = .ok (.goto (-42), 3) := by decide +kernel
theorem dX12_believed_119 : decode cX12_believed 119 = .ok (.aload_n 0, 1) := by decide +kernel
theorem dX12_believed_120 : decode cX12_believed 120 = .ok (.aload_n 0, 1) := by decide +kernel
theorem dX12_believed_121 : decode cX12_believed 121 = .ok (.getfield 16, 3) := by decide +kernel
theorem dX12_believed_124 : decode cX12_believed 124 = .ok (.aload_n 0, 1) := by decide +kernel
theorem dX12_believed_125 : decode cX12_believed 125 = .ok (.getfield 7, 3) := by decide +kernel
theorem dX12_believed_128 : decode cX12_believed 128 = .ok (.invokevirtual 180, 3) := by decide +kernel
theorem dX12_believed_131 : decode cX12_believed 131 = .ok (.iload_n 2, 1) := by decide +kernel
theorem dX12_believed_132 : decode cX12_believed 132 = .ok (.iconst 1, 1) := by decide +kernel
theorem dX12_believed_133 : decode cX12_believed 133 = .ok (.if_icmp .ne 14, 3) := by decide +kernel
theorem dX12_believed_136 : decode cX12_believed 136 = .ok (.iload_n 3, 1) := by decide +kernel
theorem dX12_believed_137 : decode cX12_believed 137 = .ok (.ifCond .ne 10, 3) := by decide +kernel
theorem dX12_believed_140 : decode cX12_believed 140 = .ok (.aload_n 0, 1) := by decide +kernel
theorem dX12_believed_141 : decode cX12_believed 141 = .ok (.ldc 211, 2) := by decide +kernel
theorem dX12_believed_143 : decode cX12_believed 143 = .ok (.invokevirtual 56, 3) := by decide +kernel
theorem dX12_believed_146 : decode cX12_believed 146 = .ok (.ireturn, 1) := by decide +kernel
theorem dX12_believed_147 : decode cX12_believed 147 = .ok (.iload_n 2, 1) := by decide +kernel
theorem dX12_believed_148 : decode cX12_believed 148 = .ok (.ifCond .ne 7, 3) := by decide +kernel
theorem dX12_believed_151 : decode cX12_believed 151 = .ok (.iload_n 3, 1) := by decide +kernel
theorem dX12_believed_152 : decode cX12_believed 152 = .ok (.goto 5, 3) := by decide +kernel
theorem dX12_believed_155 : decode cX12_believed 155 = .ok (.iload 4, 2) := by decide +kernel
theorem dX12_believed_157 : decode cX12_believed 157 = .ok (.ireturn, 1) := by decide +kernel
theorem dX12_word_0 : decode cX12_word 0 = .ok (.iload_n 1, 1) := by decide +kernel
theorem dX12_word_1 : decode cX12_word 1 = .ok (.invokestatic 212, 3) := by decide +kernel
theorem dX12_word_4 : decode cX12_word 4 = .ok (.ifCond .eq 20, 3) := by decide +kernel
theorem dX12_word_7 : decode cX12_word 7 = .ok (.aload_n 0, 1) := by decide +kernel
theorem dX12_word_8 : decode cX12_word 8 = .ok (.iload_n 2, 1) := by decide +kernel
theorem dX12_word_9 : decode cX12_word 9 = .ok (.invokevirtual 100, 3) := by decide +kernel
theorem dX12_word_12 : decode cX12_word 12 = .ok (.ifCond .eq 12, 3) := by decide +kernel
theorem dX12_word_15 : decode cX12_word 15 = .ok (.iload_n 3, 1) := by decide +kernel
theorem dX12_word_16 : decode cX12_word 16 = .ok (.iconst 0, 1) := by decide +kernel
theorem dX12_word_17 : decode cX12_word 17 = .ok (.iconst 1, 1) := by decide +kernel
theorem dX12_word_18 : decode cX12_word 18 = .ok (.invokestatic 47, 3) := by decide +kernel
theorem dX12_word_21 : decode cX12_word 21 = .ok (.ifCond .ne 10, 3) := by decide +kernel
theorem dX12_word_24 : decode cX12_word 24 = .ok (.aload_n 0, 1) := by decide +kernel
theorem dX12_word_25 : decode cX12_word 25 = .ok (.ldc 55, 2) := by decide +kernel
theorem dX12_word_27 : decode cX12_word 27 = .ok (.invokevirtual 56, 3) := by decide +kernel
theorem dX12_word_30 : decode cX12_word 30 = .ok (.ireturn, 1) := by decide +kernel
theorem dX12_word_31 : decode cX12_word 31 = .ok (.aload_n 0, 1) := by decide +kernel
theorem dX12_word_32 : decode cX12_word 32 = .ok (.getfield 28, 3) := by decide +kernel
theorem dX12_word_35 : decode cX12_word 35 = .ok (.iload_n 1, 1) := by decide +kernel
theorem dX12_word_36 : decode cX12_word 36 = .ok (.iaload, 1) := by decide +kernel
theorem dX12_word_37 : decode cX12_word 37 = .ok (.ifCond .eq 18, 3) := by decide +kernel
theorem dX12_word_40 : decode cX12_word 40 = .ok (.aload_n 0, 1) := by decide +kernel
theorem dX12_word_41 : decode cX12_word 41 = .ok (.getfield 31, 3) := by decide +kernel
theorem dX12_word_44 : decode cX12_word 44 = .ok (.iload_n 1, 1) := by decide +kernel
theorem dX12_word_45 : decode cX12_word 45 = .ok (.iaload, 1) := by decide +kernel
theorem dX12_word_46 : decode cX12_word 46 = .ok (.aload_n 0, 1) := by decide +kernel
theorem dX12_word_47 : decode cX12_word 47 = .ok (.getfield 7, 3) := by decide +kernel
theorem dX12_word_50 : decode cX12_word 50 = .ok (.iconst 3, 1) := by decide +kernel
theorem dX12_word_51 : decode cX12_word 51 = .ok (.iaload, 1) := by decide +kernel
theorem dX12_word_52 : decode cX12_word 52 = .ok (.if_icmp .le 10, 3) := by decide +kernel
theorem dX12_word_55 : decode cX12_word 55 = .ok (.aload_n 0, 1) := by decide +kernel
theorem dX12_word_56 : decode cX12_word 56 = .ok (.ldc 211, 2) := by decide +kernel
theorem dX12_word_58 : decode cX12_word 58 = .ok (.invokevirtual 56, 3) := by decide +kernel
theorem dX12_word_61 : decode cX12_word 61 = .ok (.ireturn, 1) := by decide +kernel
theorem dX12_word_62 : decode cX12_word 62 = .ok (.iconst 0, 1) := by decide +kernel
theorem dX12_word_63 : decode cX12_word 63 = .ok (.istore 4, 2) := by decide +kernel
theorem dX12_word_65 : decode cX12_word 65 = .ok (.iload 4, 2) := by decide +kernel
theorem dX12_word_67 : decode cX12_word 67 = .ok (.bipush 8, 2) := by decide +kernel
theorem dX12_word_69 : decode cX12_word 69 = .ok (.if_icmp .ge 17, 3) := by decide +kernel
theorem dX12_word_72 : decode cX12_word 72 = .ok (.aload_n 0, 1) := by decide +kernel
theorem dX12_word_73 : decode cX12_word 73 = .ok (.getfield 40, 3) := by decide +kernel
theorem dX12_word_76 : decode cX12_word 76 = .ok (.iload 4, 2) := by decide +kernel
theorem dX12_word_78 : decode cX12_word 78 = .ok (.iconst 0, 1) := by decide +kernel
theorem dX12_word_79 : decode cX12_word 79 = .ok (.iastore, 1) := by decide +kernel
theorem dX12_word_80 : decode cX12_word 80 = .ok (.iinc 4 1, 3) := by decide +kernel
theorem dX12_word_83 : decode cX12_word 83 = .ok (.goto (-18), 3) := by decide +kernel
theorem dX12_word_86 : decode cX12_word 86 = .ok (.aload_n 0, 1) := by decide +kernel
theorem dX12_word_87 : decode cX12_word 87 = .ok (.aload_n 0, 1) := by decide +kernel
theorem dX12_word_88 : decode cX12_word 88 = .ok (.getfield 7, 3) := by decide +kernel
theorem dX12_word_91 : decode cX12_word 91 = .ok (.aload_n 0, 1) := by decide +kernel
theorem dX12_word_92 : decode cX12_word 92 = .ok (.getfield 16, 3) := by decide +kernel
theorem dX12_word_95 : decode cX12_word 95 = .ok (.invokevirtual 180, 3) := by decide +kernel
theorem dX12_word_98 : decode cX12_word 98 = .ok (.iconst 0, 1) := by decide +kernel
theorem dX12_word_99 : decode cX12_word 99 = .ok (.istore 4, 2) := by decide +kernel
theorem dX12_word_101 : decode cX12_word 101 = .ok (.iload 4, 2) := by decide +kernel
theorem dX12_word_103 : decode cX12_word 103 = .ok (.sipush 6561, 3) := by decide +kernel
theorem dX12_word_106 : decode cX12_word 106 = .ok (.if_icmp .ge 63, 3) := by decide +kernel
theorem dX12_word_109 : decode cX12_word 109 = .ok (.aload_n 0, 1) := by decide +kernel
theorem dX12_word_110 : decode cX12_word 110 = .ok (.iload 4, 2) := by decide +kernel
theorem dX12_word_112 : decode cX12_word 112 = .ok (.invokevirtual 215, 3) := by decide +kernel
theorem dX12_word_115 : decode cX12_word 115 = .ok (.aload_n 0, 1) := by decide +kernel
theorem dX12_word_116 : decode cX12_word 116 = .ok (.iload_n 1, 1) := by decide +kernel
theorem dX12_word_117 : decode cX12_word 117 = .ok (.invokevirtual 218, 3) := by decide +kernel
theorem dX12_word_120 : decode cX12_word 120 = .ok (.ifCond .eq 43, 3) := by decide +kernel
theorem dX12_word_123 : decode cX12_word 123 = .ok (.iconst 0, 1) := by decide +kernel
theorem dX12_word_124 : decode cX12_word 124 = .ok (.istore 5, 2) := by decide +kernel
theorem dX12_word_126 : decode cX12_word 126 = .ok (.iload 5, 2) := by decide +kernel
theorem dX12_word_128 : decode cX12_word 128 = .ok (.bipush 8, 2) := by decide +kernel
theorem dX12_word_130 : decode cX12_word 130 = .ok (.if_icmp .ge 33, 3) := by decide +kernel
theorem dX12_word_133 : decode cX12_word 133 = .ok (.aload_n 0, 1) := by decide +kernel
theorem dX12_word_134 : decode cX12_word 134 = .ok (.getfield 40, 3) := by decide +kernel
theorem dX12_word_137 : decode cX12_word 137 = .ok (.iload 5, 2) := by decide +kernel
theorem dX12_word_139 : decode cX12_word 139 = .ok (.dup2, 1) := by decide +kernel
theorem dX12_word_140 : decode cX12_word 140 = .ok (.iaload, 1) := by decide +kernel
theorem dX12_word_141 : decode cX12_word 141 = .ok (.iconst 1, 1) := by decide +kernel
theorem dX12_word_142 : decode cX12_word 142 = .ok (.aload_n 0, 1) := by decide +kernel
theorem dX12_word_143 : decode cX12_word 143 = .ok (.iload_n 2, 1) := by decide +kernel
theorem dX12_word_144 : decode cX12_word 144 = .ok (.aload_n 0, 1) := by decide +kernel
theorem dX12_word_145 : decode cX12_word 145 = .ok (.getfield 22, 3) := by decide +kernel
theorem dX12_word_148 : decode cX12_word 148 = .ok (.iload 5, 2) := by decide +kernel
theorem dX12_word_150 : decode cX12_word 150 = .ok (.iaload, 1) := by decide +kernel
theorem dX12_word_151 : decode cX12_word 151 = .ok (.invokevirtual 97, 3) := by decide +kernel
theorem dX12_word_154 : decode cX12_word 154 = .ok (.ishl, 1) := by decide +kernel
theorem dX12_word_155 : decode cX12_word 155 = .ok (.ior, 1) := by decide +kernel
theorem dX12_word_156 : decode cX12_word 156 = .ok (.iastore, 1) := by decide +kernel
theorem dX12_word_157 : decode cX12_word 157 = .ok (.iinc 5 1, 3) := by decide +kernel
theorem dX12_word_160 : decode cX12_word 160 = .ok (.goto (-34), 3) := by decide +kernel
theorem dX12_word_163 : decode cX12_word 163 = .ok (.iinc 4 1, 3) := by decide +kernel
theorem dX12_word_166 : decode cX12_word 166 = .ok (.goto (-65), 3) := by decide +kernel
theorem dX12_word_169 : decode cX12_word 169 = .ok (.aload_n 0, 1) := by decide +kernel
theorem dX12_word_170 : decode cX12_word 170 = .ok (.aload_n 0, 1) := by decide +kernel
theorem dX12_word_171 : decode cX12_word 171 = .ok (.getfield 16, 3) := by decide +kernel
theorem dX12_word_174 : decode cX12_word 174 = .ok (.aload_n 0, 1) := by decide +kernel
theorem dX12_word_175 : decode cX12_word 175 = .ok (.getfield 7, 3) := by decide +kernel
theorem dX12_word_178 : decode cX12_word 178 = .ok (.invokevirtual 180, 3) := by decide +kernel
theorem dX12_word_181 : decode cX12_word 181 = .ok (.iconst (-1), 1) := by decide +kernel
theorem dX12_word_182 : decode cX12_word 182 = .ok (.istore 4, 2) := by decide +kernel
theorem dX12_word_184 : decode cX12_word 184 = .ok (.iconst 0, 1) := by decide +kernel
theorem dX12_word_185 : decode cX12_word 185 = .ok (.istore 5, 2) := by decide +kernel
theorem dX12_word_187 : decode cX12_word 187 = .ok (.iconst 0, 1) := by decide +kernel
theorem dX12_word_188 : decode cX12_word 188 = .ok (.istore 6, 2) := by decide +kernel
theorem dX12_word_190 : decode cX12_word 190 = .ok (.iload 6, 2) := by decide +kernel
theorem dX12_word_192 : decode cX12_word 192 = .ok (.bipush 8, 2) := by decide +kernel
theorem dX12_word_194 : decode cX12_word 194 = .ok (.if_icmp .ge 79, 3) := by decide +kernel
theorem dX12_word_197 : decode cX12_word 197 = .ok (.aload_n 0, 1) := by decide +kernel
theorem dX12_word_198 : decode cX12_word 198 = .ok (.getfield 40, 3) := by decide +kernel
theorem dX12_word_201 : decode cX12_word 201 = .ok (.iload 6, 2) := by decide +kernel
theorem dX12_word_203 : decode cX12_word 203 = .ok (.iaload, 1) := by decide +kernel
theorem dX12_word_204 : decode cX12_word 204 = .ok (.invokestatic 195, 3) := by decide +kernel
theorem dX12_word_207 : decode cX12_word 207 = .ok (.aload_n 0, 1) := by decide +kernel
theorem dX12_word_208 : decode cX12_word 208 = .ok (.getfield 40, 3) := by decide +kernel
theorem dX12_word_211 : decode cX12_word 211 = .ok (.iload 6, 2) := by decide +kernel
theorem dX12_word_213 : decode cX12_word 213 = .ok (.iaload, 1) := by decide +kernel
theorem dX12_word_214 : decode cX12_word 214 = .ok (.bipush 8, 2) := by decide +kernel
theorem dX12_word_216 : decode cX12_word 216 = .ok (.ishr, 1) := by decide +kernel
theorem dX12_word_217 : decode cX12_word 217 = .ok (.iconst 1, 1) := by decide +kernel
theorem dX12_word_218 : decode cX12_word 218 = .ok (.iand, 1) := by decide +kernel
theorem dX12_word_219 : decode cX12_word 219 = .ok (.iadd, 1) := by decide +kernel
theorem dX12_word_220 : decode cX12_word 220 = .ok (.aload_n 0, 1) := by decide +kernel
theorem dX12_word_221 : decode cX12_word 221 = .ok (.getfield 40, 3) := by decide +kernel
theorem dX12_word_224 : decode cX12_word 224 = .ok (.iload 6, 2) := by decide +kernel
theorem dX12_word_226 : decode cX12_word 226 = .ok (.iaload, 1) := by decide +kernel
theorem dX12_word_227 : decode cX12_word 227 = .ok (.bipush 9, 2) := by decide +kernel
theorem dX12_word_229 : decode cX12_word 229 = .ok (.ishr, 1) := by decide +kernel
theorem dX12_word_230 : decode cX12_word 230 = .ok (.iconst 1, 1) := by decide +kernel
theorem dX12_word_231 : decode cX12_word 231 = .ok (.iand, 1) := by decide +kernel
theorem dX12_word_232 : decode cX12_word 232 = .ok (.iadd, 1) := by decide +kernel
theorem dX12_word_233 : decode cX12_word 233 = .ok (.istore 7, 2) := by decide +kernel
theorem dX12_word_235 : decode cX12_word 235 = .ok (.iload 7, 2) := by decide +kernel
theorem dX12_word_237 : decode cX12_word 237 = .ok (.iload 5, 2) := by decide +kernel
theorem dX12_word_239 : decode cX12_word 239 = .ok (.if_icmp .le 8, 3) := by decide +kernel
theorem dX12_word_242 : decode cX12_word 242 = .ok (.iload 6, 2) := by decide +kernel
theorem dX12_word_244 : decode cX12_word 244 = .ok (.goto 5, 3) := by decide +kernel
theorem dX12_word_247 : decode cX12_word 247 = .ok (.iload 4, 2) := by decide +kernel
theorem dX12_word_249 : decode cX12_word 249 = .ok (.istore 4, 2) := by decide +kernel
theorem dX12_word_251 : decode cX12_word 251 = .ok (.iload 7, 2) := by decide +kernel
theorem dX12_word_253 : decode cX12_word 253 = .ok (.iload 5, 2) := by decide +kernel
theorem dX12_word_255 : decode cX12_word 255 = .ok (.if_icmp .le 8, 3) := by decide +kernel
theorem dX12_word_258 : decode cX12_word 258 = .ok (.iload 7, 2) := by decide +kernel
theorem dX12_word_260 : decode cX12_word 260 = .ok (.goto 5, 3) := by decide +kernel
theorem dX12_word_263 : decode cX12_word 263 = .ok (.iload 5, 2) := by decide +kernel
theorem dX12_word_265 : decode cX12_word 265 = .ok (.istore 5, 2) := by decide +kernel
theorem dX12_word_267 : decode cX12_word 267 = .ok (.iinc 6 1, 3) := by decide +kernel
theorem dX12_word_270 : decode cX12_word 270 = .ok (.goto (-80), 3) := by decide +kernel
theorem dX12_word_273 : decode cX12_word 273 = .ok (.iload 4, 2) := by decide +kernel
theorem dX12_word_275 : decode cX12_word 275 = .ok (.ifCond .ge 10, 3) := by decide +kernel
theorem dX12_word_278 : decode cX12_word 278 = .ok (.aload_n 0, 1) := by decide +kernel
theorem dX12_word_279 : decode cX12_word 279 = .ok (.ldc 211, 2) := by decide +kernel
theorem dX12_word_281 : decode cX12_word 281 = .ok (.invokevirtual 56, 3) := by decide +kernel
theorem dX12_word_284 : decode cX12_word 284 = .ok (.ireturn, 1) := by decide +kernel
theorem dX12_word_285 : decode cX12_word 285 = .ok (.iload_n 3, 1) := by decide +kernel
theorem dX12_word_286 : decode cX12_word 286 = .ok (.ifCond .ne 8, 3) := by decide +kernel
theorem dX12_word_289 : decode cX12_word 289 = .ok (.iload 4, 2) := by decide +kernel
theorem dX12_word_291 : decode cX12_word 291 = .ok (.goto 5, 3) := by decide +kernel
theorem dX12_word_294 : decode cX12_word 294 = .ok (.iload 5, 2) := by decide +kernel
theorem dX12_word_296 : decode cX12_word 296 = .ok (.ireturn, 1) := by decide +kernel
theorem dX12_seed_0 : decode cX12_seed 0 = .ok (.aload_n 0, 1) := by decide +kernel
theorem dX12_seed_1 : decode cX12_seed 1 = .ok (.getfield 7, 3) := by decide +kernel
theorem dX12_seed_4 : decode cX12_seed 4 = .ok (.iconst 2, 1) := by decide +kernel
theorem dX12_seed_5 : decode cX12_seed 5 = .ok (.iaload, 1) := by decide +kernel
theorem dX12_seed_6 : decode cX12_seed 6 = .ok (.istore_n 2, 1) := by decide +kernel
theorem dX12_seed_7 : decode cX12_seed 7 = .ok (.aload_n 0, 1) := by decide +kernel
theorem dX12_seed_8 : decode cX12_seed 8 = .ok (.getfield 7, 3) := by decide +kernel
theorem dX12_seed_11 : decode cX12_seed 11 = .ok (.iconst 2, 1) := by decide +kernel
theorem dX12_seed_12 : decode cX12_seed 12 = .ok (.iload_n 1, 1) := by decide +kernel
theorem dX12_seed_13 : decode cX12_seed 13 = .ok (.iastore, 1) := by decide +kernel
theorem dX12_seed_14 : decode cX12_seed 14 = .ok (.iload_n 2, 1) := by decide +kernel
theorem dX12_seed_15 : decode cX12_seed 15 = .ok (.ireturn, 1) := by decide +kernel
theorem dX12_ran_0 : decode cX12_ran 0 = .ok (.aload_n 0, 1) := by decide +kernel
theorem dX12_ran_1 : decode cX12_ran 1 = .ok (.getfield 221, 3) := by decide +kernel
theorem dX12_ran_4 : decode cX12_ran 4 = .ok (.bipush 40, 2) := by decide +kernel
theorem dX12_ran_6 : decode cX12_ran 6 = .ok (.if_icmp .ge 23, 3) := by decide +kernel
theorem dX12_ran_9 : decode cX12_ran 9 = .ok (.aload_n 0, 1) := by decide +kernel
theorem dX12_ran_10 : decode cX12_ran 10 = .ok (.getfield 43, 3) := by decide +kernel
theorem dX12_ran_13 : decode cX12_ran 13 = .ok (.aload_n 0, 1) := by decide +kernel
theorem dX12_ran_14 : decode cX12_ran 14 = .ok (.getfield 221, 3) := by decide +kernel
theorem dX12_ran_17 : decode cX12_ran 17 = .ok (.iload_n 1, 1) := by decide +kernel
theorem dX12_ran_18 : decode cX12_ran 18 = .ok (.iastore, 1) := by decide +kernel
theorem dX12_ran_19 : decode cX12_ran 19 = .ok (.aload_n 0, 1) := by decide +kernel
theorem dX12_ran_20 : decode cX12_ran 20 = .ok (.dup, 1) := by decide +kernel
theorem dX12_ran_21 : decode cX12_ran 21 = .ok (.getfield 221, 3) := by decide +kernel
theorem dX12_ran_24 : decode cX12_ran 24 = .ok (.iconst 1, 1) := by decide +kernel
theorem dX12_ran_25 : decode cX12_ran 25 = .ok (.iadd, 1) := by decide +kernel
theorem dX12_ran_26 : decode cX12_ran 26 = .ok (.putfield 221, 3) := by decide +kernel
theorem dX12_ran_29 : decode cX12_ran 29 = .ok (.return_, 1) := by decide +kernel
theorem dX12_saysIn_0 : decode cX12_saysIn 0 = .ok (.iload_n 1, 1) := by decide +kernel
theorem dX12_saysIn_1 : decode cX12_saysIn 1 = .ok (.ifCond .ne 16, 3) := by decide +kernel
theorem dX12_saysIn_4 : decode cX12_saysIn 4 = .ok (.aload_n 0, 1) := by decide +kernel
theorem dX12_saysIn_5 : decode cX12_saysIn 5 = .ok (.bipush 10, 2) := by decide +kernel
theorem dX12_saysIn_7 : decode cX12_saysIn 7 = .ok (.invokevirtual 224, 3) := by decide +kernel
theorem dX12_saysIn_10 : decode cX12_saysIn 10 = .ok (.iload_n 2, 1) := by decide +kernel
theorem dX12_saysIn_11 : decode cX12_saysIn 11 = .ok (.aload_n 0, 1) := by decide +kernel
theorem dX12_saysIn_12 : decode cX12_saysIn 12 = .ok (.getfield 227, 3) := by decide +kernel
theorem dX12_saysIn_15 : decode cX12_saysIn 15 = .ok (.iadd, 1) := by decide +kernel
theorem dX12_saysIn_16 : decode cX12_saysIn 16 = .ok (.ireturn, 1) := by decide +kernel
theorem dX12_saysIn_17 : decode cX12_saysIn 17 = .ok (.iload_n 1, 1) := by decide +kernel
theorem dX12_saysIn_18 : decode cX12_saysIn 18 = .ok (.iconst 1, 1) := by decide +kernel
theorem dX12_saysIn_19 : decode cX12_saysIn 19 = .ok (.if_icmp .ne 18, 3) := by decide +kernel
theorem dX12_saysIn_22 : decode cX12_saysIn 22 = .ok (.aload_n 0, 1) := by decide +kernel
theorem dX12_saysIn_23 : decode cX12_saysIn 23 = .ok (.bipush 20, 2) := by decide +kernel
theorem dX12_saysIn_25 : decode cX12_saysIn 25 = .ok (.invokevirtual 224, 3) := by decide +kernel
theorem dX12_saysIn_28 : decode cX12_saysIn 28 = .ok (.aload_n 0, 1) := by decide +kernel
theorem dX12_saysIn_29 : decode cX12_saysIn 29 = .ok (.iconst 0, 1) := by decide +kernel
theorem dX12_saysIn_30 : decode cX12_saysIn 30 = .ok (.iload_n 2, 1) := by decide +kernel
theorem dX12_saysIn_31 : decode cX12_saysIn 31 = .ok (.invokevirtual 230, 3) := by decide +kernel
theorem dX12_saysIn_34 : decode cX12_saysIn 34 = .ok (.iconst 3, 1) := by decide +kernel
theorem dX12_saysIn_35 : decode cX12_saysIn 35 = .ok (.imul, 1) := by decide +kernel
theorem dX12_saysIn_36 : decode cX12_saysIn 36 = .ok (.ireturn, 1) := by decide +kernel
theorem dX12_saysIn_37 : decode cX12_saysIn 37 = .ok (.aload_n 0, 1) := by decide +kernel
theorem dX12_saysIn_38 : decode cX12_saysIn 38 = .ok (.iload_n 1, 1) := by decide +kernel
theorem dX12_saysIn_39 : decode cX12_saysIn 39 = .ok (.invokestatic 113, 3) := by decide +kernel
theorem dX12_saysIn_42 : decode cX12_saysIn 42 = .ok (.iload_n 2, 1) := by decide +kernel
theorem dX12_saysIn_43 : decode cX12_saysIn 43 = .ok (.invokevirtual 230, 3) := by decide +kernel
theorem dX12_saysIn_46 : decode cX12_saysIn 46 = .ok (.ireturn, 1) := by decide +kernel
theorem dX12_doubtsIn_0 : decode cX12_doubtsIn 0 = .ok (.iload_n 1, 1) := by decide +kernel
theorem dX12_doubtsIn_1 : decode cX12_doubtsIn 1 = .ok (.ifCond .ne 16, 3) := by decide +kernel
theorem dX12_doubtsIn_4 : decode cX12_doubtsIn 4 = .ok (.aload_n 0, 1) := by decide +kernel
theorem dX12_doubtsIn_5 : decode cX12_doubtsIn 5 = .ok (.bipush 12, 2) := by decide +kernel
theorem dX12_doubtsIn_7 : decode cX12_doubtsIn 7 = .ok (.invokevirtual 224, 3) := by decide +kernel
theorem dX12_doubtsIn_10 : decode cX12_doubtsIn 10 = .ok (.iload_n 2, 1) := by decide +kernel
theorem dX12_doubtsIn_11 : decode cX12_doubtsIn 11 = .ok (.aload_n 0, 1) := by decide +kernel
theorem dX12_doubtsIn_12 : decode cX12_doubtsIn 12 = .ok (.getfield 233, 3) := by decide +kernel
theorem dX12_doubtsIn_15 : decode cX12_doubtsIn 15 = .ok (.isub, 1) := by decide +kernel
theorem dX12_doubtsIn_16 : decode cX12_doubtsIn 16 = .ok (.ireturn, 1) := by decide +kernel
theorem dX12_doubtsIn_17 : decode cX12_doubtsIn 17 = .ok (.iload_n 1, 1) := by decide +kernel
theorem dX12_doubtsIn_18 : decode cX12_doubtsIn 18 = .ok (.iconst 3, 1) := by decide +kernel
theorem dX12_doubtsIn_19 : decode cX12_doubtsIn 19 = .ok (.if_icmp .ne 17, 3) := by decide +kernel
theorem dX12_doubtsIn_22 : decode cX12_doubtsIn 22 = .ok (.aload_n 0, 1) := by decide +kernel
theorem dX12_doubtsIn_23 : decode cX12_doubtsIn 23 = .ok (.bipush 40, 2) := by decide +kernel
theorem dX12_doubtsIn_25 : decode cX12_doubtsIn 25 = .ok (.invokevirtual 224, 3) := by decide +kernel
theorem dX12_doubtsIn_28 : decode cX12_doubtsIn 28 = .ok (.aload_n 0, 1) := by decide +kernel
theorem dX12_doubtsIn_29 : decode cX12_doubtsIn 29 = .ok (.iconst 0, 1) := by decide +kernel
theorem dX12_doubtsIn_30 : decode cX12_doubtsIn 30 = .ok (.iload_n 2, 1) := by decide +kernel
theorem dX12_doubtsIn_31 : decode cX12_doubtsIn 31 = .ok (.invokevirtual 236, 3) := by decide +kernel
theorem dX12_doubtsIn_34 : decode cX12_doubtsIn 34 = .ok (.ineg, 1) := by decide +kernel
theorem dX12_doubtsIn_35 : decode cX12_doubtsIn 35 = .ok (.ireturn, 1) := by decide +kernel
theorem dX12_doubtsIn_36 : decode cX12_doubtsIn 36 = .ok (.iload_n 1, 1) := by decide +kernel
theorem dX12_doubtsIn_37 : decode cX12_doubtsIn 37 = .ok (.bipush 6, 2) := by decide +kernel
theorem dX12_doubtsIn_39 : decode cX12_doubtsIn 39 = .ok (.if_icmp .ne 21, 3) := by decide +kernel
theorem dX12_doubtsIn_42 : decode cX12_doubtsIn 42 = .ok (.aload_n 0, 1) := by decide +kernel
theorem dX12_doubtsIn_43 : decode cX12_doubtsIn 43 = .ok (.bipush 70, 2) := by decide +kernel
theorem dX12_doubtsIn_45 : decode cX12_doubtsIn 45 = .ok (.invokevirtual 224, 3) := by decide +kernel
theorem dX12_doubtsIn_48 : decode cX12_doubtsIn 48 = .ok (.aload_n 0, 1) := by decide +kernel
theorem dX12_doubtsIn_49 : decode cX12_doubtsIn 49 = .ok (.iconst 3, 1) := by decide +kernel
theorem dX12_doubtsIn_50 : decode cX12_doubtsIn 50 = .ok (.iload_n 2, 1) := by decide +kernel
theorem dX12_doubtsIn_51 : decode cX12_doubtsIn 51 = .ok (.invokevirtual 236, 3) := by decide +kernel
theorem dX12_doubtsIn_54 : decode cX12_doubtsIn 54 = .ok (.aload_n 0, 1) := by decide +kernel
theorem dX12_doubtsIn_55 : decode cX12_doubtsIn 55 = .ok (.getfield 227, 3) := by decide +kernel
theorem dX12_doubtsIn_58 : decode cX12_doubtsIn 58 = .ok (.ixor, 1) := by decide +kernel
theorem dX12_doubtsIn_59 : decode cX12_doubtsIn 59 = .ok (.ireturn, 1) := by decide +kernel
theorem dX12_doubtsIn_60 : decode cX12_doubtsIn 60 = .ok (.aload_n 0, 1) := by decide +kernel
theorem dX12_doubtsIn_61 : decode cX12_doubtsIn 61 = .ok (.iload_n 1, 1) := by decide +kernel
theorem dX12_doubtsIn_62 : decode cX12_doubtsIn 62 = .ok (.invokestatic 113, 3) := by decide +kernel
theorem dX12_doubtsIn_65 : decode cX12_doubtsIn 65 = .ok (.iload_n 2, 1) := by decide +kernel
theorem dX12_doubtsIn_66 : decode cX12_doubtsIn 66 = .ok (.invokevirtual 236, 3) := by decide +kernel
theorem dX12_doubtsIn_69 : decode cX12_doubtsIn 69 = .ok (.ireturn, 1) := by decide +kernel
theorem dX12_risesIn_0 : decode cX12_risesIn 0 = .ok (.iload_n 1, 1) := by decide +kernel
theorem dX12_risesIn_1 : decode cX12_risesIn 1 = .ok (.ifCond .ne 21, 3) := by decide +kernel
theorem dX12_risesIn_4 : decode cX12_risesIn 4 = .ok (.aload_n 0, 1) := by decide +kernel
theorem dX12_risesIn_5 : decode cX12_risesIn 5 = .ok (.bipush 11, 2) := by decide +kernel
theorem dX12_risesIn_7 : decode cX12_risesIn 7 = .ok (.invokevirtual 224, 3) := by decide +kernel
theorem dX12_risesIn_10 : decode cX12_risesIn 10 = .ok (.aload_n 0, 1) := by decide +kernel
theorem dX12_risesIn_11 : decode cX12_risesIn 11 = .ok (.aload_n 0, 1) := by decide +kernel
theorem dX12_risesIn_12 : decode cX12_risesIn 12 = .ok (.getfield 239, 3) := by decide +kernel
theorem dX12_risesIn_15 : decode cX12_risesIn 15 = .ok (.iload_n 2, 1) := by decide +kernel
theorem dX12_risesIn_16 : decode cX12_risesIn 16 = .ok (.invokevirtual 230, 3) := by decide +kernel
theorem dX12_risesIn_19 : decode cX12_risesIn 19 = .ok (.iconst 2, 1) := by decide +kernel
theorem dX12_risesIn_20 : decode cX12_risesIn 20 = .ok (.imul, 1) := by decide +kernel
theorem dX12_risesIn_21 : decode cX12_risesIn 21 = .ok (.ireturn, 1) := by decide +kernel
theorem dX12_risesIn_22 : decode cX12_risesIn 22 = .ok (.iload_n 1, 1) := by decide +kernel
theorem dX12_risesIn_23 : decode cX12_risesIn 23 = .ok (.iconst 2, 1) := by decide +kernel
theorem dX12_risesIn_24 : decode cX12_risesIn 24 = .ok (.if_icmp .ne 28, 3) := by decide +kernel
theorem dX12_risesIn_27 : decode cX12_risesIn 27 = .ok (.aload_n 0, 1) := by decide +kernel
theorem dX12_risesIn_28 : decode cX12_risesIn 28 = .ok (.bipush 30, 2) := by decide +kernel
theorem dX12_risesIn_30 : decode cX12_risesIn 30 = .ok (.invokevirtual 224, 3) := by decide +kernel
theorem dX12_risesIn_33 : decode cX12_risesIn 33 = .ok (.aload_n 0, 1) := by decide +kernel
theorem dX12_risesIn_34 : decode cX12_risesIn 34 = .ok (.iconst 0, 1) := by decide +kernel
theorem dX12_risesIn_35 : decode cX12_risesIn 35 = .ok (.iload_n 2, 1) := by decide +kernel
theorem dX12_risesIn_36 : decode cX12_risesIn 36 = .ok (.invokevirtual 242, 3) := by decide +kernel
theorem dX12_risesIn_39 : decode cX12_risesIn 39 = .ok (.istore_n 3, 1) := by decide +kernel
theorem dX12_risesIn_40 : decode cX12_risesIn 40 = .ok (.iload_n 3, 1) := by decide +kernel
theorem dX12_risesIn_41 : decode cX12_risesIn 41 = .ok (.aload_n 0, 1) := by decide +kernel
theorem dX12_risesIn_42 : decode cX12_risesIn 42 = .ok (.aload_n 0, 1) := by decide +kernel
theorem dX12_risesIn_43 : decode cX12_risesIn 43 = .ok (.getfield 239, 3) := by decide +kernel
theorem dX12_risesIn_46 : decode cX12_risesIn 46 = .ok (.iconst 1, 1) := by decide +kernel
theorem dX12_risesIn_47 : decode cX12_risesIn 47 = .ok (.invokevirtual 236, 3) := by decide +kernel
theorem dX12_risesIn_50 : decode cX12_risesIn 50 = .ok (.isub, 1) := by decide +kernel
theorem dX12_risesIn_51 : decode cX12_risesIn 51 = .ok (.ireturn, 1) := by decide +kernel
theorem dX12_risesIn_52 : decode cX12_risesIn 52 = .ok (.iload_n 1, 1) := by decide +kernel
theorem dX12_risesIn_53 : decode cX12_risesIn 53 = .ok (.iconst 5, 1) := by decide +kernel
theorem dX12_risesIn_54 : decode cX12_risesIn 54 = .ok (.if_icmp .ne 18, 3) := by decide +kernel
theorem dX12_risesIn_57 : decode cX12_risesIn 57 = .ok (.aload_n 0, 1) := by decide +kernel
theorem dX12_risesIn_58 : decode cX12_risesIn 58 = .ok (.bipush 60, 2) := by decide +kernel
theorem dX12_risesIn_60 : decode cX12_risesIn 60 = .ok (.invokevirtual 224, 3) := by decide +kernel
theorem dX12_risesIn_63 : decode cX12_risesIn 63 = .ok (.aload_n 0, 1) := by decide +kernel
theorem dX12_risesIn_64 : decode cX12_risesIn 64 = .ok (.iconst 2, 1) := by decide +kernel
theorem dX12_risesIn_65 : decode cX12_risesIn 65 = .ok (.iload_n 2, 1) := by decide +kernel
theorem dX12_risesIn_66 : decode cX12_risesIn 66 = .ok (.iconst 1, 1) := by decide +kernel
theorem dX12_risesIn_67 : decode cX12_risesIn 67 = .ok (.iadd, 1) := by decide +kernel
theorem dX12_risesIn_68 : decode cX12_risesIn 68 = .ok (.invokevirtual 242, 3) := by decide +kernel
theorem dX12_risesIn_71 : decode cX12_risesIn 71 = .ok (.ireturn, 1) := by decide +kernel
theorem dX12_risesIn_72 : decode cX12_risesIn 72 = .ok (.aload_n 0, 1) := by decide +kernel
theorem dX12_risesIn_73 : decode cX12_risesIn 73 = .ok (.iload_n 1, 1) := by decide +kernel
theorem dX12_risesIn_74 : decode cX12_risesIn 74 = .ok (.invokestatic 113, 3) := by decide +kernel
theorem dX12_risesIn_77 : decode cX12_risesIn 77 = .ok (.iload_n 2, 1) := by decide +kernel
theorem dX12_risesIn_78 : decode cX12_risesIn 78 = .ok (.invokevirtual 242, 3) := by decide +kernel
theorem dX12_risesIn_81 : decode cX12_risesIn 81 = .ok (.ireturn, 1) := by decide +kernel
theorem dX12_tellsIn_0 : decode cX12_tellsIn 0 = .ok (.iload_n 1, 1) := by decide +kernel
theorem dX12_tellsIn_1 : decode cX12_tellsIn 1 = .ok (.ifCond .ne 31, 3) := by decide +kernel
theorem dX12_tellsIn_4 : decode cX12_tellsIn 4 = .ok (.aload_n 0, 1) := by decide +kernel
theorem dX12_tellsIn_5 : decode cX12_tellsIn 5 = .ok (.bipush 13, 2) := by decide +kernel
theorem dX12_tellsIn_7 : decode cX12_tellsIn 7 = .ok (.invokevirtual 224, 3) := by decide +kernel
theorem dX12_tellsIn_10 : decode cX12_tellsIn 10 = .ok (.aload_n 0, 1) := by decide +kernel
theorem dX12_tellsIn_11 : decode cX12_tellsIn 11 = .ok (.aload_n 0, 1) := by decide +kernel
theorem dX12_tellsIn_12 : decode cX12_tellsIn 12 = .ok (.getfield 239, 3) := by decide +kernel
theorem dX12_tellsIn_15 : decode cX12_tellsIn 15 = .ok (.iload_n 2, 1) := by decide +kernel
theorem dX12_tellsIn_16 : decode cX12_tellsIn 16 = .ok (.invokevirtual 242, 3) := by decide +kernel
theorem dX12_tellsIn_19 : decode cX12_tellsIn 19 = .ok (.istore_n 3, 1) := by decide +kernel
theorem dX12_tellsIn_20 : decode cX12_tellsIn 20 = .ok (.iload_n 3, 1) := by decide +kernel
theorem dX12_tellsIn_21 : decode cX12_tellsIn 21 = .ok (.aload_n 0, 1) := by decide +kernel
theorem dX12_tellsIn_22 : decode cX12_tellsIn 22 = .ok (.aload_n 0, 1) := by decide +kernel
theorem dX12_tellsIn_23 : decode cX12_tellsIn 23 = .ok (.getfield 239, 3) := by decide +kernel
theorem dX12_tellsIn_26 : decode cX12_tellsIn 26 = .ok (.iload_n 2, 1) := by decide +kernel
theorem dX12_tellsIn_27 : decode cX12_tellsIn 27 = .ok (.invokevirtual 236, 3) := by decide +kernel
theorem dX12_tellsIn_30 : decode cX12_tellsIn 30 = .ok (.ixor, 1) := by decide +kernel
theorem dX12_tellsIn_31 : decode cX12_tellsIn 31 = .ok (.ireturn, 1) := by decide +kernel
theorem dX12_tellsIn_32 : decode cX12_tellsIn 32 = .ok (.iload_n 1, 1) := by decide +kernel
theorem dX12_tellsIn_33 : decode cX12_tellsIn 33 = .ok (.iconst 4, 1) := by decide +kernel
theorem dX12_tellsIn_34 : decode cX12_tellsIn 34 = .ok (.if_icmp .ne 28, 3) := by decide +kernel
theorem dX12_tellsIn_37 : decode cX12_tellsIn 37 = .ok (.aload_n 0, 1) := by decide +kernel
theorem dX12_tellsIn_38 : decode cX12_tellsIn 38 = .ok (.bipush 50, 2) := by decide +kernel
theorem dX12_tellsIn_40 : decode cX12_tellsIn 40 = .ok (.invokevirtual 224, 3) := by decide +kernel
theorem dX12_tellsIn_43 : decode cX12_tellsIn 43 = .ok (.aload_n 0, 1) := by decide +kernel
theorem dX12_tellsIn_44 : decode cX12_tellsIn 44 = .ok (.iconst 1, 1) := by decide +kernel
theorem dX12_tellsIn_45 : decode cX12_tellsIn 45 = .ok (.iload_n 2, 1) := by decide +kernel
theorem dX12_tellsIn_46 : decode cX12_tellsIn 46 = .ok (.invokevirtual 245, 3) := by decide +kernel
theorem dX12_tellsIn_49 : decode cX12_tellsIn 49 = .ok (.istore_n 3, 1) := by decide +kernel
theorem dX12_tellsIn_50 : decode cX12_tellsIn 50 = .ok (.iload_n 3, 1) := by decide +kernel
theorem dX12_tellsIn_51 : decode cX12_tellsIn 51 = .ok (.aload_n 0, 1) := by decide +kernel
theorem dX12_tellsIn_52 : decode cX12_tellsIn 52 = .ok (.aload_n 0, 1) := by decide +kernel
theorem dX12_tellsIn_53 : decode cX12_tellsIn 53 = .ok (.getfield 239, 3) := by decide +kernel
theorem dX12_tellsIn_56 : decode cX12_tellsIn 56 = .ok (.iconst 2, 1) := by decide +kernel
theorem dX12_tellsIn_57 : decode cX12_tellsIn 57 = .ok (.invokevirtual 230, 3) := by decide +kernel
theorem dX12_tellsIn_60 : decode cX12_tellsIn 60 = .ok (.isub, 1) := by decide +kernel
theorem dX12_tellsIn_61 : decode cX12_tellsIn 61 = .ok (.ireturn, 1) := by decide +kernel
theorem dX12_tellsIn_62 : decode cX12_tellsIn 62 = .ok (.iload_n 1, 1) := by decide +kernel
theorem dX12_tellsIn_63 : decode cX12_tellsIn 63 = .ok (.bipush 6, 2) := by decide +kernel
theorem dX12_tellsIn_65 : decode cX12_tellsIn 65 = .ok (.if_icmp .ne 28, 3) := by decide +kernel
theorem dX12_tellsIn_68 : decode cX12_tellsIn 68 = .ok (.aload_n 0, 1) := by decide +kernel
theorem dX12_tellsIn_69 : decode cX12_tellsIn 69 = .ok (.bipush 71, 2) := by decide +kernel
theorem dX12_tellsIn_71 : decode cX12_tellsIn 71 = .ok (.invokevirtual 224, 3) := by decide +kernel
theorem dX12_tellsIn_74 : decode cX12_tellsIn 74 = .ok (.aload_n 0, 1) := by decide +kernel
theorem dX12_tellsIn_75 : decode cX12_tellsIn 75 = .ok (.aload_n 0, 1) := by decide +kernel
theorem dX12_tellsIn_76 : decode cX12_tellsIn 76 = .ok (.getfield 239, 3) := by decide +kernel
theorem dX12_tellsIn_79 : decode cX12_tellsIn 79 = .ok (.iload_n 2, 1) := by decide +kernel
theorem dX12_tellsIn_80 : decode cX12_tellsIn 80 = .ok (.invokevirtual 242, 3) := by decide +kernel
theorem dX12_tellsIn_83 : decode cX12_tellsIn 83 = .ok (.istore_n 3, 1) := by decide +kernel
theorem dX12_tellsIn_84 : decode cX12_tellsIn 84 = .ok (.iload_n 3, 1) := by decide +kernel
theorem dX12_tellsIn_85 : decode cX12_tellsIn 85 = .ok (.aload_n 0, 1) := by decide +kernel
theorem dX12_tellsIn_86 : decode cX12_tellsIn 86 = .ok (.iconst 3, 1) := by decide +kernel
theorem dX12_tellsIn_87 : decode cX12_tellsIn 87 = .ok (.iload_n 2, 1) := by decide +kernel
theorem dX12_tellsIn_88 : decode cX12_tellsIn 88 = .ok (.invokevirtual 245, 3) := by decide +kernel
theorem dX12_tellsIn_91 : decode cX12_tellsIn 91 = .ok (.isub, 1) := by decide +kernel
theorem dX12_tellsIn_92 : decode cX12_tellsIn 92 = .ok (.ireturn, 1) := by decide +kernel
theorem dX12_tellsIn_93 : decode cX12_tellsIn 93 = .ok (.aload_n 0, 1) := by decide +kernel
theorem dX12_tellsIn_94 : decode cX12_tellsIn 94 = .ok (.iload_n 1, 1) := by decide +kernel
theorem dX12_tellsIn_95 : decode cX12_tellsIn 95 = .ok (.invokestatic 113, 3) := by decide +kernel
theorem dX12_tellsIn_98 : decode cX12_tellsIn 98 = .ok (.iload_n 2, 1) := by decide +kernel
theorem dX12_tellsIn_99 : decode cX12_tellsIn 99 = .ok (.invokevirtual 245, 3) := by decide +kernel
theorem dX12_tellsIn_102 : decode cX12_tellsIn 102 = .ok (.ireturn, 1) := by decide +kernel
theorem dX12_voice_0 : decode cX12_voice 0 = .ok (.aload_n 0, 1) := by decide +kernel
theorem dX12_voice_1 : decode cX12_voice 1 = .ok (.iload_n 1, 1) := by decide +kernel
theorem dX12_voice_2 : decode cX12_voice 2 = .ok (.invokevirtual 100, 3) := by decide +kernel
theorem dX12_voice_5 : decode cX12_voice 5 = .ok (.ifCond .eq 12, 3) := by decide +kernel
theorem dX12_voice_8 : decode cX12_voice 8 = .ok (.iload_n 2, 1) := by decide +kernel
theorem dX12_voice_9 : decode cX12_voice 9 = .ok (.iconst 0, 1) := by decide +kernel
theorem dX12_voice_10 : decode cX12_voice 10 = .ok (.iconst 3, 1) := by decide +kernel
theorem dX12_voice_11 : decode cX12_voice 11 = .ok (.invokestatic 47, 3) := by decide +kernel
theorem dX12_voice_14 : decode cX12_voice 14 = .ok (.ifCond .ne 10, 3) := by decide +kernel
theorem dX12_voice_17 : decode cX12_voice 17 = .ok (.aload_n 0, 1) := by decide +kernel
theorem dX12_voice_18 : decode cX12_voice 18 = .ok (.ldc 55, 2) := by decide +kernel
theorem dX12_voice_20 : decode cX12_voice 20 = .ok (.invokevirtual 56, 3) := by decide +kernel
theorem dX12_voice_23 : decode cX12_voice 23 = .ok (.ireturn, 1) := by decide +kernel
theorem dX12_voice_24 : decode cX12_voice 24 = .ok (.aload_n 0, 1) := by decide +kernel
theorem dX12_voice_25 : decode cX12_voice 25 = .ok (.iconst 0, 1) := by decide +kernel
theorem dX12_voice_26 : decode cX12_voice 26 = .ok (.putfield 221, 3) := by decide +kernel
theorem dX12_voice_29 : decode cX12_voice 29 = .ok (.aload_n 0, 1) := by decide +kernel
theorem dX12_voice_30 : decode cX12_voice 30 = .ok (.aload_n 0, 1) := by decide +kernel
theorem dX12_voice_31 : decode cX12_voice 31 = .ok (.iload_n 1, 1) := by decide +kernel
theorem dX12_voice_32 : decode cX12_voice 32 = .ok (.iconst 0, 1) := by decide +kernel
theorem dX12_voice_33 : decode cX12_voice 33 = .ok (.invokevirtual 83, 3) := by decide +kernel
theorem dX12_voice_36 : decode cX12_voice 36 = .ok (.putfield 239, 3) := by decide +kernel
theorem dX12_voice_39 : decode cX12_voice 39 = .ok (.aload_n 0, 1) := by decide +kernel
theorem dX12_voice_40 : decode cX12_voice 40 = .ok (.iload_n 1, 1) := by decide +kernel
theorem dX12_voice_41 : decode cX12_voice 41 = .ok (.putfield 227, 3) := by decide +kernel
theorem dX12_voice_44 : decode cX12_voice 44 = .ok (.aload_n 0, 1) := by decide +kernel
theorem dX12_voice_45 : decode cX12_voice 45 = .ok (.aload_n 0, 1) := by decide +kernel
theorem dX12_voice_46 : decode cX12_voice 46 = .ok (.iload_n 1, 1) := by decide +kernel
theorem dX12_voice_47 : decode cX12_voice 47 = .ok (.iconst 1, 1) := by decide +kernel
theorem dX12_voice_48 : decode cX12_voice 48 = .ok (.invokevirtual 83, 3) := by decide +kernel
theorem dX12_voice_51 : decode cX12_voice 51 = .ok (.putfield 233, 3) := by decide +kernel
theorem dX12_voice_54 : decode cX12_voice 54 = .ok (.iload_n 2, 1) := by decide +kernel
theorem dX12_voice_55 : decode cX12_voice 55 = .ok (.tableswitch 55 0 2 #[25, 35, 45], 25) := by decide +kernel
theorem dX12_voice_80 : decode cX12_voice 80 = .ok (.aload_n 0, 1) := by decide +kernel
theorem dX12_voice_81 : decode cX12_voice 81 = .ok (.aload_n 0, 1) := by decide +kernel
theorem dX12_voice_82 : decode cX12_voice 82 = .ok (.getfield 239, 3) := by decide +kernel
theorem dX12_voice_85 : decode cX12_voice 85 = .ok (.iload_n 3, 1) := by decide +kernel
theorem dX12_voice_86 : decode cX12_voice 86 = .ok (.invokevirtual 230, 3) := by decide +kernel
theorem dX12_voice_89 : decode cX12_voice 89 = .ok (.ireturn, 1) := by decide +kernel
theorem dX12_voice_90 : decode cX12_voice 90 = .ok (.aload_n 0, 1) := by decide +kernel
theorem dX12_voice_91 : decode cX12_voice 91 = .ok (.aload_n 0, 1) := by decide +kernel
theorem dX12_voice_92 : decode cX12_voice 92 = .ok (.getfield 239, 3) := by decide +kernel
theorem dX12_voice_95 : decode cX12_voice 95 = .ok (.iload_n 3, 1) := by decide +kernel
theorem dX12_voice_96 : decode cX12_voice 96 = .ok (.invokevirtual 242, 3) := by decide +kernel
theorem dX12_voice_99 : decode cX12_voice 99 = .ok (.ireturn, 1) := by decide +kernel
theorem dX12_voice_100 : decode cX12_voice 100 = .ok (.aload_n 0, 1) := by decide +kernel
theorem dX12_voice_101 : decode cX12_voice 101 = .ok (.aload_n 0, 1) := by decide +kernel
theorem dX12_voice_102 : decode cX12_voice 102 = .ok (.getfield 239, 3) := by decide +kernel
theorem dX12_voice_105 : decode cX12_voice 105 = .ok (.iload_n 3, 1) := by decide +kernel
theorem dX12_voice_106 : decode cX12_voice 106 = .ok (.invokevirtual 236, 3) := by decide +kernel
theorem dX12_voice_109 : decode cX12_voice 109 = .ok (.ireturn, 1) := by decide +kernel
theorem dX12_voice_110 : decode cX12_voice 110 = .ok (.aload_n 0, 1) := by decide +kernel
theorem dX12_voice_111 : decode cX12_voice 111 = .ok (.aload_n 0, 1) := by decide +kernel
theorem dX12_voice_112 : decode cX12_voice 112 = .ok (.getfield 239, 3) := by decide +kernel
theorem dX12_voice_115 : decode cX12_voice 115 = .ok (.iload_n 3, 1) := by decide +kernel
theorem dX12_voice_116 : decode cX12_voice 116 = .ok (.invokevirtual 245, 3) := by decide +kernel
theorem dX12_voice_119 : decode cX12_voice 119 = .ok (.ireturn, 1) := by decide +kernel
theorem dX12_trace_0 : decode cX12_trace 0 = .ok (.iload_n 1, 1) := by decide +kernel
theorem dX12_trace_1 : decode cX12_trace 1 = .ok (.iconst 0, 1) := by decide +kernel
theorem dX12_trace_2 : decode cX12_trace 2 = .ok (.aload_n 0, 1) := by decide +kernel
theorem dX12_trace_3 : decode cX12_trace 3 = .ok (.getfield 221, 3) := by decide +kernel
theorem dX12_trace_6 : decode cX12_trace 6 = .ok (.iconst 1, 1) := by decide +kernel
theorem dX12_trace_7 : decode cX12_trace 7 = .ok (.isub, 1) := by decide +kernel
theorem dX12_trace_8 : decode cX12_trace 8 = .ok (.invokestatic 47, 3) := by decide +kernel
theorem dX12_trace_11 : decode cX12_trace 11 = .ok (.ifCond .eq 12, 3) := by decide +kernel
theorem dX12_trace_14 : decode cX12_trace 14 = .ok (.aload_n 0, 1) := by decide +kernel
theorem dX12_trace_15 : decode cX12_trace 15 = .ok (.getfield 43, 3) := by decide +kernel
theorem dX12_trace_18 : decode cX12_trace 18 = .ok (.iload_n 1, 1) := by decide +kernel
theorem dX12_trace_19 : decode cX12_trace 19 = .ok (.iaload, 1) := by decide +kernel
theorem dX12_trace_20 : decode cX12_trace 20 = .ok (.goto 9, 3) := by decide +kernel
theorem dX12_trace_23 : decode cX12_trace 23 = .ok (.aload_n 0, 1) := by decide +kernel
theorem dX12_trace_24 : decode cX12_trace 24 = .ok (.ldc 211, 2) := by decide +kernel
theorem dX12_trace_26 : decode cX12_trace 26 = .ok (.invokevirtual 56, 3) := by decide +kernel
theorem dX12_trace_29 : decode cX12_trace 29 = .ok (.ireturn, 1) := by decide +kernel
theorem dX12_narrow_0 : decode cX12_narrow 0 = .ok (.iload_n 0, 1) := by decide +kernel
theorem dX12_narrow_1 : decode cX12_narrow 1 = .ok (.bipush 8, 2) := by decide +kernel
theorem dX12_narrow_3 : decode cX12_narrow 3 = .ok (.if_icmp .ne 8, 3) := by decide +kernel
theorem dX12_narrow_6 : decode cX12_narrow 6 = .ok (.iload_n 1, 1) := by decide +kernel
theorem dX12_narrow_7 : decode cX12_narrow 7 = .ok (.i2b, 1) := by decide +kernel
theorem dX12_narrow_8 : decode cX12_narrow 8 = .ok (.goto 15, 3) := by decide +kernel
theorem dX12_narrow_11 : decode cX12_narrow 11 = .ok (.iload_n 0, 1) := by decide +kernel
theorem dX12_narrow_12 : decode cX12_narrow 12 = .ok (.bipush 16, 2) := by decide +kernel
theorem dX12_narrow_14 : decode cX12_narrow 14 = .ok (.if_icmp .ne 8, 3) := by decide +kernel
theorem dX12_narrow_17 : decode cX12_narrow 17 = .ok (.iload_n 1, 1) := by decide +kernel
theorem dX12_narrow_18 : decode cX12_narrow 18 = .ok (.i2s, 1) := by decide +kernel
theorem dX12_narrow_19 : decode cX12_narrow 19 = .ok (.goto 4, 3) := by decide +kernel
theorem dX12_narrow_22 : decode cX12_narrow 22 = .ok (.iload_n 1, 1) := by decide +kernel
theorem dX12_narrow_23 : decode cX12_narrow 23 = .ok (.ireturn, 1) := by decide +kernel
theorem dX12_sheet_0 : decode cX12_sheet 0 = .ok (.iload_n 1, 1) := by decide +kernel
theorem dX12_sheet_1 : decode cX12_sheet 1 = .ok (.invokestatic 212, 3) := by decide +kernel
theorem dX12_sheet_4 : decode cX12_sheet 4 = .ok (.ifCond .eq 25, 3) := by decide +kernel
theorem dX12_sheet_7 : decode cX12_sheet 7 = .ok (.iload_n 2, 1) := by decide +kernel
theorem dX12_sheet_8 : decode cX12_sheet 8 = .ok (.ifCond .eq 28, 3) := by decide +kernel
theorem dX12_sheet_11 : decode cX12_sheet 11 = .ok (.iload_n 2, 1) := by decide +kernel
theorem dX12_sheet_12 : decode cX12_sheet 12 = .ok (.bipush 8, 2) := by decide +kernel
theorem dX12_sheet_14 : decode cX12_sheet 14 = .ok (.if_icmp .eq 22, 3) := by decide +kernel
theorem dX12_sheet_17 : decode cX12_sheet 17 = .ok (.iload_n 2, 1) := by decide +kernel
theorem dX12_sheet_18 : decode cX12_sheet 18 = .ok (.bipush 16, 2) := by decide +kernel
theorem dX12_sheet_20 : decode cX12_sheet 20 = .ok (.if_icmp .eq 16, 3) := by decide +kernel
theorem dX12_sheet_23 : decode cX12_sheet 23 = .ok (.iload_n 2, 1) := by decide +kernel
theorem dX12_sheet_24 : decode cX12_sheet 24 = .ok (.bipush 32, 2) := by decide +kernel
theorem dX12_sheet_26 : decode cX12_sheet 26 = .ok (.if_icmp .eq 10, 3) := by decide +kernel
theorem dX12_sheet_29 : decode cX12_sheet 29 = .ok (.aload_n 0, 1) := by decide +kernel
theorem dX12_sheet_30 : decode cX12_sheet 30 = .ok (.ldc 55, 2) := by decide +kernel
theorem dX12_sheet_32 : decode cX12_sheet 32 = .ok (.invokevirtual 56, 3) := by decide +kernel
theorem dX12_sheet_35 : decode cX12_sheet 35 = .ok (.ireturn, 1) := by decide +kernel
theorem dX12_sheet_36 : decode cX12_sheet 36 = .ok (.iload_n 2, 1) := by decide +kernel
theorem dX12_sheet_37 : decode cX12_sheet 37 = .ok (.ifCond .eq 14, 3) := by decide +kernel
theorem dX12_sheet_40 : decode cX12_sheet 40 = .ok (.iload_n 3, 1) := by decide +kernel
theorem dX12_sheet_41 : decode cX12_sheet 41 = .ok (.ifCond .ge 10, 3) := by decide +kernel
theorem dX12_sheet_44 : decode cX12_sheet 44 = .ok (.aload_n 0, 1) := by decide +kernel
theorem dX12_sheet_45 : decode cX12_sheet 45 = .ok (.ldc 187, 2) := by decide +kernel
theorem dX12_sheet_47 : decode cX12_sheet 47 = .ok (.invokevirtual 56, 3) := by decide +kernel
theorem dX12_sheet_50 : decode cX12_sheet 50 = .ok (.ireturn, 1) := by decide +kernel
theorem dX12_sheet_51 : decode cX12_sheet 51 = .ok (.iload_n 2, 1) := by decide +kernel
theorem dX12_sheet_52 : decode cX12_sheet 52 = .ok (.ifCond .eq 16, 3) := by decide +kernel
theorem dX12_sheet_55 : decode cX12_sheet 55 = .ok (.iload_n 3, 1) := by decide +kernel
theorem dX12_sheet_56 : decode cX12_sheet 56 = .ok (.bipush 40, 2) := by decide +kernel
theorem dX12_sheet_58 : decode cX12_sheet 58 = .ok (.if_icmp .le 10, 3) := by decide +kernel
theorem dX12_sheet_61 : decode cX12_sheet 61 = .ok (.aload_n 0, 1) := by decide +kernel
theorem dX12_sheet_62 : decode cX12_sheet 62 = .ok (.ldc 55, 2) := by decide +kernel
theorem dX12_sheet_64 : decode cX12_sheet 64 = .ok (.invokevirtual 56, 3) := by decide +kernel
theorem dX12_sheet_67 : decode cX12_sheet 67 = .ok (.ireturn, 1) := by decide +kernel
theorem dX12_sheet_68 : decode cX12_sheet 68 = .ok (.aload_n 0, 1) := by decide +kernel
theorem dX12_sheet_69 : decode cX12_sheet 69 = .ok (.getfield 28, 3) := by decide +kernel
theorem dX12_sheet_72 : decode cX12_sheet 72 = .ok (.iload_n 1, 1) := by decide +kernel
theorem dX12_sheet_73 : decode cX12_sheet 73 = .ok (.iload_n 2, 1) := by decide +kernel
theorem dX12_sheet_74 : decode cX12_sheet 74 = .ok (.iastore, 1) := by decide +kernel
theorem dX12_sheet_75 : decode cX12_sheet 75 = .ok (.aload_n 0, 1) := by decide +kernel
theorem dX12_sheet_76 : decode cX12_sheet 76 = .ok (.getfield 31, 3) := by decide +kernel
theorem dX12_sheet_79 : decode cX12_sheet 79 = .ok (.iload_n 1, 1) := by decide +kernel
theorem dX12_sheet_80 : decode cX12_sheet 80 = .ok (.iload_n 2, 1) := by decide +kernel
theorem dX12_sheet_81 : decode cX12_sheet 81 = .ok (.ifCond .ne 7, 3) := by decide +kernel
theorem dX12_sheet_84 : decode cX12_sheet 84 = .ok (.iconst 0, 1) := by decide +kernel
theorem dX12_sheet_85 : decode cX12_sheet 85 = .ok (.goto 4, 3) := by decide +kernel
theorem dX12_sheet_88 : decode cX12_sheet 88 = .ok (.iload_n 3, 1) := by decide +kernel
theorem dX12_sheet_89 : decode cX12_sheet 89 = .ok (.iastore, 1) := by decide +kernel
theorem dX12_sheet_90 : decode cX12_sheet 90 = .ok (.iconst 0, 1) := by decide +kernel
theorem dX12_sheet_91 : decode cX12_sheet 91 = .ok (.istore 4, 2) := by decide +kernel
theorem dX12_sheet_93 : decode cX12_sheet 93 = .ok (.iload 4, 2) := by decide +kernel
theorem dX12_sheet_95 : decode cX12_sheet 95 = .ok (.bipush 40, 2) := by decide +kernel
theorem dX12_sheet_97 : decode cX12_sheet 97 = .ok (.if_icmp .ge 22, 3) := by decide +kernel
theorem dX12_sheet_100 : decode cX12_sheet 100 = .ok (.aload_n 0, 1) := by decide +kernel
theorem dX12_sheet_101 : decode cX12_sheet 101 = .ok (.getfield 34, 3) := by decide +kernel
theorem dX12_sheet_104 : decode cX12_sheet 104 = .ok (.bipush 40, 2) := by decide +kernel
theorem dX12_sheet_106 : decode cX12_sheet 106 = .ok (.iload_n 1, 1) := by decide +kernel
theorem dX12_sheet_107 : decode cX12_sheet 107 = .ok (.imul, 1) := by decide +kernel
theorem dX12_sheet_108 : decode cX12_sheet 108 = .ok (.iload 4, 2) := by decide +kernel
theorem dX12_sheet_110 : decode cX12_sheet 110 = .ok (.iadd, 1) := by decide +kernel
theorem dX12_sheet_111 : decode cX12_sheet 111 = .ok (.iconst 0, 1) := by decide +kernel
theorem dX12_sheet_112 : decode cX12_sheet 112 = .ok (.iastore, 1) := by decide +kernel
theorem dX12_sheet_113 : decode cX12_sheet 113 = .ok (.iinc 4 1, 3) := by decide +kernel
theorem dX12_sheet_116 : decode cX12_sheet 116 = .ok (.goto (-23), 3) := by decide +kernel
theorem dX12_sheet_119 : decode cX12_sheet 119 = .ok (.iconst 1, 1) := by decide +kernel
theorem dX12_sheet_120 : decode cX12_sheet 120 = .ok (.ireturn, 1) := by decide +kernel
theorem dX12_put_0 : decode cX12_put 0 = .ok (.iload_n 1, 1) := by decide +kernel
theorem dX12_put_1 : decode cX12_put 1 = .ok (.invokestatic 212, 3) := by decide +kernel
theorem dX12_put_4 : decode cX12_put 4 = .ok (.ifCond .ne 10, 3) := by decide +kernel
theorem dX12_put_7 : decode cX12_put 7 = .ok (.aload_n 0, 1) := by decide +kernel
theorem dX12_put_8 : decode cX12_put 8 = .ok (.ldc 55, 2) := by decide +kernel
theorem dX12_put_10 : decode cX12_put 10 = .ok (.invokevirtual 56, 3) := by decide +kernel
theorem dX12_put_13 : decode cX12_put 13 = .ok (.ireturn, 1) := by decide +kernel
theorem dX12_put_14 : decode cX12_put 14 = .ok (.aload_n 0, 1) := by decide +kernel
theorem dX12_put_15 : decode cX12_put 15 = .ok (.getfield 28, 3) := by decide +kernel
theorem dX12_put_18 : decode cX12_put 18 = .ok (.iload_n 1, 1) := by decide +kernel
theorem dX12_put_19 : decode cX12_put 19 = .ok (.iaload, 1) := by decide +kernel
theorem dX12_put_20 : decode cX12_put 20 = .ok (.ifCond .ne 10, 3) := by decide +kernel
theorem dX12_put_23 : decode cX12_put 23 = .ok (.aload_n 0, 1) := by decide +kernel
theorem dX12_put_24 : decode cX12_put 24 = .ok (.ldc 211, 2) := by decide +kernel
theorem dX12_put_26 : decode cX12_put 26 = .ok (.invokevirtual 56, 3) := by decide +kernel
theorem dX12_put_29 : decode cX12_put 29 = .ok (.ireturn, 1) := by decide +kernel
theorem dX12_put_30 : decode cX12_put 30 = .ok (.iload_n 2, 1) := by decide +kernel
theorem dX12_put_31 : decode cX12_put 31 = .ok (.iconst 0, 1) := by decide +kernel
theorem dX12_put_32 : decode cX12_put 32 = .ok (.aload_n 0, 1) := by decide +kernel
theorem dX12_put_33 : decode cX12_put 33 = .ok (.getfield 31, 3) := by decide +kernel
theorem dX12_put_36 : decode cX12_put 36 = .ok (.iload_n 1, 1) := by decide +kernel
theorem dX12_put_37 : decode cX12_put 37 = .ok (.iaload, 1) := by decide +kernel
theorem dX12_put_38 : decode cX12_put 38 = .ok (.iconst 1, 1) := by decide +kernel
theorem dX12_put_39 : decode cX12_put 39 = .ok (.isub, 1) := by decide +kernel
theorem dX12_put_40 : decode cX12_put 40 = .ok (.invokestatic 47, 3) := by decide +kernel
theorem dX12_put_43 : decode cX12_put 43 = .ok (.ifCond .ne 10, 3) := by decide +kernel
theorem dX12_put_46 : decode cX12_put 46 = .ok (.aload_n 0, 1) := by decide +kernel
theorem dX12_put_47 : decode cX12_put 47 = .ok (.ldc 55, 2) := by decide +kernel
theorem dX12_put_49 : decode cX12_put 49 = .ok (.invokevirtual 56, 3) := by decide +kernel
theorem dX12_put_52 : decode cX12_put 52 = .ok (.ireturn, 1) := by decide +kernel
theorem dX12_put_53 : decode cX12_put 53 = .ok (.aload_n 0, 1) := by decide +kernel
theorem dX12_put_54 : decode cX12_put 54 = .ok (.getfield 34, 3) := by decide +kernel
theorem dX12_put_57 : decode cX12_put 57 = .ok (.bipush 40, 2) := by decide +kernel
theorem dX12_put_59 : decode cX12_put 59 = .ok (.iload_n 1, 1) := by decide +kernel
theorem dX12_put_60 : decode cX12_put 60 = .ok (.imul, 1) := by decide +kernel
theorem dX12_put_61 : decode cX12_put 61 = .ok (.iload_n 2, 1) := by decide +kernel
theorem dX12_put_62 : decode cX12_put 62 = .ok (.iadd, 1) := by decide +kernel
theorem dX12_put_63 : decode cX12_put 63 = .ok (.aload_n 0, 1) := by decide +kernel
theorem dX12_put_64 : decode cX12_put 64 = .ok (.getfield 28, 3) := by decide +kernel
theorem dX12_put_67 : decode cX12_put 67 = .ok (.iload_n 1, 1) := by decide +kernel
theorem dX12_put_68 : decode cX12_put 68 = .ok (.iaload, 1) := by decide +kernel
theorem dX12_put_69 : decode cX12_put 69 = .ok (.iload_n 3, 1) := by decide +kernel
theorem dX12_put_70 : decode cX12_put 70 = .ok (.invokestatic 248, 3) := by decide +kernel
theorem dX12_put_73 : decode cX12_put 73 = .ok (.iastore, 1) := by decide +kernel
theorem dX12_put_74 : decode cX12_put 74 = .ok (.iconst 1, 1) := by decide +kernel
theorem dX12_put_75 : decode cX12_put 75 = .ok (.ireturn, 1) := by decide +kernel
theorem dX12_move_0 : decode cX12_move 0 = .ok (.iload_n 1, 1) := by decide +kernel
theorem dX12_move_1 : decode cX12_move 1 = .ok (.invokestatic 212, 3) := by decide +kernel
theorem dX12_move_4 : decode cX12_move 4 = .ok (.ifCond .eq 10, 3) := by decide +kernel
theorem dX12_move_7 : decode cX12_move 7 = .ok (.iload_n 3, 1) := by decide +kernel
theorem dX12_move_8 : decode cX12_move 8 = .ok (.invokestatic 212, 3) := by decide +kernel
theorem dX12_move_11 : decode cX12_move 11 = .ok (.ifCond .ne 10, 3) := by decide +kernel
theorem dX12_move_14 : decode cX12_move 14 = .ok (.aload_n 0, 1) := by decide +kernel
theorem dX12_move_15 : decode cX12_move 15 = .ok (.ldc 55, 2) := by decide +kernel
theorem dX12_move_17 : decode cX12_move 17 = .ok (.invokevirtual 56, 3) := by decide +kernel
theorem dX12_move_20 : decode cX12_move 20 = .ok (.ireturn, 1) := by decide +kernel
theorem dX12_move_21 : decode cX12_move 21 = .ok (.aload_n 0, 1) := by decide +kernel
theorem dX12_move_22 : decode cX12_move 22 = .ok (.getfield 28, 3) := by decide +kernel
theorem dX12_move_25 : decode cX12_move 25 = .ok (.iload_n 1, 1) := by decide +kernel
theorem dX12_move_26 : decode cX12_move 26 = .ok (.iaload, 1) := by decide +kernel
theorem dX12_move_27 : decode cX12_move 27 = .ok (.ifCond .eq 12, 3) := by decide +kernel
theorem dX12_move_30 : decode cX12_move 30 = .ok (.aload_n 0, 1) := by decide +kernel
theorem dX12_move_31 : decode cX12_move 31 = .ok (.getfield 28, 3) := by decide +kernel
theorem dX12_move_34 : decode cX12_move 34 = .ok (.iload_n 3, 1) := by decide +kernel
theorem dX12_move_35 : decode cX12_move 35 = .ok (.iaload, 1) := by decide +kernel
theorem dX12_move_36 : decode cX12_move 36 = .ok (.ifCond .ne 10, 3) := by decide +kernel
theorem dX12_move_39 : decode cX12_move 39 = .ok (.aload_n 0, 1) := by decide +kernel
theorem dX12_move_40 : decode cX12_move 40 = .ok (.ldc 211, 2) := by decide +kernel
theorem dX12_move_42 : decode cX12_move 42 = .ok (.invokevirtual 56, 3) := by decide +kernel
theorem dX12_move_45 : decode cX12_move 45 = .ok (.ireturn, 1) := by decide +kernel
theorem dX12_move_46 : decode cX12_move 46 = .ok (.aload_n 0, 1) := by decide +kernel
theorem dX12_move_47 : decode cX12_move 47 = .ok (.getfield 28, 3) := by decide +kernel
theorem dX12_move_50 : decode cX12_move 50 = .ok (.iload_n 1, 1) := by decide +kernel
theorem dX12_move_51 : decode cX12_move 51 = .ok (.iaload, 1) := by decide +kernel
theorem dX12_move_52 : decode cX12_move 52 = .ok (.aload_n 0, 1) := by decide +kernel
theorem dX12_move_53 : decode cX12_move 53 = .ok (.getfield 28, 3) := by decide +kernel
theorem dX12_move_56 : decode cX12_move 56 = .ok (.iload_n 3, 1) := by decide +kernel
theorem dX12_move_57 : decode cX12_move 57 = .ok (.iaload, 1) := by decide +kernel
theorem dX12_move_58 : decode cX12_move 58 = .ok (.if_icmp .eq 10, 3) := by decide +kernel
theorem dX12_move_61 : decode cX12_move 61 = .ok (.aload_n 0, 1) := by decide +kernel
theorem dX12_move_62 : decode cX12_move 62 = .ok (.ldc 116, 2) := by decide +kernel
theorem dX12_move_64 : decode cX12_move 64 = .ok (.invokevirtual 56, 3) := by decide +kernel
theorem dX12_move_67 : decode cX12_move 67 = .ok (.ireturn, 1) := by decide +kernel
theorem dX12_move_68 : decode cX12_move 68 = .ok (.iload 5, 2) := by decide +kernel
theorem dX12_move_70 : decode cX12_move 70 = .ok (.ifCond .lt 39, 3) := by decide +kernel
theorem dX12_move_73 : decode cX12_move 73 = .ok (.iload_n 2, 1) := by decide +kernel
theorem dX12_move_74 : decode cX12_move 74 = .ok (.ifCond .lt 35, 3) := by decide +kernel
theorem dX12_move_77 : decode cX12_move 77 = .ok (.iload 4, 2) := by decide +kernel
theorem dX12_move_79 : decode cX12_move 79 = .ok (.ifCond .lt 30, 3) := by decide +kernel
theorem dX12_move_82 : decode cX12_move 82 = .ok (.iload_n 2, 1) := by decide +kernel
theorem dX12_move_83 : decode cX12_move 83 = .ok (.aload_n 0, 1) := by decide +kernel
theorem dX12_move_84 : decode cX12_move 84 = .ok (.getfield 31, 3) := by decide +kernel
theorem dX12_move_87 : decode cX12_move 87 = .ok (.iload_n 1, 1) := by decide +kernel
theorem dX12_move_88 : decode cX12_move 88 = .ok (.iaload, 1) := by decide +kernel
theorem dX12_move_89 : decode cX12_move 89 = .ok (.iload 5, 2) := by decide +kernel
theorem dX12_move_91 : decode cX12_move 91 = .ok (.isub, 1) := by decide +kernel
theorem dX12_move_92 : decode cX12_move 92 = .ok (.if_icmp .gt 17, 3) := by decide +kernel
theorem dX12_move_95 : decode cX12_move 95 = .ok (.iload 4, 2) := by decide +kernel
theorem dX12_move_97 : decode cX12_move 97 = .ok (.aload_n 0, 1) := by decide +kernel
theorem dX12_move_98 : decode cX12_move 98 = .ok (.getfield 31, 3) := by decide +kernel
theorem dX12_move_101 : decode cX12_move 101 = .ok (.iload_n 3, 1) := by decide +kernel
theorem dX12_move_102 : decode cX12_move 102 = .ok (.iaload, 1) := by decide +kernel
theorem dX12_move_103 : decode cX12_move 103 = .ok (.iload 5, 2) := by decide +kernel
theorem dX12_move_105 : decode cX12_move 105 = .ok (.isub, 1) := by decide +kernel
theorem dX12_move_106 : decode cX12_move 106 = .ok (.if_icmp .le 10, 3) := by decide +kernel
theorem dX12_move_109 : decode cX12_move 109 = .ok (.aload_n 0, 1) := by decide +kernel
theorem dX12_move_110 : decode cX12_move 110 = .ok (.ldc 55, 2) := by decide +kernel
theorem dX12_move_112 : decode cX12_move 112 = .ok (.invokevirtual 56, 3) := by decide +kernel
theorem dX12_move_115 : decode cX12_move 115 = .ok (.ireturn, 1) := by decide +kernel
theorem dX12_move_116 : decode cX12_move 116 = .ok (.iconst 0, 1) := by decide +kernel
theorem dX12_move_117 : decode cX12_move 117 = .ok (.istore 6, 2) := by decide +kernel
theorem dX12_move_119 : decode cX12_move 119 = .ok (.iload 6, 2) := by decide +kernel
theorem dX12_move_121 : decode cX12_move 121 = .ok (.iload 5, 2) := by decide +kernel
theorem dX12_move_123 : decode cX12_move 123 = .ok (.if_icmp .ge 30, 3) := by decide +kernel
theorem dX12_move_126 : decode cX12_move 126 = .ok (.aload_n 0, 1) := by decide +kernel
theorem dX12_move_127 : decode cX12_move 127 = .ok (.getfield 37, 3) := by decide +kernel
theorem dX12_move_130 : decode cX12_move 130 = .ok (.iload 6, 2) := by decide +kernel
theorem dX12_move_132 : decode cX12_move 132 = .ok (.aload_n 0, 1) := by decide +kernel
theorem dX12_move_133 : decode cX12_move 133 = .ok (.getfield 34, 3) := by decide +kernel
theorem dX12_move_136 : decode cX12_move 136 = .ok (.bipush 40, 2) := by decide +kernel
theorem dX12_move_138 : decode cX12_move 138 = .ok (.iload_n 1, 1) := by decide +kernel
theorem dX12_move_139 : decode cX12_move 139 = .ok (.imul, 1) := by decide +kernel
theorem dX12_move_140 : decode cX12_move 140 = .ok (.iload_n 2, 1) := by decide +kernel
theorem dX12_move_141 : decode cX12_move 141 = .ok (.iadd, 1) := by decide +kernel
theorem dX12_move_142 : decode cX12_move 142 = .ok (.iload 6, 2) := by decide +kernel
theorem dX12_move_144 : decode cX12_move 144 = .ok (.iadd, 1) := by decide +kernel
theorem dX12_move_145 : decode cX12_move 145 = .ok (.iaload, 1) := by decide +kernel
theorem dX12_move_146 : decode cX12_move 146 = .ok (.iastore, 1) := by decide +kernel
theorem dX12_move_147 : decode cX12_move 147 = .ok (.iinc 6 1, 3) := by decide +kernel
theorem dX12_move_150 : decode cX12_move 150 = .ok (.goto (-31), 3) := by decide +kernel
theorem dX12_move_153 : decode cX12_move 153 = .ok (.iconst 0, 1) := by decide +kernel
theorem dX12_move_154 : decode cX12_move 154 = .ok (.istore 6, 2) := by decide +kernel
theorem dX12_move_156 : decode cX12_move 156 = .ok (.iload 6, 2) := by decide +kernel
theorem dX12_move_158 : decode cX12_move 158 = .ok (.iload 5, 2) := by decide +kernel
theorem dX12_move_160 : decode cX12_move 160 = .ok (.if_icmp .ge 31, 3) := by decide +kernel
theorem dX12_move_163 : decode cX12_move 163 = .ok (.aload_n 0, 1) := by decide +kernel
theorem dX12_move_164 : decode cX12_move 164 = .ok (.getfield 34, 3) := by decide +kernel
theorem dX12_move_167 : decode cX12_move 167 = .ok (.bipush 40, 2) := by decide +kernel
theorem dX12_move_169 : decode cX12_move 169 = .ok (.iload_n 3, 1) := by decide +kernel
theorem dX12_move_170 : decode cX12_move 170 = .ok (.imul, 1) := by decide +kernel
theorem dX12_move_171 : decode cX12_move 171 = .ok (.iload 4, 2) := by decide +kernel
theorem dX12_move_173 : decode cX12_move 173 = .ok (.iadd, 1) := by decide +kernel
theorem dX12_move_174 : decode cX12_move 174 = .ok (.iload 6, 2) := by decide +kernel
theorem dX12_move_176 : decode cX12_move 176 = .ok (.iadd, 1) := by decide +kernel
theorem dX12_move_177 : decode cX12_move 177 = .ok (.aload_n 0, 1) := by decide +kernel
theorem dX12_move_178 : decode cX12_move 178 = .ok (.getfield 37, 3) := by decide +kernel
theorem dX12_move_181 : decode cX12_move 181 = .ok (.iload 6, 2) := by decide +kernel
theorem dX12_move_183 : decode cX12_move 183 = .ok (.iaload, 1) := by decide +kernel
theorem dX12_move_184 : decode cX12_move 184 = .ok (.iastore, 1) := by decide +kernel
theorem dX12_move_185 : decode cX12_move 185 = .ok (.iinc 6 1, 3) := by decide +kernel
theorem dX12_move_188 : decode cX12_move 188 = .ok (.goto (-32), 3) := by decide +kernel
theorem dX12_move_191 : decode cX12_move 191 = .ok (.iload 5, 2) := by decide +kernel
theorem dX12_move_193 : decode cX12_move 193 = .ok (.ireturn, 1) := by decide +kernel
theorem dX12_stories_0 : decode cX12_stories 0 = .ok (.iload_n 1, 1) := by decide +kernel
theorem dX12_stories_1 : decode cX12_stories 1 = .ok (.invokestatic 212, 3) := by decide +kernel
theorem dX12_stories_4 : decode cX12_stories 4 = .ok (.ifCond .ne 10, 3) := by decide +kernel
theorem dX12_stories_7 : decode cX12_stories 7 = .ok (.aload_n 0, 1) := by decide +kernel
theorem dX12_stories_8 : decode cX12_stories 8 = .ok (.ldc 55, 2) := by decide +kernel
theorem dX12_stories_10 : decode cX12_stories 10 = .ok (.invokevirtual 56, 3) := by decide +kernel
theorem dX12_stories_13 : decode cX12_stories 13 = .ok (.ireturn, 1) := by decide +kernel
theorem dX12_stories_14 : decode cX12_stories 14 = .ok (.aload_n 0, 1) := by decide +kernel
theorem dX12_stories_15 : decode cX12_stories 15 = .ok (.getfield 28, 3) := by decide +kernel
theorem dX12_stories_18 : decode cX12_stories 18 = .ok (.iload_n 1, 1) := by decide +kernel
theorem dX12_stories_19 : decode cX12_stories 19 = .ok (.iaload, 1) := by decide +kernel
theorem dX12_stories_20 : decode cX12_stories 20 = .ok (.ifCond .ne 10, 3) := by decide +kernel
theorem dX12_stories_23 : decode cX12_stories 23 = .ok (.aload_n 0, 1) := by decide +kernel
theorem dX12_stories_24 : decode cX12_stories 24 = .ok (.ldc 211, 2) := by decide +kernel
theorem dX12_stories_26 : decode cX12_stories 26 = .ok (.invokevirtual 56, 3) := by decide +kernel
theorem dX12_stories_29 : decode cX12_stories 29 = .ok (.ireturn, 1) := by decide +kernel
theorem dX12_stories_30 : decode cX12_stories 30 = .ok (.iconst 0, 1) := by decide +kernel
theorem dX12_stories_31 : decode cX12_stories 31 = .ok (.istore_n 2, 1) := by decide +kernel
theorem dX12_stories_32 : decode cX12_stories 32 = .ok (.iload_n 2, 1) := by decide +kernel
theorem dX12_stories_33 : decode cX12_stories 33 = .ok (.aload_n 0, 1) := by decide +kernel
theorem dX12_stories_34 : decode cX12_stories 34 = .ok (.getfield 31, 3) := by decide +kernel
theorem dX12_stories_37 : decode cX12_stories 37 = .ok (.iload_n 1, 1) := by decide +kernel
theorem dX12_stories_38 : decode cX12_stories 38 = .ok (.iaload, 1) := by decide +kernel
theorem dX12_stories_39 : decode cX12_stories 39 = .ok (.if_icmp .ge 64, 3) := by decide +kernel
theorem dX12_stories_42 : decode cX12_stories 42 = .ok (.iload_n 2, 1) := by decide +kernel
theorem dX12_stories_43 : decode cX12_stories 43 = .ok (.aload_n 0, 1) := by decide +kernel
theorem dX12_stories_44 : decode cX12_stories 44 = .ok (.getfield 7, 3) := by decide +kernel
theorem dX12_stories_47 : decode cX12_stories 47 = .ok (.iconst 3, 1) := by decide +kernel
theorem dX12_stories_48 : decode cX12_stories 48 = .ok (.iaload, 1) := by decide +kernel
theorem dX12_stories_49 : decode cX12_stories 49 = .ok (.if_icmp .ge 54, 3) := by decide +kernel
theorem dX12_stories_52 : decode cX12_stories 52 = .ok (.aload_n 0, 1) := by decide +kernel
theorem dX12_stories_53 : decode cX12_stories 53 = .ok (.getfield 34, 3) := by decide +kernel
theorem dX12_stories_56 : decode cX12_stories 56 = .ok (.bipush 40, 2) := by decide +kernel
theorem dX12_stories_58 : decode cX12_stories 58 = .ok (.iload_n 1, 1) := by decide +kernel
theorem dX12_stories_59 : decode cX12_stories 59 = .ok (.imul, 1) := by decide +kernel
theorem dX12_stories_60 : decode cX12_stories 60 = .ok (.iload_n 2, 1) := by decide +kernel
theorem dX12_stories_61 : decode cX12_stories 61 = .ok (.iadd, 1) := by decide +kernel
theorem dX12_stories_62 : decode cX12_stories 62 = .ok (.iaload, 1) := by decide +kernel
theorem dX12_stories_63 : decode cX12_stories 63 = .ok (.iconst 0, 1) := by decide +kernel
theorem dX12_stories_64 : decode cX12_stories 64 = .ok (.sipush 6560, 3) := by decide +kernel
theorem dX12_stories_67 : decode cX12_stories 67 = .ok (.invokestatic 47, 3) := by decide +kernel
theorem dX12_stories_70 : decode cX12_stories 70 = .ok (.ifCond .eq 33, 3) := by decide +kernel
theorem dX12_stories_73 : decode cX12_stories 73 = .ok (.aload_n 0, 1) := by decide +kernel
theorem dX12_stories_74 : decode cX12_stories 74 = .ok (.getfield 7, 3) := by decide +kernel
theorem dX12_stories_77 : decode cX12_stories 77 = .ok (.bipush 18, 2) := by decide +kernel
theorem dX12_stories_79 : decode cX12_stories 79 = .ok (.iconst 3, 1) := by decide +kernel
theorem dX12_stories_80 : decode cX12_stories 80 = .ok (.iload_n 2, 1) := by decide +kernel
theorem dX12_stories_81 : decode cX12_stories 81 = .ok (.imul, 1) := by decide +kernel
theorem dX12_stories_82 : decode cX12_stories 82 = .ok (.iadd, 1) := by decide +kernel
theorem dX12_stories_83 : decode cX12_stories 83 = .ok (.iconst 2, 1) := by decide +kernel
theorem dX12_stories_84 : decode cX12_stories 84 = .ok (.iadd, 1) := by decide +kernel
theorem dX12_stories_85 : decode cX12_stories 85 = .ok (.aload_n 0, 1) := by decide +kernel
theorem dX12_stories_86 : decode cX12_stories 86 = .ok (.getfield 34, 3) := by decide +kernel
theorem dX12_stories_89 : decode cX12_stories 89 = .ok (.bipush 40, 2) := by decide +kernel
theorem dX12_stories_91 : decode cX12_stories 91 = .ok (.iload_n 1, 1) := by decide +kernel
theorem dX12_stories_92 : decode cX12_stories 92 = .ok (.imul, 1) := by decide +kernel
theorem dX12_stories_93 : decode cX12_stories 93 = .ok (.iload_n 2, 1) := by decide +kernel
theorem dX12_stories_94 : decode cX12_stories 94 = .ok (.iadd, 1) := by decide +kernel
theorem dX12_stories_95 : decode cX12_stories 95 = .ok (.iaload, 1) := by decide +kernel
theorem dX12_stories_96 : decode cX12_stories 96 = .ok (.iastore, 1) := by decide +kernel
theorem dX12_stories_97 : decode cX12_stories 97 = .ok (.iinc 2 1, 3) := by decide +kernel
theorem dX12_stories_100 : decode cX12_stories 100 = .ok (.goto (-68), 3) := by decide +kernel
theorem dX12_stories_103 : decode cX12_stories 103 = .ok (.iload_n 2, 1) := by decide +kernel
theorem dX12_stories_104 : decode cX12_stories 104 = .ok (.ireturn, 1) := by decide +kernel
theorem dX12_judge_0 : decode cX12_judge 0 = .ok (.iload_n 1, 1) := by decide +kernel
theorem dX12_judge_1 : decode cX12_judge 1 = .ok (.invokestatic 212, 3) := by decide +kernel
theorem dX12_judge_4 : decode cX12_judge 4 = .ok (.ifCond .ne 10, 3) := by decide +kernel
theorem dX12_judge_7 : decode cX12_judge 7 = .ok (.aload_n 0, 1) := by decide +kernel
theorem dX12_judge_8 : decode cX12_judge 8 = .ok (.ldc 55, 2) := by decide +kernel
theorem dX12_judge_10 : decode cX12_judge 10 = .ok (.invokevirtual 56, 3) := by decide +kernel
theorem dX12_judge_13 : decode cX12_judge 13 = .ok (.ireturn, 1) := by decide +kernel
theorem dX12_judge_14 : decode cX12_judge 14 = .ok (.aload_n 0, 1) := by decide +kernel
theorem dX12_judge_15 : decode cX12_judge 15 = .ok (.getfield 28, 3) := by decide +kernel
theorem dX12_judge_18 : decode cX12_judge 18 = .ok (.iload_n 1, 1) := by decide +kernel
theorem dX12_judge_19 : decode cX12_judge 19 = .ok (.iaload, 1) := by decide +kernel
theorem dX12_judge_20 : decode cX12_judge 20 = .ok (.ifCond .ne 10, 3) := by decide +kernel
theorem dX12_judge_23 : decode cX12_judge 23 = .ok (.aload_n 0, 1) := by decide +kernel
theorem dX12_judge_24 : decode cX12_judge 24 = .ok (.ldc 211, 2) := by decide +kernel
theorem dX12_judge_26 : decode cX12_judge 26 = .ok (.invokevirtual 56, 3) := by decide +kernel
theorem dX12_judge_29 : decode cX12_judge 29 = .ok (.ireturn, 1) := by decide +kernel
theorem dX12_judge_30 : decode cX12_judge 30 = .ok (.iconst 0, 1) := by decide +kernel
theorem dX12_judge_31 : decode cX12_judge 31 = .ok (.istore_n 2, 1) := by decide +kernel
theorem dX12_judge_32 : decode cX12_judge 32 = .ok (.iload_n 2, 1) := by decide +kernel
theorem dX12_judge_33 : decode cX12_judge 33 = .ok (.aload_n 0, 1) := by decide +kernel
theorem dX12_judge_34 : decode cX12_judge 34 = .ok (.getfield 31, 3) := by decide +kernel
theorem dX12_judge_37 : decode cX12_judge 37 = .ok (.iload_n 1, 1) := by decide +kernel
theorem dX12_judge_38 : decode cX12_judge 38 = .ok (.iaload, 1) := by decide +kernel
theorem dX12_judge_39 : decode cX12_judge 39 = .ok (.if_icmp .ge 38, 3) := by decide +kernel
theorem dX12_judge_42 : decode cX12_judge 42 = .ok (.iload_n 2, 1) := by decide +kernel
theorem dX12_judge_43 : decode cX12_judge 43 = .ok (.aload_n 0, 1) := by decide +kernel
theorem dX12_judge_44 : decode cX12_judge 44 = .ok (.getfield 7, 3) := by decide +kernel
theorem dX12_judge_47 : decode cX12_judge 47 = .ok (.iconst 3, 1) := by decide +kernel
theorem dX12_judge_48 : decode cX12_judge 48 = .ok (.iaload, 1) := by decide +kernel
theorem dX12_judge_49 : decode cX12_judge 49 = .ok (.if_icmp .ge 28, 3) := by decide +kernel
theorem dX12_judge_52 : decode cX12_judge 52 = .ok (.aload_n 0, 1) := by decide +kernel
theorem dX12_judge_53 : decode cX12_judge 53 = .ok (.getfield 34, 3) := by decide +kernel
theorem dX12_judge_56 : decode cX12_judge 56 = .ok (.bipush 40, 2) := by decide +kernel
theorem dX12_judge_58 : decode cX12_judge 58 = .ok (.iload_n 1, 1) := by decide +kernel
theorem dX12_judge_59 : decode cX12_judge 59 = .ok (.imul, 1) := by decide +kernel
theorem dX12_judge_60 : decode cX12_judge 60 = .ok (.iload_n 2, 1) := by decide +kernel
theorem dX12_judge_61 : decode cX12_judge 61 = .ok (.iadd, 1) := by decide +kernel
theorem dX12_judge_62 : decode cX12_judge 62 = .ok (.iaload, 1) := by decide +kernel
theorem dX12_judge_63 : decode cX12_judge 63 = .ok (.aload_n 0, 1) := by decide +kernel
theorem dX12_judge_64 : decode cX12_judge 64 = .ok (.iload_n 2, 1) := by decide +kernel
theorem dX12_judge_65 : decode cX12_judge 65 = .ok (.invokevirtual 103, 3) := by decide +kernel
theorem dX12_judge_68 : decode cX12_judge 68 = .ok (.if_icmp .ne 9, 3) := by decide +kernel
theorem dX12_judge_71 : decode cX12_judge 71 = .ok (.iinc 2 1, 3) := by decide +kernel
theorem dX12_judge_74 : decode cX12_judge 74 = .ok (.goto (-42), 3) := by decide +kernel
theorem dX12_judge_77 : decode cX12_judge 77 = .ok (.iload_n 2, 1) := by decide +kernel
theorem dX12_judge_78 : decode cX12_judge 78 = .ok (.aload_n 0, 1) := by decide +kernel
theorem dX12_judge_79 : decode cX12_judge 79 = .ok (.getfield 31, 3) := by decide +kernel
theorem dX12_judge_82 : decode cX12_judge 82 = .ok (.iload_n 1, 1) := by decide +kernel
theorem dX12_judge_83 : decode cX12_judge 83 = .ok (.iaload, 1) := by decide +kernel
theorem dX12_judge_84 : decode cX12_judge 84 = .ok (.if_icmp .ne 17, 3) := by decide +kernel
theorem dX12_judge_87 : decode cX12_judge 87 = .ok (.iload_n 2, 1) := by decide +kernel
theorem dX12_judge_88 : decode cX12_judge 88 = .ok (.aload_n 0, 1) := by decide +kernel
theorem dX12_judge_89 : decode cX12_judge 89 = .ok (.getfield 7, 3) := by decide +kernel
theorem dX12_judge_92 : decode cX12_judge 92 = .ok (.iconst 3, 1) := by decide +kernel
theorem dX12_judge_93 : decode cX12_judge 93 = .ok (.iaload, 1) := by decide +kernel
theorem dX12_judge_94 : decode cX12_judge 94 = .ok (.if_icmp .ne 7, 3) := by decide +kernel
theorem dX12_judge_97 : decode cX12_judge 97 = .ok (.iconst (-1), 1) := by decide +kernel
theorem dX12_judge_98 : decode cX12_judge 98 = .ok (.goto 4, 3) := by decide +kernel
theorem dX12_judge_101 : decode cX12_judge 101 = .ok (.iload_n 2, 1) := by decide +kernel
theorem dX12_judge_102 : decode cX12_judge 102 = .ok (.ireturn, 1) := by decide +kernel
theorem dX12_image_0 : decode cX12_image 0 = .ok (.aload_n 0, 1) := by decide +kernel
theorem dX12_image_1 : decode cX12_image 1 = .ok (.aload_n 0, 1) := by decide +kernel
theorem dX12_image_2 : decode cX12_image 2 = .ok (.getfield 7, 3) := by decide +kernel
theorem dX12_image_5 : decode cX12_image 5 = .ok (.aload_n 0, 1) := by decide +kernel
theorem dX12_image_6 : decode cX12_image 6 = .ok (.getfield 13, 3) := by decide +kernel
theorem dX12_image_9 : decode cX12_image 9 = .ok (.invokevirtual 180, 3) := by decide +kernel
theorem dX12_image_12 : decode cX12_image 12 = .ok (.aload_n 0, 1) := by decide +kernel
theorem dX12_image_13 : decode cX12_image 13 = .ok (.iconst 1, 1) := by decide +kernel
theorem dX12_image_14 : decode cX12_image 14 = .ok (.putfield 251, 3) := by decide +kernel
theorem dX12_image_17 : decode cX12_image 17 = .ok (.aload_n 0, 1) := by decide +kernel
theorem dX12_image_18 : decode cX12_image 18 = .ok (.dup, 1) := by decide +kernel
theorem dX12_image_19 : decode cX12_image 19 = .ok (.getfield 254, 3) := by decide +kernel
theorem dX12_image_22 : decode cX12_image 22 = .ok (.iconst 1, 1) := by decide +kernel
theorem dX12_image_23 : decode cX12_image 23 = .ok (.iadd, 1) := by decide +kernel
theorem dX12_image_24 : decode cX12_image 24 = .ok (.putfield 254, 3) := by decide +kernel
theorem dX12_image_27 : decode cX12_image 27 = .ok (.aload_n 0, 1) := by decide +kernel
theorem dX12_image_28 : decode cX12_image 28 = .ok (.getfield 254, 3) := by decide +kernel
theorem dX12_image_31 : decode cX12_image 31 = .ok (.ireturn, 1) := by decide +kernel
theorem dX12_restore_0 : decode cX12_restore 0 = .ok (.aload_n 0, 1) := by decide +kernel
theorem dX12_restore_1 : decode cX12_restore 1 = .ok (.getfield 251, 3) := by decide +kernel
theorem dX12_restore_4 : decode cX12_restore 4 = .ok (.ifCond .ne 10, 3) := by decide +kernel
theorem dX12_restore_7 : decode cX12_restore 7 = .ok (.aload_n 0, 1) := by decide +kernel
theorem dX12_restore_8 : decode cX12_restore 8 = .ok (.ldc 211, 2) := by decide +kernel
theorem dX12_restore_10 : decode cX12_restore 10 = .ok (.invokevirtual 56, 3) := by decide +kernel
theorem dX12_restore_13 : decode cX12_restore 13 = .ok (.ireturn, 1) := by decide +kernel
theorem dX12_restore_14 : decode cX12_restore 14 = .ok (.aload_n 0, 1) := by decide +kernel
theorem dX12_restore_15 : decode cX12_restore 15 = .ok (.aload_n 0, 1) := by decide +kernel
theorem dX12_restore_16 : decode cX12_restore 16 = .ok (.getfield 13, 3) := by decide +kernel
theorem dX12_restore_19 : decode cX12_restore 19 = .ok (.aload_n 0, 1) := by decide +kernel
theorem dX12_restore_20 : decode cX12_restore 20 = .ok (.getfield 7, 3) := by decide +kernel
theorem dX12_restore_23 : decode cX12_restore 23 = .ok (.invokevirtual 180, 3) := by decide +kernel
theorem dX12_restore_26 : decode cX12_restore 26 = .ok (.aload_n 0, 1) := by decide +kernel
theorem dX12_restore_27 : decode cX12_restore 27 = .ok (.getfield 7, 3) := by decide +kernel
theorem dX12_restore_30 : decode cX12_restore 30 = .ok (.iconst 0, 1) := by decide +kernel
theorem dX12_restore_31 : decode cX12_restore 31 = .ok (.iaload, 1) := by decide +kernel
theorem dX12_restore_32 : decode cX12_restore 32 = .ok (.ireturn, 1) := by decide +kernel
theorem dX12_tell_0 : decode cX12_tell 0 = .ok (.aload_n 0, 1) := by decide +kernel
theorem dX12_tell_1 : decode cX12_tell 1 = .ok (.getfield 7, 3) := by decide +kernel
theorem dX12_tell_4 : decode cX12_tell 4 = .ok (.iconst 5, 1) := by decide +kernel
theorem dX12_tell_5 : decode cX12_tell 5 = .ok (.iaload, 1) := by decide +kernel
theorem dX12_tell_6 : decode cX12_tell 6 = .ok (.bipush 20, 2) := by decide +kernel
theorem dX12_tell_8 : decode cX12_tell 8 = .ok (.if_icmp .ne 10, 3) := by decide +kernel
theorem dX12_tell_11 : decode cX12_tell 11 = .ok (.aload_n 0, 1) := by decide +kernel
theorem dX12_tell_12 : decode cX12_tell 12 = .ok (.ldc 64, 2) := by decide +kernel
theorem dX12_tell_14 : decode cX12_tell 14 = .ok (.invokevirtual 56, 3) := by decide +kernel
theorem dX12_tell_17 : decode cX12_tell 17 = .ok (.ireturn, 1) := by decide +kernel
theorem dX12_tell_18 : decode cX12_tell 18 = .ok (.aload_n 0, 1) := by decide +kernel
theorem dX12_tell_19 : decode cX12_tell 19 = .ok (.getfield 7, 3) := by decide +kernel
theorem dX12_tell_22 : decode cX12_tell 22 = .ok (.bipush 86, 2) := by decide +kernel
theorem dX12_tell_24 : decode cX12_tell 24 = .ok (.aload_n 0, 1) := by decide +kernel
theorem dX12_tell_25 : decode cX12_tell 25 = .ok (.getfield 7, 3) := by decide +kernel
theorem dX12_tell_28 : decode cX12_tell 28 = .ok (.iconst 5, 1) := by decide +kernel
theorem dX12_tell_29 : decode cX12_tell 29 = .ok (.iaload, 1) := by decide +kernel
theorem dX12_tell_30 : decode cX12_tell 30 = .ok (.iadd, 1) := by decide +kernel
theorem dX12_tell_31 : decode cX12_tell 31 = .ok (.iload_n 1, 1) := by decide +kernel
theorem dX12_tell_32 : decode cX12_tell 32 = .ok (.iastore, 1) := by decide +kernel
theorem dX12_tell_33 : decode cX12_tell 33 = .ok (.aload_n 0, 1) := by decide +kernel
theorem dX12_tell_34 : decode cX12_tell 34 = .ok (.getfield 7, 3) := by decide +kernel
theorem dX12_tell_37 : decode cX12_tell 37 = .ok (.iconst 5, 1) := by decide +kernel
theorem dX12_tell_38 : decode cX12_tell 38 = .ok (.dup2, 1) := by decide +kernel
theorem dX12_tell_39 : decode cX12_tell 39 = .ok (.iaload, 1) := by decide +kernel
theorem dX12_tell_40 : decode cX12_tell 40 = .ok (.iconst 1, 1) := by decide +kernel
theorem dX12_tell_41 : decode cX12_tell 41 = .ok (.iadd, 1) := by decide +kernel
theorem dX12_tell_42 : decode cX12_tell 42 = .ok (.iastore, 1) := by decide +kernel
theorem dX12_tell_43 : decode cX12_tell 43 = .ok (.aload_n 0, 1) := by decide +kernel
theorem dX12_tell_44 : decode cX12_tell 44 = .ok (.getfield 7, 3) := by decide +kernel
theorem dX12_tell_47 : decode cX12_tell 47 = .ok (.iconst 5, 1) := by decide +kernel
theorem dX12_tell_48 : decode cX12_tell 48 = .ok (.iaload, 1) := by decide +kernel
theorem dX12_tell_49 : decode cX12_tell 49 = .ok (.ireturn, 1) := by decide +kernel
theorem dX12_check_0 : decode cX12_check 0 = .ok (.aload_n 0, 1) := by decide +kernel
theorem dX12_check_1 : decode cX12_check 1 = .ok (.getfield 7, 3) := by decide +kernel
theorem dX12_check_4 : decode cX12_check 4 = .ok (.iconst 5, 1) := by decide +kernel
theorem dX12_check_5 : decode cX12_check 5 = .ok (.iaload, 1) := by decide +kernel
theorem dX12_check_6 : decode cX12_check 6 = .ok (.istore_n 1, 1) := by decide +kernel
theorem dX12_check_7 : decode cX12_check 7 = .ok (.aload_n 0, 1) := by decide +kernel
theorem dX12_check_8 : decode cX12_check 8 = .ok (.getfield 7, 3) := by decide +kernel
theorem dX12_check_11 : decode cX12_check 11 = .ok (.iconst 5, 1) := by decide +kernel
theorem dX12_check_12 : decode cX12_check 12 = .ok (.iconst 0, 1) := by decide +kernel
theorem dX12_check_13 : decode cX12_check 13 = .ok (.iastore, 1) := by decide +kernel
theorem dX12_check_14 : decode cX12_check 14 = .ok (.aload_n 0, 1) := by decide +kernel
theorem dX12_check_15 : decode cX12_check 15 = .ok (.aload_n 0, 1) := by decide +kernel
theorem dX12_check_16 : decode cX12_check 16 = .ok (.getfield 7, 3) := by decide +kernel
theorem dX12_check_19 : decode cX12_check 19 = .ok (.aload_n 0, 1) := by decide +kernel
theorem dX12_check_20 : decode cX12_check 20 = .ok (.getfield 16, 3) := by decide +kernel
theorem dX12_check_23 : decode cX12_check 23 = .ok (.invokevirtual 180, 3) := by decide +kernel
theorem dX12_check_26 : decode cX12_check 26 = .ok (.iconst 0, 1) := by decide +kernel
theorem dX12_check_27 : decode cX12_check 27 = .ok (.istore_n 2, 1) := by decide +kernel
theorem dX12_check_28 : decode cX12_check 28 = .ok (.iconst 1, 1) := by decide +kernel
theorem dX12_check_29 : decode cX12_check 29 = .ok (.istore_n 3, 1) := by decide +kernel
theorem dX12_check_30 : decode cX12_check 30 = .ok (.iload_n 2, 1) := by decide +kernel
theorem dX12_check_31 : decode cX12_check 31 = .ok (.iload_n 1, 1) := by decide +kernel
theorem dX12_check_32 : decode cX12_check 32 = .ok (.if_icmp .ge 48, 3) := by decide +kernel
theorem dX12_check_35 : decode cX12_check 35 = .ok (.iload_n 3, 1) := by decide +kernel
theorem dX12_check_36 : decode cX12_check 36 = .ok (.ifCond .eq 44, 3) := by decide +kernel
theorem dX12_check_39 : decode cX12_check 39 = .ok (.aload_n 0, 1) := by decide +kernel
theorem dX12_check_40 : decode cX12_check 40 = .ok (.invokevirtual 188, 3) := by decide +kernel
theorem dX12_check_43 : decode cX12_check 43 = .ok (.aload_n 0, 1) := by decide +kernel
theorem dX12_check_44 : decode cX12_check 44 = .ok (.invokevirtual 60, 3) := by decide +kernel
theorem dX12_check_47 : decode cX12_check 47 = .ok (.aload_n 0, 1) := by decide +kernel
theorem dX12_check_48 : decode cX12_check 48 = .ok (.getfield 7, 3) := by decide +kernel
theorem dX12_check_51 : decode cX12_check 51 = .ok (.bipush 86, 2) := by decide +kernel
theorem dX12_check_53 : decode cX12_check 53 = .ok (.iload_n 2, 1) := by decide +kernel
theorem dX12_check_54 : decode cX12_check 54 = .ok (.iadd, 1) := by decide +kernel
theorem dX12_check_55 : decode cX12_check 55 = .ok (.iaload, 1) := by decide +kernel
theorem dX12_check_56 : decode cX12_check 56 = .ok (.if_icmp .ne 7, 3) := by decide +kernel
theorem dX12_check_59 : decode cX12_check 59 = .ok (.iconst 1, 1) := by decide +kernel
theorem dX12_check_60 : decode cX12_check 60 = .ok (.goto 4, 3) := by decide +kernel
theorem dX12_check_63 : decode cX12_check 63 = .ok (.iconst 0, 1) := by decide +kernel
theorem dX12_check_64 : decode cX12_check 64 = .ok (.istore_n 3, 1) := by decide +kernel
theorem dX12_check_65 : decode cX12_check 65 = .ok (.iload_n 2, 1) := by decide +kernel
theorem dX12_check_66 : decode cX12_check 66 = .ok (.iload_n 3, 1) := by decide +kernel
theorem dX12_check_67 : decode cX12_check 67 = .ok (.ifCond .eq 7, 3) := by decide +kernel
theorem dX12_check_70 : decode cX12_check 70 = .ok (.iconst 1, 1) := by decide +kernel
theorem dX12_check_71 : decode cX12_check 71 = .ok (.goto 4, 3) := by decide +kernel
theorem dX12_check_74 : decode cX12_check 74 = .ok (.iconst 0, 1) := by decide +kernel
theorem dX12_check_75 : decode cX12_check 75 = .ok (.iadd, 1) := by decide +kernel
theorem dX12_check_76 : decode cX12_check 76 = .ok (.istore_n 2, 1) := by decide +kernel
theorem dX12_check_77 : decode cX12_check 77 = .ok (.goto (-47), 3) := by decide +kernel
theorem dX12_check_80 : decode cX12_check 80 = .ok (.aload_n 0, 1) := by decide +kernel
theorem dX12_check_81 : decode cX12_check 81 = .ok (.aload_n 0, 1) := by decide +kernel
theorem dX12_check_82 : decode cX12_check 82 = .ok (.getfield 16, 3) := by decide +kernel
theorem dX12_check_85 : decode cX12_check 85 = .ok (.aload_n 0, 1) := by decide +kernel
theorem dX12_check_86 : decode cX12_check 86 = .ok (.getfield 7, 3) := by decide +kernel
theorem dX12_check_89 : decode cX12_check 89 = .ok (.invokevirtual 180, 3) := by decide +kernel
theorem dX12_check_92 : decode cX12_check 92 = .ok (.iload_n 3, 1) := by decide +kernel
theorem dX12_check_93 : decode cX12_check 93 = .ok (.ifCond .eq 7, 3) := by decide +kernel
theorem dX12_check_96 : decode cX12_check 96 = .ok (.iconst 0, 1) := by decide +kernel
theorem dX12_check_97 : decode cX12_check 97 = .ok (.goto 6, 3) := by decide +kernel
theorem dX12_check_100 : decode cX12_check 100 = .ok (.iconst 1, 1) := by decide +kernel
theorem dX12_check_101 : decode cX12_check 101 = .ok (.iload_n 2, 1) := by decide +kernel
theorem dX12_check_102 : decode cX12_check 102 = .ok (.iadd, 1) := by decide +kernel
theorem dX12_check_103 : decode cX12_check 103 = .ok (.ireturn, 1) := by decide +kernel
theorem dX12_heardMany_0 : decode cX12_heardMany 0 = .ok (.iconst 0, 1) := by decide +kernel
theorem dX12_heardMany_1 : decode cX12_heardMany 1 = .ok (.istore_n 2, 1) := by decide +kernel
theorem dX12_heardMany_2 : decode cX12_heardMany 2 = .ok (.aload_n 0, 1) := by decide +kernel
theorem dX12_heardMany_3 : decode cX12_heardMany 3 = .ok (.invokevirtual 106, 3) := by decide +kernel
theorem dX12_heardMany_6 : decode cX12_heardMany 6 = .ok (.istore_n 3, 1) := by decide +kernel
theorem dX12_heardMany_7 : decode cX12_heardMany 7 = .ok (.iconst 0, 1) := by decide +kernel
theorem dX12_heardMany_8 : decode cX12_heardMany 8 = .ok (.istore 4, 2) := by decide +kernel
theorem dX12_heardMany_10 : decode cX12_heardMany 10 = .ok (.iload 4, 2) := by decide +kernel
theorem dX12_heardMany_12 : decode cX12_heardMany 12 = .ok (.bipush 8, 2) := by decide +kernel
theorem dX12_heardMany_14 : decode cX12_heardMany 14 = .ok (.if_icmp .ge 50, 3) := by decide +kernel
theorem dX12_heardMany_17 : decode cX12_heardMany 17 = .ok (.aload_n 0, 1) := by decide +kernel
theorem dX12_heardMany_18 : decode cX12_heardMany 18 = .ok (.getfield 7, 3) := by decide +kernel
theorem dX12_heardMany_21 : decode cX12_heardMany 21 = .ok (.bipush 10, 2) := by decide +kernel
theorem dX12_heardMany_23 : decode cX12_heardMany 23 = .ok (.iload 4, 2) := by decide +kernel
theorem dX12_heardMany_25 : decode cX12_heardMany 25 = .ok (.iadd, 1) := by decide +kernel
theorem dX12_heardMany_26 : decode cX12_heardMany 26 = .ok (.iaload, 1) := by decide +kernel
theorem dX12_heardMany_27 : decode cX12_heardMany 27 = .ok (.istore 5, 2) := by decide +kernel
theorem dX12_heardMany_29 : decode cX12_heardMany 29 = .ok (.iload_n 2, 1) := by decide +kernel
theorem dX12_heardMany_30 : decode cX12_heardMany 30 = .ok (.iload 5, 2) := by decide +kernel
theorem dX12_heardMany_32 : decode cX12_heardMany 32 = .ok (.ifCond .le 23, 3) := by decide +kernel
theorem dX12_heardMany_35 : decode cX12_heardMany 35 = .ok (.iload_n 1, 1) := by decide +kernel
theorem dX12_heardMany_36 : decode cX12_heardMany 36 = .ok (.ifCond .eq 15, 3) := by decide +kernel
theorem dX12_heardMany_39 : decode cX12_heardMany 39 = .ok (.iload 5, 2) := by decide +kernel
theorem dX12_heardMany_41 : decode cX12_heardMany 41 = .ok (.aload_n 0, 1) := by decide +kernel
theorem dX12_heardMany_42 : decode cX12_heardMany 42 = .ok (.iload_n 3, 1) := by decide +kernel
theorem dX12_heardMany_43 : decode cX12_heardMany 43 = .ok (.iload 4, 2) := by decide +kernel
theorem dX12_heardMany_45 : decode cX12_heardMany 45 = .ok (.invokevirtual 75, 3) := by decide +kernel
theorem dX12_heardMany_48 : decode cX12_heardMany 48 = .ok (.if_icmp .ne 7, 3) := by decide +kernel
theorem dX12_heardMany_51 : decode cX12_heardMany 51 = .ok (.iconst 1, 1) := by decide +kernel
theorem dX12_heardMany_52 : decode cX12_heardMany 52 = .ok (.goto 4, 3) := by decide +kernel
theorem dX12_heardMany_55 : decode cX12_heardMany 55 = .ok (.iconst 0, 1) := by decide +kernel
theorem dX12_heardMany_56 : decode cX12_heardMany 56 = .ok (.iadd, 1) := by decide +kernel
theorem dX12_heardMany_57 : decode cX12_heardMany 57 = .ok (.istore_n 2, 1) := by decide +kernel
theorem dX12_heardMany_58 : decode cX12_heardMany 58 = .ok (.iinc 4 1, 3) := by decide +kernel
theorem dX12_heardMany_61 : decode cX12_heardMany 61 = .ok (.goto (-51), 3) := by decide +kernel
theorem dX12_heardMany_64 : decode cX12_heardMany 64 = .ok (.iload_n 2, 1) := by decide +kernel
theorem dX12_heardMany_65 : decode cX12_heardMany 65 = .ok (.ireturn, 1) := by decide +kernel
theorem dX12_count_0 : decode cX12_count 0 = .ok (.iload_n 1, 1) := by decide +kernel
theorem dX12_count_1 : decode cX12_count 1 = .ok (.tableswitch 134 0 10 #[59, 66, 73, 80, 86, 92, 100, 108, 115, 122, 127], 59) := by decide +kernel
theorem dX12_count_60 : decode cX12_count 60 = .ok (.aload_n 0, 1) := by decide +kernel
theorem dX12_count_61 : decode cX12_count 61 = .ok (.getfield 7, 3) := by decide +kernel
theorem dX12_count_64 : decode cX12_count 64 = .ok (.iconst 3, 1) := by decide +kernel
theorem dX12_count_65 : decode cX12_count 65 = .ok (.iaload, 1) := by decide +kernel
theorem dX12_count_66 : decode cX12_count 66 = .ok (.ireturn, 1) := by decide +kernel
theorem dX12_count_67 : decode cX12_count 67 = .ok (.aload_n 0, 1) := by decide +kernel
theorem dX12_count_68 : decode cX12_count 68 = .ok (.getfield 7, 3) := by decide +kernel
theorem dX12_count_71 : decode cX12_count 71 = .ok (.iconst 0, 1) := by decide +kernel
theorem dX12_count_72 : decode cX12_count 72 = .ok (.iaload, 1) := by decide +kernel
theorem dX12_count_73 : decode cX12_count 73 = .ok (.ireturn, 1) := by decide +kernel
theorem dX12_count_74 : decode cX12_count 74 = .ok (.aload_n 0, 1) := by decide +kernel
theorem dX12_count_75 : decode cX12_count 75 = .ok (.getfield 7, 3) := by decide +kernel
theorem dX12_count_78 : decode cX12_count 78 = .ok (.iconst 1, 1) := by decide +kernel
theorem dX12_count_79 : decode cX12_count 79 = .ok (.iaload, 1) := by decide +kernel
theorem dX12_count_80 : decode cX12_count 80 = .ok (.ireturn, 1) := by decide +kernel
theorem dX12_count_81 : decode cX12_count 81 = .ok (.aload_n 0, 1) := by decide +kernel
theorem dX12_count_82 : decode cX12_count 82 = .ok (.iconst 0, 1) := by decide +kernel
theorem dX12_count_83 : decode cX12_count 83 = .ok (.invokevirtual 257, 3) := by decide +kernel
theorem dX12_count_86 : decode cX12_count 86 = .ok (.ireturn, 1) := by decide +kernel
theorem dX12_count_87 : decode cX12_count 87 = .ok (.aload_n 0, 1) := by decide +kernel
theorem dX12_count_88 : decode cX12_count 88 = .ok (.iconst 1, 1) := by decide +kernel
theorem dX12_count_89 : decode cX12_count 89 = .ok (.invokevirtual 257, 3) := by decide +kernel
theorem dX12_count_92 : decode cX12_count 92 = .ok (.ireturn, 1) := by decide +kernel
theorem dX12_count_93 : decode cX12_count 93 = .ok (.aload_n 0, 1) := by decide +kernel
theorem dX12_count_94 : decode cX12_count 94 = .ok (.getfield 7, 3) := by decide +kernel
theorem dX12_count_97 : decode cX12_count 97 = .ok (.bipush 9, 2) := by decide +kernel
theorem dX12_count_99 : decode cX12_count 99 = .ok (.iaload, 1) := by decide +kernel
theorem dX12_count_100 : decode cX12_count 100 = .ok (.ireturn, 1) := by decide +kernel
theorem dX12_count_101 : decode cX12_count 101 = .ok (.aload_n 0, 1) := by decide +kernel
theorem dX12_count_102 : decode cX12_count 102 = .ok (.getfield 7, 3) := by decide +kernel
theorem dX12_count_105 : decode cX12_count 105 = .ok (.bipush 8, 2) := by decide +kernel
theorem dX12_count_107 : decode cX12_count 107 = .ok (.iaload, 1) := by decide +kernel
theorem dX12_count_108 : decode cX12_count 108 = .ok (.ireturn, 1) := by decide +kernel
theorem dX12_count_109 : decode cX12_count 109 = .ok (.aload_n 0, 1) := by decide +kernel
theorem dX12_count_110 : decode cX12_count 110 = .ok (.getfield 7, 3) := by decide +kernel
theorem dX12_count_113 : decode cX12_count 113 = .ok (.iconst 4, 1) := by decide +kernel
theorem dX12_count_114 : decode cX12_count 114 = .ok (.iaload, 1) := by decide +kernel
theorem dX12_count_115 : decode cX12_count 115 = .ok (.ireturn, 1) := by decide +kernel
theorem dX12_count_116 : decode cX12_count 116 = .ok (.aload_n 0, 1) := by decide +kernel
theorem dX12_count_117 : decode cX12_count 117 = .ok (.getfield 7, 3) := by decide +kernel
theorem dX12_count_120 : decode cX12_count 120 = .ok (.iconst 5, 1) := by decide +kernel
theorem dX12_count_121 : decode cX12_count 121 = .ok (.iaload, 1) := by decide +kernel
theorem dX12_count_122 : decode cX12_count 122 = .ok (.ireturn, 1) := by decide +kernel
theorem dX12_count_123 : decode cX12_count 123 = .ok (.aload_n 0, 1) := by decide +kernel
theorem dX12_count_124 : decode cX12_count 124 = .ok (.getfield 221, 3) := by decide +kernel
theorem dX12_count_127 : decode cX12_count 127 = .ok (.ireturn, 1) := by decide +kernel
theorem dX12_count_128 : decode cX12_count 128 = .ok (.aload_n 0, 1) := by decide +kernel
theorem dX12_count_129 : decode cX12_count 129 = .ok (.getfield 7, 3) := by decide +kernel
theorem dX12_count_132 : decode cX12_count 132 = .ok (.iconst 2, 1) := by decide +kernel
theorem dX12_count_133 : decode cX12_count 133 = .ok (.iaload, 1) := by decide +kernel
theorem dX12_count_134 : decode cX12_count 134 = .ok (.ireturn, 1) := by decide +kernel
theorem dX12_count_135 : decode cX12_count 135 = .ok (.aload_n 0, 1) := by decide +kernel
theorem dX12_count_136 : decode cX12_count 136 = .ok (.ldc 55, 2) := by decide +kernel
theorem dX12_count_138 : decode cX12_count 138 = .ok (.invokevirtual 56, 3) := by decide +kernel
theorem dX12_count_141 : decode cX12_count 141 = .ok (.ireturn, 1) := by decide +kernel
theorem dX12_told_0 : decode cX12_told 0 = .ok (.iload_n 1, 1) := by decide +kernel
theorem dX12_told_1 : decode cX12_told 1 = .ok (.iconst 1, 1) := by decide +kernel
theorem dX12_told_2 : decode cX12_told 2 = .ok (.iconst 5, 1) := by decide +kernel
theorem dX12_told_3 : decode cX12_told 3 = .ok (.invokestatic 47, 3) := by decide +kernel
theorem dX12_told_6 : decode cX12_told 6 = .ok (.ifCond .eq 12, 3) := by decide +kernel
theorem dX12_told_9 : decode cX12_told 9 = .ok (.aload_n 0, 1) := by decide +kernel
theorem dX12_told_10 : decode cX12_told 10 = .ok (.getfield 25, 3) := by decide +kernel
theorem dX12_told_13 : decode cX12_told 13 = .ok (.iload_n 1, 1) := by decide +kernel
theorem dX12_told_14 : decode cX12_told 14 = .ok (.iaload, 1) := by decide +kernel
theorem dX12_told_15 : decode cX12_told 15 = .ok (.goto 9, 3) := by decide +kernel
theorem dX12_told_18 : decode cX12_told 18 = .ok (.aload_n 0, 1) := by decide +kernel
theorem dX12_told_19 : decode cX12_told 19 = .ok (.ldc 55, 2) := by decide +kernel
theorem dX12_told_21 : decode cX12_told 21 = .ok (.invokevirtual 56, 3) := by decide +kernel
theorem dX12_told_24 : decode cX12_told 24 = .ok (.ireturn, 1) := by decide +kernel
