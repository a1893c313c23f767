theorem eX7_init_0 : decode rX7_init.2.1 0 = .ok (.aload_n 0, 1) := by decide +kernel
theorem eX7_init_1 : decode rX7_init.2.1 1 = .ok (.invokespecial 1, 3) := by decide +kernel
theorem eX7_init_4 : decode rX7_init.2.1 4 = .ok (.aload_n 0, 1) := by decide +kernel
theorem eX7_init_5 : decode rX7_init.2.1 5 = .ok (.sipush 141, 3) := by decide +kernel
theorem eX7_init_8 : decode rX7_init.2.1 8 = .ok (.newarray .int, 2) := by decide +kernel
theorem eX7_init_10 : decode rX7_init.2.1 10 = .ok (.putfield 7, 3) := by decide +kernel
theorem eX7_init_13 : decode rX7_init.2.1 13 = .ok (.aload_n 0, 1) := by decide +kernel
theorem eX7_init_14 : decode rX7_init.2.1 14 = .ok (.sipush 141, 3) := by decide +kernel
theorem eX7_init_17 : decode rX7_init.2.1 17 = .ok (.newarray .int, 2) := by decide +kernel
theorem eX7_init_19 : decode rX7_init.2.1 19 = .ok (.putfield 13, 3) := by decide +kernel
theorem eX7_init_22 : decode rX7_init.2.1 22 = .ok (.aload_n 0, 1) := by decide +kernel
theorem eX7_init_23 : decode rX7_init.2.1 23 = .ok (.sipush 141, 3) := by decide +kernel
theorem eX7_init_26 : decode rX7_init.2.1 26 = .ok (.newarray .int, 2) := by decide +kernel
theorem eX7_init_28 : decode rX7_init.2.1 28 = .ok (.putfield 16, 3) := by decide +kernel
theorem eX7_init_31 : decode rX7_init.2.1 31 = .ok (.aload_n 0, 1) := by decide +kernel
theorem eX7_init_32 : decode rX7_init.2.1 32 = .ok (.sipush 1128, 3) := by decide +kernel
theorem eX7_init_35 : decode rX7_init.2.1 35 = .ok (.newarray .int, 2) := by decide +kernel
theorem eX7_init_37 : decode rX7_init.2.1 37 = .ok (.putfield 19, 3) := by decide +kernel
theorem eX7_init_40 : decode rX7_init.2.1 40 = .ok (.aload_n 0, 1) := by decide +kernel
theorem eX7_init_41 : decode rX7_init.2.1 41 = .ok (.sipush 141, 3) := by decide +kernel
theorem eX7_init_44 : decode rX7_init.2.1 44 = .ok (.newarray .int, 2) := by decide +kernel
theorem eX7_init_46 : decode rX7_init.2.1 46 = .ok (.putfield 22, 3) := by decide +kernel
theorem eX7_init_49 : decode rX7_init.2.1 49 = .ok (.aload_n 0, 1) := by decide +kernel
theorem eX7_init_50 : decode rX7_init.2.1 50 = .ok (.bipush 60, 2) := by decide +kernel
theorem eX7_init_52 : decode rX7_init.2.1 52 = .ok (.newarray .char, 2) := by decide +kernel
theorem eX7_init_54 : decode rX7_init.2.1 54 = .ok (.putfield 25, 3) := by decide +kernel
theorem eX7_init_57 : decode rX7_init.2.1 57 = .ok (.aload_n 0, 1) := by decide +kernel
theorem eX7_init_58 : decode rX7_init.2.1 58 = .ok (.iconst (-1), 1) := by decide +kernel
theorem eX7_init_59 : decode rX7_init.2.1 59 = .ok (.putfield 29, 3) := by decide +kernel
theorem eX7_init_62 : decode rX7_init.2.1 62 = .ok (.aload_n 0, 1) := by decide +kernel
theorem eX7_init_63 : decode rX7_init.2.1 63 = .ok (.iconst (-1), 1) := by decide +kernel
theorem eX7_init_64 : decode rX7_init.2.1 64 = .ok (.putfield 33, 3) := by decide +kernel
theorem eX7_init_67 : decode rX7_init.2.1 67 = .ok (.aload_n 0, 1) := by decide +kernel
theorem eX7_init_68 : decode rX7_init.2.1 68 = .ok (.bipush 60, 2) := by decide +kernel
theorem eX7_init_70 : decode rX7_init.2.1 70 = .ok (.newarray .char, 2) := by decide +kernel
theorem eX7_init_72 : decode rX7_init.2.1 72 = .ok (.putfield 36, 3) := by decide +kernel
theorem eX7_init_75 : decode rX7_init.2.1 75 = .ok (.aload_n 0, 1) := by decide +kernel
theorem eX7_init_76 : decode rX7_init.2.1 76 = .ok (.sipush 240, 3) := by decide +kernel
theorem eX7_init_79 : decode rX7_init.2.1 79 = .ok (.newarray .int, 2) := by decide +kernel
theorem eX7_init_81 : decode rX7_init.2.1 81 = .ok (.putfield 39, 3) := by decide +kernel
theorem eX7_init_84 : decode rX7_init.2.1 84 = .ok (.aload_n 0, 1) := by decide +kernel
theorem eX7_init_85 : decode rX7_init.2.1 85 = .ok (.getfield 7, 3) := by decide +kernel
theorem eX7_init_88 : decode rX7_init.2.1 88 = .ok (.iconst 2, 1) := by decide +kernel
theorem eX7_init_89 : decode rX7_init.2.1 89 = .ok (.iconst 1, 1) := by decide +kernel
theorem eX7_init_90 : decode rX7_init.2.1 90 = .ok (.iastore, 1) := by decide +kernel
theorem eX7_init_91 : decode rX7_init.2.1 91 = .ok (.iconst 0, 1) := by decide +kernel
theorem eX7_init_92 : decode rX7_init.2.1 92 = .ok (.istore_n 1, 1) := by decide +kernel
theorem eX7_init_93 : decode rX7_init.2.1 93 = .ok (.iload_n 1, 1) := by decide +kernel
theorem eX7_init_94 : decode rX7_init.2.1 94 = .ok (.iconst 3, 1) := by decide +kernel
theorem eX7_init_95 : decode rX7_init.2.1 95 = .ok (.if_icmp .ge 21, 3) := by decide +kernel
theorem eX7_init_98 : decode rX7_init.2.1 98 = .ok (.aload_n 0, 1) := by decide +kernel
theorem eX7_init_99 : decode rX7_init.2.1 99 = .ok (.getfield 7, 3) := by decide +kernel
theorem eX7_init_102 : decode rX7_init.2.1 102 = .ok (.bipush 15, 2) := by decide +kernel
theorem eX7_init_104 : decode rX7_init.2.1 104 = .ok (.iload_n 1, 1) := by decide +kernel
theorem eX7_init_105 : decode rX7_init.2.1 105 = .ok (.iadd, 1) := by decide +kernel
theorem eX7_init_106 : decode rX7_init.2.1 106 = .ok (.sipush 400, 3) := by decide +kernel
theorem eX7_init_109 : decode rX7_init.2.1 109 = .ok (.iastore, 1) := by decide +kernel
theorem eX7_init_110 : decode rX7_init.2.1 110 = .ok (.iinc 1 1, 3) := by decide +kernel
theorem eX7_init_113 : decode rX7_init.2.1 113 = .ok (.goto (-20), 3) := by decide +kernel
theorem eX7_init_116 : decode rX7_init.2.1 116 = .ok (.return_, 1) := by decide +kernel
theorem eX7_thrown_0 : decode rX7_thrown.2.1 0 = .ok (.aload_n 0, 1) := by decide +kernel
theorem eX7_thrown_1 : decode rX7_thrown.2.1 1 = .ok (.getfield 42, 3) := by decide +kernel
theorem eX7_thrown_4 : decode rX7_thrown.2.1 4 = .ok (.ireturn, 1) := by decide +kernel
theorem eX7_in_0 : decode rX7_in.2.1 0 = .ok (.iload_n 0, 1) := by decide +kernel
theorem eX7_in_1 : decode rX7_in.2.1 1 = .ok (.iload_n 1, 1) := by decide +kernel
theorem eX7_in_2 : decode rX7_in.2.1 2 = .ok (.if_icmp .lt 12, 3) := by decide +kernel
theorem eX7_in_5 : decode rX7_in.2.1 5 = .ok (.iload_n 0, 1) := by decide +kernel
theorem eX7_in_6 : decode rX7_in.2.1 6 = .ok (.iload_n 2, 1) := by decide +kernel
theorem eX7_in_7 : decode rX7_in.2.1 7 = .ok (.if_icmp .gt 7, 3) := by decide +kernel
theorem eX7_in_10 : decode rX7_in.2.1 10 = .ok (.iconst 1, 1) := by decide +kernel
theorem eX7_in_11 : decode rX7_in.2.1 11 = .ok (.goto 4, 3) := by decide +kernel
theorem eX7_in_14 : decode rX7_in.2.1 14 = .ok (.iconst 0, 1) := by decide +kernel
theorem eX7_in_15 : decode rX7_in.2.1 15 = .ok (.ireturn, 1) := by decide +kernel
theorem eX7_size_0 : decode rX7_size.2.1 0 = .ok (.iload_n 0, 1) := by decide +kernel
theorem eX7_size_1 : decode rX7_size.2.1 1 = .ok (.ifCond .ge 8, 3) := by decide +kernel
theorem eX7_size_4 : decode rX7_size.2.1 4 = .ok (.iload_n 0, 1) := by decide +kernel
theorem eX7_size_5 : decode rX7_size.2.1 5 = .ok (.ineg, 1) := by decide +kernel
theorem eX7_size_6 : decode rX7_size.2.1 6 = .ok (.goto 4, 3) := by decide +kernel
theorem eX7_size_9 : decode rX7_size.2.1 9 = .ok (.iload_n 0, 1) := by decide +kernel
theorem eX7_size_10 : decode rX7_size.2.1 10 = .ok (.ireturn, 1) := by decide +kernel
theorem eX7_done_0 : decode rX7_done.2.1 0 = .ok (.aload_n 0, 1) := by decide +kernel
theorem eX7_done_1 : decode rX7_done.2.1 1 = .ok (.iconst 0, 1) := by decide +kernel
theorem eX7_done_2 : decode rX7_done.2.1 2 = .ok (.putfield 42, 3) := by decide +kernel
theorem eX7_done_5 : decode rX7_done.2.1 5 = .ok (.iload_n 1, 1) := by decide +kernel
theorem eX7_done_6 : decode rX7_done.2.1 6 = .ok (.ireturn, 1) := by decide +kernel
theorem eX7_fails_0 : decode rX7_fails.2.1 0 = .ok (.aload_n 0, 1) := by decide +kernel
theorem eX7_fails_1 : decode rX7_fails.2.1 1 = .ok (.iload_n 1, 1) := by decide +kernel
theorem eX7_fails_2 : decode rX7_fails.2.1 2 = .ok (.putfield 42, 3) := by decide +kernel
theorem eX7_fails_5 : decode rX7_fails.2.1 5 = .ok (.iconst 0, 1) := by decide +kernel
theorem eX7_fails_6 : decode rX7_fails.2.1 6 = .ok (.ireturn, 1) := by decide +kernel
theorem eX7_copy_0 : decode rX7_copy.2.1 0 = .ok (.iconst 0, 1) := by decide +kernel
theorem eX7_copy_1 : decode rX7_copy.2.1 1 = .ok (.istore 4, 2) := by decide +kernel
theorem eX7_copy_3 : decode rX7_copy.2.1 3 = .ok (.iload 4, 2) := by decide +kernel
theorem eX7_copy_5 : decode rX7_copy.2.1 5 = .ok (.sipush 141, 3) := by decide +kernel
theorem eX7_copy_8 : decode rX7_copy.2.1 8 = .ok (.if_icmp .ge 21, 3) := by decide +kernel
theorem eX7_copy_11 : decode rX7_copy.2.1 11 = .ok (.aload_n 2, 1) := by decide +kernel
theorem eX7_copy_12 : decode rX7_copy.2.1 12 = .ok (.iload_n 3, 1) := by decide +kernel
theorem eX7_copy_13 : decode rX7_copy.2.1 13 = .ok (.iload 4, 2) := by decide +kernel
theorem eX7_copy_15 : decode rX7_copy.2.1 15 = .ok (.iadd, 1) := by decide +kernel
theorem eX7_copy_16 : decode rX7_copy.2.1 16 = .ok (.aload_n 0, 1) := by decide +kernel
theorem eX7_copy_17 : decode rX7_copy.2.1 17 = .ok (.iload_n 1, 1) := by decide +kernel
theorem eX7_copy_18 : decode rX7_copy.2.1 18 = .ok (.iload 4, 2) := by decide +kernel
theorem eX7_copy_20 : decode rX7_copy.2.1 20 = .ok (.iadd, 1) := by decide +kernel
theorem eX7_copy_21 : decode rX7_copy.2.1 21 = .ok (.iaload, 1) := by decide +kernel
theorem eX7_copy_22 : decode rX7_copy.2.1 22 = .ok (.iastore, 1) := by decide +kernel
theorem eX7_copy_23 : decode rX7_copy.2.1 23 = .ok (.iinc 4 1, 3) := by decide +kernel
theorem eX7_copy_26 : decode rX7_copy.2.1 26 = .ok (.goto (-23), 3) := by decide +kernel
theorem eX7_copy_29 : decode rX7_copy.2.1 29 = .ok (.return_, 1) := by decide +kernel
theorem eX7_begin_0 : decode rX7_begin.2.1 0 = .ok (.aload_n 0, 1) := by decide +kernel
theorem eX7_begin_1 : decode rX7_begin.2.1 1 = .ok (.getfield 7, 3) := by decide +kernel
theorem eX7_begin_4 : decode rX7_begin.2.1 4 = .ok (.iconst 0, 1) := by decide +kernel
theorem eX7_begin_5 : decode rX7_begin.2.1 5 = .ok (.aload_n 0, 1) := by decide +kernel
theorem eX7_begin_6 : decode rX7_begin.2.1 6 = .ok (.getfield 13, 3) := by decide +kernel
theorem eX7_begin_9 : decode rX7_begin.2.1 9 = .ok (.iconst 0, 1) := by decide +kernel
theorem eX7_begin_10 : decode rX7_begin.2.1 10 = .ok (.invokestatic 45, 3) := by decide +kernel
theorem eX7_begin_13 : decode rX7_begin.2.1 13 = .ok (.return_, 1) := by decide +kernel
theorem eX7_kept_0 : decode rX7_kept.2.1 0 = .ok (.aload_n 0, 1) := by decide +kernel
theorem eX7_kept_1 : decode rX7_kept.2.1 1 = .ok (.getfield 42, 3) := by decide +kernel
theorem eX7_kept_4 : decode rX7_kept.2.1 4 = .ok (.ifCond .eq 18, 3) := by decide +kernel
theorem eX7_kept_7 : decode rX7_kept.2.1 7 = .ok (.aload_n 0, 1) := by decide +kernel
theorem eX7_kept_8 : decode rX7_kept.2.1 8 = .ok (.getfield 13, 3) := by decide +kernel
theorem eX7_kept_11 : decode rX7_kept.2.1 11 = .ok (.iconst 0, 1) := by decide +kernel
theorem eX7_kept_12 : decode rX7_kept.2.1 12 = .ok (.aload_n 0, 1) := by decide +kernel
theorem eX7_kept_13 : decode rX7_kept.2.1 13 = .ok (.getfield 7, 3) := by decide +kernel
theorem eX7_kept_16 : decode rX7_kept.2.1 16 = .ok (.iconst 0, 1) := by decide +kernel
theorem eX7_kept_17 : decode rX7_kept.2.1 17 = .ok (.invokestatic 45, 3) := by decide +kernel
theorem eX7_kept_20 : decode rX7_kept.2.1 20 = .ok (.iconst 0, 1) := by decide +kernel
theorem eX7_kept_21 : decode rX7_kept.2.1 21 = .ok (.ireturn, 1) := by decide +kernel
theorem eX7_kept_22 : decode rX7_kept.2.1 22 = .ok (.aload_n 0, 1) := by decide +kernel
theorem eX7_kept_23 : decode rX7_kept.2.1 23 = .ok (.getfield 49, 3) := by decide +kernel
theorem eX7_kept_26 : decode rX7_kept.2.1 26 = .ok (.bipush 8, 2) := by decide +kernel
theorem eX7_kept_28 : decode rX7_kept.2.1 28 = .ok (.if_icmp .ne 44, 3) := by decide +kernel
theorem eX7_kept_31 : decode rX7_kept.2.1 31 = .ok (.iconst 0, 1) := by decide +kernel
theorem eX7_kept_32 : decode rX7_kept.2.1 32 = .ok (.istore_n 2, 1) := by decide +kernel
theorem eX7_kept_33 : decode rX7_kept.2.1 33 = .ok (.iload_n 2, 1) := by decide +kernel
theorem eX7_kept_34 : decode rX7_kept.2.1 34 = .ok (.sipush 987, 3) := by decide +kernel
theorem eX7_kept_37 : decode rX7_kept.2.1 37 = .ok (.if_icmp .ge 25, 3) := by decide +kernel
theorem eX7_kept_40 : decode rX7_kept.2.1 40 = .ok (.aload_n 0, 1) := by decide +kernel
theorem eX7_kept_41 : decode rX7_kept.2.1 41 = .ok (.getfield 19, 3) := by decide +kernel
theorem eX7_kept_44 : decode rX7_kept.2.1 44 = .ok (.iload_n 2, 1) := by decide +kernel
theorem eX7_kept_45 : decode rX7_kept.2.1 45 = .ok (.aload_n 0, 1) := by decide +kernel
theorem eX7_kept_46 : decode rX7_kept.2.1 46 = .ok (.getfield 19, 3) := by decide +kernel
theorem eX7_kept_49 : decode rX7_kept.2.1 49 = .ok (.iload_n 2, 1) := by decide +kernel
theorem eX7_kept_50 : decode rX7_kept.2.1 50 = .ok (.sipush 141, 3) := by decide +kernel
theorem eX7_kept_53 : decode rX7_kept.2.1 53 = .ok (.iadd, 1) := by decide +kernel
theorem eX7_kept_54 : decode rX7_kept.2.1 54 = .ok (.iaload, 1) := by decide +kernel
theorem eX7_kept_55 : decode rX7_kept.2.1 55 = .ok (.iastore, 1) := by decide +kernel
theorem eX7_kept_56 : decode rX7_kept.2.1 56 = .ok (.iinc 2 1, 3) := by decide +kernel
theorem eX7_kept_59 : decode rX7_kept.2.1 59 = .ok (.goto (-26), 3) := by decide +kernel
theorem eX7_kept_62 : decode rX7_kept.2.1 62 = .ok (.aload_n 0, 1) := by decide +kernel
theorem eX7_kept_63 : decode rX7_kept.2.1 63 = .ok (.dup, 1) := by decide +kernel
theorem eX7_kept_64 : decode rX7_kept.2.1 64 = .ok (.getfield 49, 3) := by decide +kernel
theorem eX7_kept_67 : decode rX7_kept.2.1 67 = .ok (.iconst 1, 1) := by decide +kernel
theorem eX7_kept_68 : decode rX7_kept.2.1 68 = .ok (.isub, 1) := by decide +kernel
theorem eX7_kept_69 : decode rX7_kept.2.1 69 = .ok (.putfield 49, 3) := by decide +kernel
theorem eX7_kept_72 : decode rX7_kept.2.1 72 = .ok (.aload_n 0, 1) := by decide +kernel
theorem eX7_kept_73 : decode rX7_kept.2.1 73 = .ok (.getfield 13, 3) := by decide +kernel
theorem eX7_kept_76 : decode rX7_kept.2.1 76 = .ok (.iconst 0, 1) := by decide +kernel
theorem eX7_kept_77 : decode rX7_kept.2.1 77 = .ok (.aload_n 0, 1) := by decide +kernel
theorem eX7_kept_78 : decode rX7_kept.2.1 78 = .ok (.getfield 19, 3) := by decide +kernel
theorem eX7_kept_81 : decode rX7_kept.2.1 81 = .ok (.aload_n 0, 1) := by decide +kernel
theorem eX7_kept_82 : decode rX7_kept.2.1 82 = .ok (.getfield 49, 3) := by decide +kernel
theorem eX7_kept_85 : decode rX7_kept.2.1 85 = .ok (.sipush 141, 3) := by decide +kernel
theorem eX7_kept_88 : decode rX7_kept.2.1 88 = .ok (.imul, 1) := by decide +kernel
theorem eX7_kept_89 : decode rX7_kept.2.1 89 = .ok (.invokestatic 45, 3) := by decide +kernel
theorem eX7_kept_92 : decode rX7_kept.2.1 92 = .ok (.aload_n 0, 1) := by decide +kernel
theorem eX7_kept_93 : decode rX7_kept.2.1 93 = .ok (.dup, 1) := by decide +kernel
theorem eX7_kept_94 : decode rX7_kept.2.1 94 = .ok (.getfield 49, 3) := by decide +kernel
theorem eX7_kept_97 : decode rX7_kept.2.1 97 = .ok (.iconst 1, 1) := by decide +kernel
theorem eX7_kept_98 : decode rX7_kept.2.1 98 = .ok (.iadd, 1) := by decide +kernel
theorem eX7_kept_99 : decode rX7_kept.2.1 99 = .ok (.putfield 49, 3) := by decide +kernel
theorem eX7_kept_102 : decode rX7_kept.2.1 102 = .ok (.iload_n 1, 1) := by decide +kernel
theorem eX7_kept_103 : decode rX7_kept.2.1 103 = .ok (.ireturn, 1) := by decide +kernel
theorem eX7_isCar_0 : decode rX7_isCar.2.1 0 = .ok (.iload_n 0, 1) := by decide +kernel
theorem eX7_isCar_1 : decode rX7_isCar.2.1 1 = .ok (.iconst 0, 1) := by decide +kernel
theorem eX7_isCar_2 : decode rX7_isCar.2.1 2 = .ok (.iconst 2, 1) := by decide +kernel
theorem eX7_isCar_3 : decode rX7_isCar.2.1 3 = .ok (.invokestatic 52, 3) := by decide +kernel
theorem eX7_isCar_6 : decode rX7_isCar.2.1 6 = .ok (.ireturn, 1) := by decide +kernel
theorem eX7_isFloor_0 : decode rX7_isFloor.2.1 0 = .ok (.iload_n 0, 1) := by decide +kernel
theorem eX7_isFloor_1 : decode rX7_isFloor.2.1 1 = .ok (.iconst 0, 1) := by decide +kernel
theorem eX7_isFloor_2 : decode rX7_isFloor.2.1 2 = .ok (.bipush 9, 2) := by decide +kernel
theorem eX7_isFloor_4 : decode rX7_isFloor.2.1 4 = .ok (.invokestatic 52, 3) := by decide +kernel
theorem eX7_isFloor_7 : decode rX7_isFloor.2.1 7 = .ok (.ireturn, 1) := by decide +kernel
theorem eX7_isPassenger_0 : decode rX7_isPassenger.2.1 0 = .ok (.iload_n 1, 1) := by decide +kernel
theorem eX7_isPassenger_1 : decode rX7_isPassenger.2.1 1 = .ok (.iconst 0, 1) := by decide +kernel
theorem eX7_isPassenger_2 : decode rX7_isPassenger.2.1 2 = .ok (.aload_n 0, 1) := by decide +kernel
theorem eX7_isPassenger_3 : decode rX7_isPassenger.2.1 3 = .ok (.getfield 7, 3) := by decide +kernel
theorem eX7_isPassenger_6 : decode rX7_isPassenger.2.1 6 = .ok (.iconst 1, 1) := by decide +kernel
theorem eX7_isPassenger_7 : decode rX7_isPassenger.2.1 7 = .ok (.iaload, 1) := by decide +kernel
theorem eX7_isPassenger_8 : decode rX7_isPassenger.2.1 8 = .ok (.iconst 1, 1) := by decide +kernel
theorem eX7_isPassenger_9 : decode rX7_isPassenger.2.1 9 = .ok (.isub, 1) := by decide +kernel
theorem eX7_isPassenger_10 : decode rX7_isPassenger.2.1 10 = .ok (.invokestatic 52, 3) := by decide +kernel
theorem eX7_isPassenger_13 : decode rX7_isPassenger.2.1 13 = .ok (.ireturn, 1) := by decide +kernel
theorem eX7_isIn_0 : decode rX7_isIn.2.1 0 = .ok (.aload_n 0, 1) := by decide +kernel
theorem eX7_isIn_1 : decode rX7_isIn.2.1 1 = .ok (.getfield 7, 3) := by decide +kernel
theorem eX7_isIn_4 : decode rX7_isIn.2.1 4 = .ok (.bipush 99, 2) := by decide +kernel
theorem eX7_isIn_6 : decode rX7_isIn.2.1 6 = .ok (.iload_n 1, 1) := by decide +kernel
theorem eX7_isIn_7 : decode rX7_isIn.2.1 7 = .ok (.iadd, 1) := by decide +kernel
theorem eX7_isIn_8 : decode rX7_isIn.2.1 8 = .ok (.iaload, 1) := by decide +kernel
theorem eX7_isIn_9 : decode rX7_isIn.2.1 9 = .ok (.iconst 1, 1) := by decide +kernel
theorem eX7_isIn_10 : decode rX7_isIn.2.1 10 = .ok (.if_icmp .ne 22, 3) := by decide +kernel
theorem eX7_isIn_13 : decode rX7_isIn.2.1 13 = .ok (.aload_n 0, 1) := by decide +kernel
theorem eX7_isIn_14 : decode rX7_isIn.2.1 14 = .ok (.getfield 7, 3) := by decide +kernel
theorem eX7_isIn_17 : decode rX7_isIn.2.1 17 = .ok (.bipush 87, 2) := by decide +kernel
theorem eX7_isIn_19 : decode rX7_isIn.2.1 19 = .ok (.iload_n 1, 1) := by decide +kernel
theorem eX7_isIn_20 : decode rX7_isIn.2.1 20 = .ok (.iadd, 1) := by decide +kernel
theorem eX7_isIn_21 : decode rX7_isIn.2.1 21 = .ok (.iaload, 1) := by decide +kernel
theorem eX7_isIn_22 : decode rX7_isIn.2.1 22 = .ok (.iload_n 2, 1) := by decide +kernel
theorem eX7_isIn_23 : decode rX7_isIn.2.1 23 = .ok (.iconst 1, 1) := by decide +kernel
theorem eX7_isIn_24 : decode rX7_isIn.2.1 24 = .ok (.iadd, 1) := by decide +kernel
theorem eX7_isIn_25 : decode rX7_isIn.2.1 25 = .ok (.if_icmp .ne 7, 3) := by decide +kernel
theorem eX7_isIn_28 : decode rX7_isIn.2.1 28 = .ok (.iconst 1, 1) := by decide +kernel
theorem eX7_isIn_29 : decode rX7_isIn.2.1 29 = .ok (.goto 4, 3) := by decide +kernel
theorem eX7_isIn_32 : decode rX7_isIn.2.1 32 = .ok (.iconst 0, 1) := by decide +kernel
theorem eX7_isIn_33 : decode rX7_isIn.2.1 33 = .ok (.ireturn, 1) := by decide +kernel
theorem eX7_awaits_0 : decode rX7_awaits.2.1 0 = .ok (.aload_n 0, 1) := by decide +kernel
theorem eX7_awaits_1 : decode rX7_awaits.2.1 1 = .ok (.getfield 7, 3) := by decide +kernel
theorem eX7_awaits_4 : decode rX7_awaits.2.1 4 = .ok (.bipush 99, 2) := by decide +kernel
theorem eX7_awaits_6 : decode rX7_awaits.2.1 6 = .ok (.iload_n 1, 1) := by decide +kernel
theorem eX7_awaits_7 : decode rX7_awaits.2.1 7 = .ok (.iadd, 1) := by decide +kernel
theorem eX7_awaits_8 : decode rX7_awaits.2.1 8 = .ok (.iaload, 1) := by decide +kernel
theorem eX7_awaits_9 : decode rX7_awaits.2.1 9 = .ok (.ifCond .ne 22, 3) := by decide +kernel
theorem eX7_awaits_12 : decode rX7_awaits.2.1 12 = .ok (.aload_n 0, 1) := by decide +kernel
theorem eX7_awaits_13 : decode rX7_awaits.2.1 13 = .ok (.getfield 7, 3) := by decide +kernel
theorem eX7_awaits_16 : decode rX7_awaits.2.1 16 = .ok (.bipush 87, 2) := by decide +kernel
theorem eX7_awaits_18 : decode rX7_awaits.2.1 18 = .ok (.iload_n 1, 1) := by decide +kernel
theorem eX7_awaits_19 : decode rX7_awaits.2.1 19 = .ok (.iadd, 1) := by decide +kernel
theorem eX7_awaits_20 : decode rX7_awaits.2.1 20 = .ok (.iaload, 1) := by decide +kernel
theorem eX7_awaits_21 : decode rX7_awaits.2.1 21 = .ok (.iload_n 2, 1) := by decide +kernel
theorem eX7_awaits_22 : decode rX7_awaits.2.1 22 = .ok (.iconst 1, 1) := by decide +kernel
theorem eX7_awaits_23 : decode rX7_awaits.2.1 23 = .ok (.iadd, 1) := by decide +kernel
theorem eX7_awaits_24 : decode rX7_awaits.2.1 24 = .ok (.if_icmp .ne 7, 3) := by decide +kernel
theorem eX7_awaits_27 : decode rX7_awaits.2.1 27 = .ok (.iconst 1, 1) := by decide +kernel
theorem eX7_awaits_28 : decode rX7_awaits.2.1 28 = .ok (.goto 4, 3) := by decide +kernel
theorem eX7_awaits_31 : decode rX7_awaits.2.1 31 = .ok (.iconst 0, 1) := by decide +kernel
theorem eX7_awaits_32 : decode rX7_awaits.2.1 32 = .ok (.ireturn, 1) := by decide +kernel
theorem eX7_loadOf_0 : decode rX7_loadOf.2.1 0 = .ok (.iconst 0, 1) := by decide +kernel
theorem eX7_loadOf_1 : decode rX7_loadOf.2.1 1 = .ok (.istore_n 2, 1) := by decide +kernel
theorem eX7_loadOf_2 : decode rX7_loadOf.2.1 2 = .ok (.iconst 0, 1) := by decide +kernel
theorem eX7_loadOf_3 : decode rX7_loadOf.2.1 3 = .ok (.istore_n 3, 1) := by decide +kernel
theorem eX7_loadOf_4 : decode rX7_loadOf.2.1 4 = .ok (.iload_n 3, 1) := by decide +kernel
theorem eX7_loadOf_5 : decode rX7_loadOf.2.1 5 = .ok (.aload_n 0, 1) := by decide +kernel
theorem eX7_loadOf_6 : decode rX7_loadOf.2.1 6 = .ok (.getfield 7, 3) := by decide +kernel
theorem eX7_loadOf_9 : decode rX7_loadOf.2.1 9 = .ok (.iconst 1, 1) := by decide +kernel
theorem eX7_loadOf_10 : decode rX7_loadOf.2.1 10 = .ok (.iaload, 1) := by decide +kernel
theorem eX7_loadOf_11 : decode rX7_loadOf.2.1 11 = .ok (.if_icmp .ge 34, 3) := by decide +kernel
theorem eX7_loadOf_14 : decode rX7_loadOf.2.1 14 = .ok (.iload_n 2, 1) := by decide +kernel
theorem eX7_loadOf_15 : decode rX7_loadOf.2.1 15 = .ok (.aload_n 0, 1) := by decide +kernel
theorem eX7_loadOf_16 : decode rX7_loadOf.2.1 16 = .ok (.iload_n 3, 1) := by decide +kernel
theorem eX7_loadOf_17 : decode rX7_loadOf.2.1 17 = .ok (.iload_n 1, 1) := by decide +kernel
theorem eX7_loadOf_18 : decode rX7_loadOf.2.1 18 = .ok (.invokevirtual 56, 3) := by decide +kernel
theorem eX7_loadOf_21 : decode rX7_loadOf.2.1 21 = .ok (.ifCond .eq 15, 3) := by decide +kernel
theorem eX7_loadOf_24 : decode rX7_loadOf.2.1 24 = .ok (.aload_n 0, 1) := by decide +kernel
theorem eX7_loadOf_25 : decode rX7_loadOf.2.1 25 = .ok (.getfield 7, 3) := by decide +kernel
theorem eX7_loadOf_28 : decode rX7_loadOf.2.1 28 = .ok (.bipush 63, 2) := by decide +kernel
theorem eX7_loadOf_30 : decode rX7_loadOf.2.1 30 = .ok (.iload_n 3, 1) := by decide +kernel
theorem eX7_loadOf_31 : decode rX7_loadOf.2.1 31 = .ok (.iadd, 1) := by decide +kernel
theorem eX7_loadOf_32 : decode rX7_loadOf.2.1 32 = .ok (.iaload, 1) := by decide +kernel
theorem eX7_loadOf_33 : decode rX7_loadOf.2.1 33 = .ok (.goto 4, 3) := by decide +kernel
theorem eX7_loadOf_36 : decode rX7_loadOf.2.1 36 = .ok (.iconst 0, 1) := by decide +kernel
theorem eX7_loadOf_37 : decode rX7_loadOf.2.1 37 = .ok (.iadd, 1) := by decide +kernel
theorem eX7_loadOf_38 : decode rX7_loadOf.2.1 38 = .ok (.istore_n 2, 1) := by decide +kernel
theorem eX7_loadOf_39 : decode rX7_loadOf.2.1 39 = .ok (.iinc 3 1, 3) := by decide +kernel
theorem eX7_loadOf_42 : decode rX7_loadOf.2.1 42 = .ok (.goto (-38), 3) := by decide +kernel
theorem eX7_loadOf_45 : decode rX7_loadOf.2.1 45 = .ok (.iload_n 2, 1) := by decide +kernel
theorem eX7_loadOf_46 : decode rX7_loadOf.2.1 46 = .ok (.ireturn, 1) := by decide +kernel
theorem eX7_inside_0 : decode rX7_inside.2.1 0 = .ok (.iconst 0, 1) := by decide +kernel
theorem eX7_inside_1 : decode rX7_inside.2.1 1 = .ok (.istore_n 2, 1) := by decide +kernel
theorem eX7_inside_2 : decode rX7_inside.2.1 2 = .ok (.iconst 0, 1) := by decide +kernel
theorem eX7_inside_3 : decode rX7_inside.2.1 3 = .ok (.istore_n 3, 1) := by decide +kernel
theorem eX7_inside_4 : decode rX7_inside.2.1 4 = .ok (.iload_n 3, 1) := by decide +kernel
theorem eX7_inside_5 : decode rX7_inside.2.1 5 = .ok (.aload_n 0, 1) := by decide +kernel
theorem eX7_inside_6 : decode rX7_inside.2.1 6 = .ok (.getfield 7, 3) := by decide +kernel
theorem eX7_inside_9 : decode rX7_inside.2.1 9 = .ok (.iconst 1, 1) := by decide +kernel
theorem eX7_inside_10 : decode rX7_inside.2.1 10 = .ok (.iaload, 1) := by decide +kernel
theorem eX7_inside_11 : decode rX7_inside.2.1 11 = .ok (.if_icmp .ge 26, 3) := by decide +kernel
theorem eX7_inside_14 : decode rX7_inside.2.1 14 = .ok (.iload_n 2, 1) := by decide +kernel
theorem eX7_inside_15 : decode rX7_inside.2.1 15 = .ok (.aload_n 0, 1) := by decide +kernel
theorem eX7_inside_16 : decode rX7_inside.2.1 16 = .ok (.iload_n 3, 1) := by decide +kernel
theorem eX7_inside_17 : decode rX7_inside.2.1 17 = .ok (.iload_n 1, 1) := by decide +kernel
theorem eX7_inside_18 : decode rX7_inside.2.1 18 = .ok (.invokevirtual 56, 3) := by decide +kernel
theorem eX7_inside_21 : decode rX7_inside.2.1 21 = .ok (.ifCond .eq 7, 3) := by decide +kernel
theorem eX7_inside_24 : decode rX7_inside.2.1 24 = .ok (.iconst 1, 1) := by decide +kernel
theorem eX7_inside_25 : decode rX7_inside.2.1 25 = .ok (.goto 4, 3) := by decide +kernel
theorem eX7_inside_28 : decode rX7_inside.2.1 28 = .ok (.iconst 0, 1) := by decide +kernel
theorem eX7_inside_29 : decode rX7_inside.2.1 29 = .ok (.iadd, 1) := by decide +kernel
theorem eX7_inside_30 : decode rX7_inside.2.1 30 = .ok (.istore_n 2, 1) := by decide +kernel
theorem eX7_inside_31 : decode rX7_inside.2.1 31 = .ok (.iinc 3 1, 3) := by decide +kernel
theorem eX7_inside_34 : decode rX7_inside.2.1 34 = .ok (.goto (-30), 3) := by decide +kernel
theorem eX7_inside_37 : decode rX7_inside.2.1 37 = .ok (.iload_n 2, 1) := by decide +kernel
theorem eX7_inside_38 : decode rX7_inside.2.1 38 = .ok (.ireturn, 1) := by decide +kernel
theorem eX7_stopsAt_0 : decode rX7_stopsAt.2.1 0 = .ok (.iconst 0, 1) := by decide +kernel
theorem eX7_stopsAt_1 : decode rX7_stopsAt.2.1 1 = .ok (.istore_n 3, 1) := by decide +kernel
theorem eX7_stopsAt_2 : decode rX7_stopsAt.2.1 2 = .ok (.iconst 0, 1) := by decide +kernel
theorem eX7_stopsAt_3 : decode rX7_stopsAt.2.1 3 = .ok (.istore 4, 2) := by decide +kernel
theorem eX7_stopsAt_5 : decode rX7_stopsAt.2.1 5 = .ok (.iload 4, 2) := by decide +kernel
theorem eX7_stopsAt_7 : decode rX7_stopsAt.2.1 7 = .ok (.aload_n 0, 1) := by decide +kernel
theorem eX7_stopsAt_8 : decode rX7_stopsAt.2.1 8 = .ok (.getfield 7, 3) := by decide +kernel
theorem eX7_stopsAt_11 : decode rX7_stopsAt.2.1 11 = .ok (.iconst 1, 1) := by decide +kernel
theorem eX7_stopsAt_12 : decode rX7_stopsAt.2.1 12 = .ok (.iaload, 1) := by decide +kernel
theorem eX7_stopsAt_13 : decode rX7_stopsAt.2.1 13 = .ok (.if_icmp .ge 77, 3) := by decide +kernel
theorem eX7_stopsAt_16 : decode rX7_stopsAt.2.1 16 = .ok (.iload_n 3, 1) := by decide +kernel
theorem eX7_stopsAt_17 : decode rX7_stopsAt.2.1 17 = .ok (.ifCond .ne 27, 3) := by decide +kernel
theorem eX7_stopsAt_20 : decode rX7_stopsAt.2.1 20 = .ok (.aload_n 0, 1) := by decide +kernel
theorem eX7_stopsAt_21 : decode rX7_stopsAt.2.1 21 = .ok (.iload 4, 2) := by decide +kernel
theorem eX7_stopsAt_23 : decode rX7_stopsAt.2.1 23 = .ok (.iload_n 1, 1) := by decide +kernel
theorem eX7_stopsAt_24 : decode rX7_stopsAt.2.1 24 = .ok (.invokevirtual 56, 3) := by decide +kernel
theorem eX7_stopsAt_27 : decode rX7_stopsAt.2.1 27 = .ok (.ifCond .eq 21, 3) := by decide +kernel
theorem eX7_stopsAt_30 : decode rX7_stopsAt.2.1 30 = .ok (.aload_n 0, 1) := by decide +kernel
theorem eX7_stopsAt_31 : decode rX7_stopsAt.2.1 31 = .ok (.getfield 7, 3) := by decide +kernel
theorem eX7_stopsAt_34 : decode rX7_stopsAt.2.1 34 = .ok (.bipush 51, 2) := by decide +kernel
theorem eX7_stopsAt_36 : decode rX7_stopsAt.2.1 36 = .ok (.iload 4, 2) := by decide +kernel
theorem eX7_stopsAt_38 : decode rX7_stopsAt.2.1 38 = .ok (.iadd, 1) := by decide +kernel
theorem eX7_stopsAt_39 : decode rX7_stopsAt.2.1 39 = .ok (.iaload, 1) := by decide +kernel
theorem eX7_stopsAt_40 : decode rX7_stopsAt.2.1 40 = .ok (.iload_n 2, 1) := by decide +kernel
theorem eX7_stopsAt_41 : decode rX7_stopsAt.2.1 41 = .ok (.if_icmp .ne 7, 3) := by decide +kernel
theorem eX7_stopsAt_44 : decode rX7_stopsAt.2.1 44 = .ok (.iconst 1, 1) := by decide +kernel
theorem eX7_stopsAt_45 : decode rX7_stopsAt.2.1 45 = .ok (.goto 4, 3) := by decide +kernel
theorem eX7_stopsAt_48 : decode rX7_stopsAt.2.1 48 = .ok (.iconst 0, 1) := by decide +kernel
theorem eX7_stopsAt_49 : decode rX7_stopsAt.2.1 49 = .ok (.istore_n 3, 1) := by decide +kernel
theorem eX7_stopsAt_50 : decode rX7_stopsAt.2.1 50 = .ok (.iload_n 3, 1) := by decide +kernel
theorem eX7_stopsAt_51 : decode rX7_stopsAt.2.1 51 = .ok (.ifCond .ne 27, 3) := by decide +kernel
theorem eX7_stopsAt_54 : decode rX7_stopsAt.2.1 54 = .ok (.aload_n 0, 1) := by decide +kernel
theorem eX7_stopsAt_55 : decode rX7_stopsAt.2.1 55 = .ok (.iload 4, 2) := by decide +kernel
theorem eX7_stopsAt_57 : decode rX7_stopsAt.2.1 57 = .ok (.iload_n 1, 1) := by decide +kernel
theorem eX7_stopsAt_58 : decode rX7_stopsAt.2.1 58 = .ok (.invokevirtual 60, 3) := by decide +kernel
theorem eX7_stopsAt_61 : decode rX7_stopsAt.2.1 61 = .ok (.ifCond .eq 21, 3) := by decide +kernel
theorem eX7_stopsAt_64 : decode rX7_stopsAt.2.1 64 = .ok (.aload_n 0, 1) := by decide +kernel
theorem eX7_stopsAt_65 : decode rX7_stopsAt.2.1 65 = .ok (.getfield 7, 3) := by decide +kernel
theorem eX7_stopsAt_68 : decode rX7_stopsAt.2.1 68 = .ok (.bipush 39, 2) := by decide +kernel
theorem eX7_stopsAt_70 : decode rX7_stopsAt.2.1 70 = .ok (.iload 4, 2) := by decide +kernel
theorem eX7_stopsAt_72 : decode rX7_stopsAt.2.1 72 = .ok (.iadd, 1) := by decide +kernel
theorem eX7_stopsAt_73 : decode rX7_stopsAt.2.1 73 = .ok (.iaload, 1) := by decide +kernel
theorem eX7_stopsAt_74 : decode rX7_stopsAt.2.1 74 = .ok (.iload_n 2, 1) := by decide +kernel
theorem eX7_stopsAt_75 : decode rX7_stopsAt.2.1 75 = .ok (.if_icmp .ne 7, 3) := by decide +kernel
theorem eX7_stopsAt_78 : decode rX7_stopsAt.2.1 78 = .ok (.iconst 1, 1) := by decide +kernel
theorem eX7_stopsAt_79 : decode rX7_stopsAt.2.1 79 = .ok (.goto 4, 3) := by decide +kernel
theorem eX7_stopsAt_82 : decode rX7_stopsAt.2.1 82 = .ok (.iconst 0, 1) := by decide +kernel
theorem eX7_stopsAt_83 : decode rX7_stopsAt.2.1 83 = .ok (.istore_n 3, 1) := by decide +kernel
theorem eX7_stopsAt_84 : decode rX7_stopsAt.2.1 84 = .ok (.iinc 4 1, 3) := by decide +kernel
theorem eX7_stopsAt_87 : decode rX7_stopsAt.2.1 87 = .ok (.goto (-82), 3) := by decide +kernel
theorem eX7_stopsAt_90 : decode rX7_stopsAt.2.1 90 = .ok (.iload_n 3, 1) := by decide +kernel
theorem eX7_stopsAt_91 : decode rX7_stopsAt.2.1 91 = .ok (.ireturn, 1) := by decide +kernel
theorem eX7_nearest_0 : decode rX7_nearest.2.1 0 = .ok (.iconst 1, 1) := by decide +kernel
theorem eX7_nearest_1 : decode rX7_nearest.2.1 1 = .ok (.istore_n 3, 1) := by decide +kernel
theorem eX7_nearest_2 : decode rX7_nearest.2.1 2 = .ok (.aload_n 0, 1) := by decide +kernel
theorem eX7_nearest_3 : decode rX7_nearest.2.1 3 = .ok (.getfield 7, 3) := by decide +kernel
theorem eX7_nearest_6 : decode rX7_nearest.2.1 6 = .ok (.bipush 9, 2) := by decide +kernel
theorem eX7_nearest_8 : decode rX7_nearest.2.1 8 = .ok (.iload_n 1, 1) := by decide +kernel
theorem eX7_nearest_9 : decode rX7_nearest.2.1 9 = .ok (.iadd, 1) := by decide +kernel
theorem eX7_nearest_10 : decode rX7_nearest.2.1 10 = .ok (.iaload, 1) := by decide +kernel
theorem eX7_nearest_11 : decode rX7_nearest.2.1 11 = .ok (.iload_n 2, 1) := by decide +kernel
theorem eX7_nearest_12 : decode rX7_nearest.2.1 12 = .ok (.iload_n 3, 1) := by decide +kernel
theorem eX7_nearest_13 : decode rX7_nearest.2.1 13 = .ok (.imul, 1) := by decide +kernel
theorem eX7_nearest_14 : decode rX7_nearest.2.1 14 = .ok (.iadd, 1) := by decide +kernel
theorem eX7_nearest_15 : decode rX7_nearest.2.1 15 = .ok (.invokestatic 63, 3) := by decide +kernel
theorem eX7_nearest_18 : decode rX7_nearest.2.1 18 = .ok (.ifCond .eq 30, 3) := by decide +kernel
theorem eX7_nearest_21 : decode rX7_nearest.2.1 21 = .ok (.aload_n 0, 1) := by decide +kernel
theorem eX7_nearest_22 : decode rX7_nearest.2.1 22 = .ok (.iload_n 1, 1) := by decide +kernel
theorem eX7_nearest_23 : decode rX7_nearest.2.1 23 = .ok (.aload_n 0, 1) := by decide +kernel
theorem eX7_nearest_24 : decode rX7_nearest.2.1 24 = .ok (.getfield 7, 3) := by decide +kernel
theorem eX7_nearest_27 : decode rX7_nearest.2.1 27 = .ok (.bipush 9, 2) := by decide +kernel
theorem eX7_nearest_29 : decode rX7_nearest.2.1 29 = .ok (.iload_n 1, 1) := by decide +kernel
theorem eX7_nearest_30 : decode rX7_nearest.2.1 30 = .ok (.iadd, 1) := by decide +kernel
theorem eX7_nearest_31 : decode rX7_nearest.2.1 31 = .ok (.iaload, 1) := by decide +kernel
theorem eX7_nearest_32 : decode rX7_nearest.2.1 32 = .ok (.iload_n 2, 1) := by decide +kernel
theorem eX7_nearest_33 : decode rX7_nearest.2.1 33 = .ok (.iload_n 3, 1) := by decide +kernel
theorem eX7_nearest_34 : decode rX7_nearest.2.1 34 = .ok (.imul, 1) := by decide +kernel
theorem eX7_nearest_35 : decode rX7_nearest.2.1 35 = .ok (.iadd, 1) := by decide +kernel
theorem eX7_nearest_36 : decode rX7_nearest.2.1 36 = .ok (.invokevirtual 67, 3) := by decide +kernel
theorem eX7_nearest_39 : decode rX7_nearest.2.1 39 = .ok (.ifCond .ne 9, 3) := by decide +kernel
theorem eX7_nearest_42 : decode rX7_nearest.2.1 42 = .ok (.iinc 3 1, 3) := by decide +kernel
theorem eX7_nearest_45 : decode rX7_nearest.2.1 45 = .ok (.goto (-43), 3) := by decide +kernel
theorem eX7_nearest_48 : decode rX7_nearest.2.1 48 = .ok (.aload_n 0, 1) := by decide +kernel
theorem eX7_nearest_49 : decode rX7_nearest.2.1 49 = .ok (.getfield 7, 3) := by decide +kernel
theorem eX7_nearest_52 : decode rX7_nearest.2.1 52 = .ok (.bipush 9, 2) := by decide +kernel
theorem eX7_nearest_54 : decode rX7_nearest.2.1 54 = .ok (.iload_n 1, 1) := by decide +kernel
theorem eX7_nearest_55 : decode rX7_nearest.2.1 55 = .ok (.iadd, 1) := by decide +kernel
theorem eX7_nearest_56 : decode rX7_nearest.2.1 56 = .ok (.iaload, 1) := by decide +kernel
theorem eX7_nearest_57 : decode rX7_nearest.2.1 57 = .ok (.iload_n 2, 1) := by decide +kernel
theorem eX7_nearest_58 : decode rX7_nearest.2.1 58 = .ok (.iload_n 3, 1) := by decide +kernel
theorem eX7_nearest_59 : decode rX7_nearest.2.1 59 = .ok (.imul, 1) := by decide +kernel
theorem eX7_nearest_60 : decode rX7_nearest.2.1 60 = .ok (.iadd, 1) := by decide +kernel
theorem eX7_nearest_61 : decode rX7_nearest.2.1 61 = .ok (.invokestatic 63, 3) := by decide +kernel
theorem eX7_nearest_64 : decode rX7_nearest.2.1 64 = .ok (.ifCond .eq 7, 3) := by decide +kernel
theorem eX7_nearest_67 : decode rX7_nearest.2.1 67 = .ok (.iload_n 3, 1) := by decide +kernel
theorem eX7_nearest_68 : decode rX7_nearest.2.1 68 = .ok (.goto 4, 3) := by decide +kernel
theorem eX7_nearest_71 : decode rX7_nearest.2.1 71 = .ok (.iconst 0, 1) := by decide +kernel
theorem eX7_nearest_72 : decode rX7_nearest.2.1 72 = .ok (.ireturn, 1) := by decide +kernel
theorem eX7_farthest_0 : decode rX7_farthest.2.1 0 = .ok (.iconst 0, 1) := by decide +kernel
theorem eX7_farthest_1 : decode rX7_farthest.2.1 1 = .ok (.istore_n 3, 1) := by decide +kernel
theorem eX7_farthest_2 : decode rX7_farthest.2.1 2 = .ok (.iconst 1, 1) := by decide +kernel
theorem eX7_farthest_3 : decode rX7_farthest.2.1 3 = .ok (.istore 4, 2) := by decide +kernel
theorem eX7_farthest_5 : decode rX7_farthest.2.1 5 = .ok (.iload 4, 2) := by decide +kernel
theorem eX7_farthest_7 : decode rX7_farthest.2.1 7 = .ok (.bipush 10, 2) := by decide +kernel
theorem eX7_farthest_9 : decode rX7_farthest.2.1 9 = .ok (.if_icmp .ge 50, 3) := by decide +kernel
theorem eX7_farthest_12 : decode rX7_farthest.2.1 12 = .ok (.aload_n 0, 1) := by decide +kernel
theorem eX7_farthest_13 : decode rX7_farthest.2.1 13 = .ok (.getfield 7, 3) := by decide +kernel
theorem eX7_farthest_16 : decode rX7_farthest.2.1 16 = .ok (.bipush 9, 2) := by decide +kernel
theorem eX7_farthest_18 : decode rX7_farthest.2.1 18 = .ok (.iload_n 1, 1) := by decide +kernel
theorem eX7_farthest_19 : decode rX7_farthest.2.1 19 = .ok (.iadd, 1) := by decide +kernel
theorem eX7_farthest_20 : decode rX7_farthest.2.1 20 = .ok (.iaload, 1) := by decide +kernel
theorem eX7_farthest_21 : decode rX7_farthest.2.1 21 = .ok (.iload_n 2, 1) := by decide +kernel
theorem eX7_farthest_22 : decode rX7_farthest.2.1 22 = .ok (.iload 4, 2) := by decide +kernel
theorem eX7_farthest_24 : decode rX7_farthest.2.1 24 = .ok (.imul, 1) := by decide +kernel
theorem eX7_farthest_25 : decode rX7_farthest.2.1 25 = .ok (.iadd, 1) := by decide +kernel
theorem eX7_farthest_26 : decode rX7_farthest.2.1 26 = .ok (.istore 5, 2) := by decide +kernel
theorem eX7_farthest_28 : decode rX7_farthest.2.1 28 = .ok (.iload 5, 2) := by decide +kernel
theorem eX7_farthest_30 : decode rX7_farthest.2.1 30 = .ok (.invokestatic 63, 3) := by decide +kernel
theorem eX7_farthest_33 : decode rX7_farthest.2.1 33 = .ok (.ifCond .eq 18, 3) := by decide +kernel
theorem eX7_farthest_36 : decode rX7_farthest.2.1 36 = .ok (.aload_n 0, 1) := by decide +kernel
theorem eX7_farthest_37 : decode rX7_farthest.2.1 37 = .ok (.iload_n 1, 1) := by decide +kernel
theorem eX7_farthest_38 : decode rX7_farthest.2.1 38 = .ok (.iload 5, 2) := by decide +kernel
theorem eX7_farthest_40 : decode rX7_farthest.2.1 40 = .ok (.invokevirtual 67, 3) := by decide +kernel
theorem eX7_farthest_43 : decode rX7_farthest.2.1 43 = .ok (.ifCond .eq 8, 3) := by decide +kernel
theorem eX7_farthest_46 : decode rX7_farthest.2.1 46 = .ok (.iload 4, 2) := by decide +kernel
theorem eX7_farthest_48 : decode rX7_farthest.2.1 48 = .ok (.goto 4, 3) := by decide +kernel
theorem eX7_farthest_51 : decode rX7_farthest.2.1 51 = .ok (.iload_n 3, 1) := by decide +kernel
theorem eX7_farthest_52 : decode rX7_farthest.2.1 52 = .ok (.istore_n 3, 1) := by decide +kernel
theorem eX7_farthest_53 : decode rX7_farthest.2.1 53 = .ok (.iinc 4 1, 3) := by decide +kernel
theorem eX7_farthest_56 : decode rX7_farthest.2.1 56 = .ok (.goto (-51), 3) := by decide +kernel
theorem eX7_farthest_59 : decode rX7_farthest.2.1 59 = .ok (.iload_n 3, 1) := by decide +kernel
theorem eX7_farthest_60 : decode rX7_farthest.2.1 60 = .ok (.ireturn, 1) := by decide +kernel
theorem eX7_estimated_0 : decode rX7_estimated.2.1 0 = .ok (.iload_n 2, 1) := by decide +kernel
theorem eX7_estimated_1 : decode rX7_estimated.2.1 1 = .ok (.aload_n 0, 1) := by decide +kernel
theorem eX7_estimated_2 : decode rX7_estimated.2.1 2 = .ok (.getfield 7, 3) := by decide +kernel
theorem eX7_estimated_5 : decode rX7_estimated.2.1 5 = .ok (.bipush 9, 2) := by decide +kernel
theorem eX7_estimated_7 : decode rX7_estimated.2.1 7 = .ok (.iload_n 1, 1) := by decide +kernel
theorem eX7_estimated_8 : decode rX7_estimated.2.1 8 = .ok (.iadd, 1) := by decide +kernel
theorem eX7_estimated_9 : decode rX7_estimated.2.1 9 = .ok (.iaload, 1) := by decide +kernel
theorem eX7_estimated_10 : decode rX7_estimated.2.1 10 = .ok (.isub, 1) := by decide +kernel
theorem eX7_estimated_11 : decode rX7_estimated.2.1 11 = .ok (.invokestatic 70, 3) := by decide +kernel
theorem eX7_estimated_14 : decode rX7_estimated.2.1 14 = .ok (.istore_n 3, 1) := by decide +kernel
theorem eX7_estimated_15 : decode rX7_estimated.2.1 15 = .ok (.aload_n 0, 1) := by decide +kernel
theorem eX7_estimated_16 : decode rX7_estimated.2.1 16 = .ok (.getfield 7, 3) := by decide +kernel
theorem eX7_estimated_19 : decode rX7_estimated.2.1 19 = .ok (.bipush 12, 2) := by decide +kernel
theorem eX7_estimated_21 : decode rX7_estimated.2.1 21 = .ok (.iload_n 1, 1) := by decide +kernel
theorem eX7_estimated_22 : decode rX7_estimated.2.1 22 = .ok (.iadd, 1) := by decide +kernel
theorem eX7_estimated_23 : decode rX7_estimated.2.1 23 = .ok (.iaload, 1) := by decide +kernel
theorem eX7_estimated_24 : decode rX7_estimated.2.1 24 = .ok (.istore 4, 2) := by decide +kernel
theorem eX7_estimated_26 : decode rX7_estimated.2.1 26 = .ok (.iload 4, 2) := by decide +kernel
theorem eX7_estimated_28 : decode rX7_estimated.2.1 28 = .ok (.ifCond .eq 24, 3) := by decide +kernel
theorem eX7_estimated_31 : decode rX7_estimated.2.1 31 = .ok (.iload_n 2, 1) := by decide +kernel
theorem eX7_estimated_32 : decode rX7_estimated.2.1 32 = .ok (.aload_n 0, 1) := by decide +kernel
theorem eX7_estimated_33 : decode rX7_estimated.2.1 33 = .ok (.getfield 7, 3) := by decide +kernel
theorem eX7_estimated_36 : decode rX7_estimated.2.1 36 = .ok (.bipush 9, 2) := by decide +kernel
theorem eX7_estimated_38 : decode rX7_estimated.2.1 38 = .ok (.iload_n 1, 1) := by decide +kernel
theorem eX7_estimated_39 : decode rX7_estimated.2.1 39 = .ok (.iadd, 1) := by decide +kernel
theorem eX7_estimated_40 : decode rX7_estimated.2.1 40 = .ok (.iaload, 1) := by decide +kernel
theorem eX7_estimated_41 : decode rX7_estimated.2.1 41 = .ok (.isub, 1) := by decide +kernel
theorem eX7_estimated_42 : decode rX7_estimated.2.1 42 = .ok (.iload 4, 2) := by decide +kernel
theorem eX7_estimated_44 : decode rX7_estimated.2.1 44 = .ok (.imul, 1) := by decide +kernel
theorem eX7_estimated_45 : decode rX7_estimated.2.1 45 = .ok (.ifCond .ge 7, 3) := by decide +kernel
theorem eX7_estimated_48 : decode rX7_estimated.2.1 48 = .ok (.iconst 1, 1) := by decide +kernel
theorem eX7_estimated_49 : decode rX7_estimated.2.1 49 = .ok (.goto 4, 3) := by decide +kernel
theorem eX7_estimated_52 : decode rX7_estimated.2.1 52 = .ok (.iconst 0, 1) := by decide +kernel
theorem eX7_estimated_53 : decode rX7_estimated.2.1 53 = .ok (.istore 5, 2) := by decide +kernel
theorem eX7_estimated_55 : decode rX7_estimated.2.1 55 = .ok (.aload_n 0, 1) := by decide +kernel
theorem eX7_estimated_56 : decode rX7_estimated.2.1 56 = .ok (.iload_n 1, 1) := by decide +kernel
theorem eX7_estimated_57 : decode rX7_estimated.2.1 57 = .ok (.invokevirtual 74, 3) := by decide +kernel
theorem eX7_estimated_60 : decode rX7_estimated.2.1 60 = .ok (.iload_n 3, 1) := by decide +kernel
theorem eX7_estimated_61 : decode rX7_estimated.2.1 61 = .ok (.iadd, 1) := by decide +kernel
theorem eX7_estimated_62 : decode rX7_estimated.2.1 62 = .ok (.iload 5, 2) := by decide +kernel
theorem eX7_estimated_64 : decode rX7_estimated.2.1 64 = .ok (.ifCond .eq 15, 3) := by decide +kernel
theorem eX7_estimated_67 : decode rX7_estimated.2.1 67 = .ok (.iconst 2, 1) := by decide +kernel
theorem eX7_estimated_68 : decode rX7_estimated.2.1 68 = .ok (.aload_n 0, 1) := by decide +kernel
theorem eX7_estimated_69 : decode rX7_estimated.2.1 69 = .ok (.iload_n 1, 1) := by decide +kernel
theorem eX7_estimated_70 : decode rX7_estimated.2.1 70 = .ok (.iload 4, 2) := by decide +kernel
theorem eX7_estimated_72 : decode rX7_estimated.2.1 72 = .ok (.invokevirtual 77, 3) := by decide +kernel
theorem eX7_estimated_75 : decode rX7_estimated.2.1 75 = .ok (.imul, 1) := by decide +kernel
theorem eX7_estimated_76 : decode rX7_estimated.2.1 76 = .ok (.goto 4, 3) := by decide +kernel
theorem eX7_estimated_79 : decode rX7_estimated.2.1 79 = .ok (.iconst 0, 1) := by decide +kernel
theorem eX7_estimated_80 : decode rX7_estimated.2.1 80 = .ok (.iadd, 1) := by decide +kernel
theorem eX7_estimated_81 : decode rX7_estimated.2.1 81 = .ok (.ireturn, 1) := by decide +kernel
theorem eX7_best_0 : decode rX7_best.2.1 0 = .ok (.iconst (-1), 1) := by decide +kernel
theorem eX7_best_1 : decode rX7_best.2.1 1 = .ok (.istore_n 3, 1) := by decide +kernel
theorem eX7_best_2 : decode rX7_best.2.1 2 = .ok (.iconst 0, 1) := by decide +kernel
theorem eX7_best_3 : decode rX7_best.2.1 3 = .ok (.istore 4, 2) := by decide +kernel
theorem eX7_best_5 : decode rX7_best.2.1 5 = .ok (.iload 4, 2) := by decide +kernel
theorem eX7_best_7 : decode rX7_best.2.1 7 = .ok (.iconst 3, 1) := by decide +kernel
theorem eX7_best_8 : decode rX7_best.2.1 8 = .ok (.if_icmp .ge 71, 3) := by decide +kernel
theorem eX7_best_11 : decode rX7_best.2.1 11 = .ok (.aload_n 0, 1) := by decide +kernel
theorem eX7_best_12 : decode rX7_best.2.1 12 = .ok (.getfield 7, 3) := by decide +kernel
theorem eX7_best_15 : decode rX7_best.2.1 15 = .ok (.bipush 21, 2) := by decide +kernel
theorem eX7_best_17 : decode rX7_best.2.1 17 = .ok (.iload 4, 2) := by decide +kernel
theorem eX7_best_19 : decode rX7_best.2.1 19 = .ok (.iadd, 1) := by decide +kernel
theorem eX7_best_20 : decode rX7_best.2.1 20 = .ok (.iaload, 1) := by decide +kernel
theorem eX7_best_21 : decode rX7_best.2.1 21 = .ok (.ifCond .ne 52, 3) := by decide +kernel
theorem eX7_best_24 : decode rX7_best.2.1 24 = .ok (.aload_n 0, 1) := by decide +kernel
theorem eX7_best_25 : decode rX7_best.2.1 25 = .ok (.iload 4, 2) := by decide +kernel
theorem eX7_best_27 : decode rX7_best.2.1 27 = .ok (.invokevirtual 81, 3) := by decide +kernel
theorem eX7_best_30 : decode rX7_best.2.1 30 = .ok (.iload_n 2, 1) := by decide +kernel
theorem eX7_best_31 : decode rX7_best.2.1 31 = .ok (.iadd, 1) := by decide +kernel
theorem eX7_best_32 : decode rX7_best.2.1 32 = .ok (.aload_n 0, 1) := by decide +kernel
theorem eX7_best_33 : decode rX7_best.2.1 33 = .ok (.getfield 7, 3) := by decide +kernel
theorem eX7_best_36 : decode rX7_best.2.1 36 = .ok (.bipush 15, 2) := by decide +kernel
theorem eX7_best_38 : decode rX7_best.2.1 38 = .ok (.iload 4, 2) := by decide +kernel
theorem eX7_best_40 : decode rX7_best.2.1 40 = .ok (.iadd, 1) := by decide +kernel
theorem eX7_best_41 : decode rX7_best.2.1 41 = .ok (.iaload, 1) := by decide +kernel
theorem eX7_best_42 : decode rX7_best.2.1 42 = .ok (.if_icmp .gt 31, 3) := by decide +kernel
theorem eX7_best_45 : decode rX7_best.2.1 45 = .ok (.iload_n 3, 1) := by decide +kernel
theorem eX7_best_46 : decode rX7_best.2.1 46 = .ok (.iconst (-1), 1) := by decide +kernel
theorem eX7_best_47 : decode rX7_best.2.1 47 = .ok (.if_icmp .eq 19, 3) := by decide +kernel
theorem eX7_best_50 : decode rX7_best.2.1 50 = .ok (.aload_n 0, 1) := by decide +kernel
theorem eX7_best_51 : decode rX7_best.2.1 51 = .ok (.iload 4, 2) := by decide +kernel
theorem eX7_best_53 : decode rX7_best.2.1 53 = .ok (.iload_n 1, 1) := by decide +kernel
theorem eX7_best_54 : decode rX7_best.2.1 54 = .ok (.invokevirtual 84, 3) := by decide +kernel
theorem eX7_best_57 : decode rX7_best.2.1 57 = .ok (.aload_n 0, 1) := by decide +kernel
theorem eX7_best_58 : decode rX7_best.2.1 58 = .ok (.iload_n 3, 1) := by decide +kernel
theorem eX7_best_59 : decode rX7_best.2.1 59 = .ok (.iload_n 1, 1) := by decide +kernel
theorem eX7_best_60 : decode rX7_best.2.1 60 = .ok (.invokevirtual 84, 3) := by decide +kernel
theorem eX7_best_63 : decode rX7_best.2.1 63 = .ok (.if_icmp .ge 8, 3) := by decide +kernel
theorem eX7_best_66 : decode rX7_best.2.1 66 = .ok (.iload 4, 2) := by decide +kernel
theorem eX7_best_68 : decode rX7_best.2.1 68 = .ok (.goto 4, 3) := by decide +kernel
theorem eX7_best_71 : decode rX7_best.2.1 71 = .ok (.iload_n 3, 1) := by decide +kernel
theorem eX7_best_72 : decode rX7_best.2.1 72 = .ok (.istore_n 3, 1) := by decide +kernel
theorem eX7_best_73 : decode rX7_best.2.1 73 = .ok (.iinc 4 1, 3) := by decide +kernel
theorem eX7_best_76 : decode rX7_best.2.1 76 = .ok (.goto (-71), 3) := by decide +kernel
theorem eX7_best_79 : decode rX7_best.2.1 79 = .ok (.iload_n 3, 1) := by decide +kernel
theorem eX7_best_80 : decode rX7_best.2.1 80 = .ok (.ireturn, 1) := by decide +kernel
theorem eX7_assigns_0 : decode rX7_assigns.2.1 0 = .ok (.aload_n 0, 1) := by decide +kernel
theorem eX7_assigns_1 : decode rX7_assigns.2.1 1 = .ok (.getfield 7, 3) := by decide +kernel
theorem eX7_assigns_4 : decode rX7_assigns.2.1 4 = .ok (.bipush 87, 2) := by decide +kernel
theorem eX7_assigns_6 : decode rX7_assigns.2.1 6 = .ok (.iload_n 1, 1) := by decide +kernel
theorem eX7_assigns_7 : decode rX7_assigns.2.1 7 = .ok (.iadd, 1) := by decide +kernel
theorem eX7_assigns_8 : decode rX7_assigns.2.1 8 = .ok (.iconst 0, 1) := by decide +kernel
theorem eX7_assigns_9 : decode rX7_assigns.2.1 9 = .ok (.iastore, 1) := by decide +kernel
theorem eX7_assigns_10 : decode rX7_assigns.2.1 10 = .ok (.aload_n 0, 1) := by decide +kernel
theorem eX7_assigns_11 : decode rX7_assigns.2.1 11 = .ok (.getfield 7, 3) := by decide +kernel
theorem eX7_assigns_14 : decode rX7_assigns.2.1 14 = .ok (.bipush 87, 2) := by decide +kernel
theorem eX7_assigns_16 : decode rX7_assigns.2.1 16 = .ok (.iload_n 1, 1) := by decide +kernel
theorem eX7_assigns_17 : decode rX7_assigns.2.1 17 = .ok (.iadd, 1) := by decide +kernel
theorem eX7_assigns_18 : decode rX7_assigns.2.1 18 = .ok (.aload_n 0, 1) := by decide +kernel
theorem eX7_assigns_19 : decode rX7_assigns.2.1 19 = .ok (.aload_n 0, 1) := by decide +kernel
theorem eX7_assigns_20 : decode rX7_assigns.2.1 20 = .ok (.getfield 7, 3) := by decide +kernel
theorem eX7_assigns_23 : decode rX7_assigns.2.1 23 = .ok (.bipush 39, 2) := by decide +kernel
theorem eX7_assigns_25 : decode rX7_assigns.2.1 25 = .ok (.iload_n 1, 1) := by decide +kernel
theorem eX7_assigns_26 : decode rX7_assigns.2.1 26 = .ok (.iadd, 1) := by decide +kernel
theorem eX7_assigns_27 : decode rX7_assigns.2.1 27 = .ok (.iaload, 1) := by decide +kernel
theorem eX7_assigns_28 : decode rX7_assigns.2.1 28 = .ok (.aload_n 0, 1) := by decide +kernel
theorem eX7_assigns_29 : decode rX7_assigns.2.1 29 = .ok (.getfield 7, 3) := by decide +kernel
theorem eX7_assigns_32 : decode rX7_assigns.2.1 32 = .ok (.bipush 63, 2) := by decide +kernel
theorem eX7_assigns_34 : decode rX7_assigns.2.1 34 = .ok (.iload_n 1, 1) := by decide +kernel
theorem eX7_assigns_35 : decode rX7_assigns.2.1 35 = .ok (.iadd, 1) := by decide +kernel
theorem eX7_assigns_36 : decode rX7_assigns.2.1 36 = .ok (.iaload, 1) := by decide +kernel
theorem eX7_assigns_37 : decode rX7_assigns.2.1 37 = .ok (.invokevirtual 87, 3) := by decide +kernel
theorem eX7_assigns_40 : decode rX7_assigns.2.1 40 = .ok (.iconst 1, 1) := by decide +kernel
theorem eX7_assigns_41 : decode rX7_assigns.2.1 41 = .ok (.iadd, 1) := by decide +kernel
theorem eX7_assigns_42 : decode rX7_assigns.2.1 42 = .ok (.iastore, 1) := by decide +kernel
theorem eX7_assigns_43 : decode rX7_assigns.2.1 43 = .ok (.return_, 1) := by decide +kernel
theorem eX7_adds_0 : decode rX7_adds.2.1 0 = .ok (.iload_n 1, 1) := by decide +kernel
theorem eX7_adds_1 : decode rX7_adds.2.1 1 = .ok (.invokestatic 63, 3) := by decide +kernel
theorem eX7_adds_4 : decode rX7_adds.2.1 4 = .ok (.ifCond .eq 27, 3) := by decide +kernel
theorem eX7_adds_7 : decode rX7_adds.2.1 7 = .ok (.iload_n 2, 1) := by decide +kernel
theorem eX7_adds_8 : decode rX7_adds.2.1 8 = .ok (.invokestatic 63, 3) := by decide +kernel
theorem eX7_adds_11 : decode rX7_adds.2.1 11 = .ok (.ifCond .eq 20, 3) := by decide +kernel
theorem eX7_adds_14 : decode rX7_adds.2.1 14 = .ok (.iload_n 1, 1) := by decide +kernel
theorem eX7_adds_15 : decode rX7_adds.2.1 15 = .ok (.iload_n 2, 1) := by decide +kernel
theorem eX7_adds_16 : decode rX7_adds.2.1 16 = .ok (.if_icmp .eq 15, 3) := by decide +kernel
theorem eX7_adds_19 : decode rX7_adds.2.1 19 = .ok (.iload_n 3, 1) := by decide +kernel
theorem eX7_adds_20 : decode rX7_adds.2.1 20 = .ok (.bipush 10, 2) := by decide +kernel
theorem eX7_adds_22 : decode rX7_adds.2.1 22 = .ok (.sipush 150, 3) := by decide +kernel
theorem eX7_adds_25 : decode rX7_adds.2.1 25 = .ok (.invokestatic 52, 3) := by decide +kernel
theorem eX7_adds_28 : decode rX7_adds.2.1 28 = .ok (.ifCond .ne 9, 3) := by decide +kernel
theorem eX7_adds_31 : decode rX7_adds.2.1 31 = .ok (.aload_n 0, 1) := by decide +kernel
theorem eX7_adds_32 : decode rX7_adds.2.1 32 = .ok (.iconst 1, 1) := by decide +kernel
theorem eX7_adds_33 : decode rX7_adds.2.1 33 = .ok (.invokevirtual 90, 3) := by decide +kernel
theorem eX7_adds_36 : decode rX7_adds.2.1 36 = .ok (.ireturn, 1) := by decide +kernel
theorem eX7_adds_37 : decode rX7_adds.2.1 37 = .ok (.aload_n 0, 1) := by decide +kernel
theorem eX7_adds_38 : decode rX7_adds.2.1 38 = .ok (.getfield 7, 3) := by decide +kernel
theorem eX7_adds_41 : decode rX7_adds.2.1 41 = .ok (.iconst 1, 1) := by decide +kernel
theorem eX7_adds_42 : decode rX7_adds.2.1 42 = .ok (.iaload, 1) := by decide +kernel
theorem eX7_adds_43 : decode rX7_adds.2.1 43 = .ok (.istore 4, 2) := by decide +kernel
theorem eX7_adds_45 : decode rX7_adds.2.1 45 = .ok (.iload 4, 2) := by decide +kernel
theorem eX7_adds_47 : decode rX7_adds.2.1 47 = .ok (.bipush 12, 2) := by decide +kernel
theorem eX7_adds_49 : decode rX7_adds.2.1 49 = .ok (.if_icmp .ne 9, 3) := by decide +kernel
theorem eX7_adds_52 : decode rX7_adds.2.1 52 = .ok (.aload_n 0, 1) := by decide +kernel
theorem eX7_adds_53 : decode rX7_adds.2.1 53 = .ok (.iconst 2, 1) := by decide +kernel
theorem eX7_adds_54 : decode rX7_adds.2.1 54 = .ok (.invokevirtual 90, 3) := by decide +kernel
theorem eX7_adds_57 : decode rX7_adds.2.1 57 = .ok (.ireturn, 1) := by decide +kernel
theorem eX7_adds_58 : decode rX7_adds.2.1 58 = .ok (.aload_n 0, 1) := by decide +kernel
theorem eX7_adds_59 : decode rX7_adds.2.1 59 = .ok (.getfield 7, 3) := by decide +kernel
theorem eX7_adds_62 : decode rX7_adds.2.1 62 = .ok (.bipush 27, 2) := by decide +kernel
theorem eX7_adds_64 : decode rX7_adds.2.1 64 = .ok (.iload 4, 2) := by decide +kernel
theorem eX7_adds_66 : decode rX7_adds.2.1 66 = .ok (.iadd, 1) := by decide +kernel
theorem eX7_adds_67 : decode rX7_adds.2.1 67 = .ok (.aload_n 0, 1) := by decide +kernel
theorem eX7_adds_68 : decode rX7_adds.2.1 68 = .ok (.getfield 7, 3) := by decide +kernel
theorem eX7_adds_71 : decode rX7_adds.2.1 71 = .ok (.iconst 2, 1) := by decide +kernel
theorem eX7_adds_72 : decode rX7_adds.2.1 72 = .ok (.iaload, 1) := by decide +kernel
theorem eX7_adds_73 : decode rX7_adds.2.1 73 = .ok (.iastore, 1) := by decide +kernel
theorem eX7_adds_74 : decode rX7_adds.2.1 74 = .ok (.aload_n 0, 1) := by decide +kernel
theorem eX7_adds_75 : decode rX7_adds.2.1 75 = .ok (.getfield 7, 3) := by decide +kernel
theorem eX7_adds_78 : decode rX7_adds.2.1 78 = .ok (.bipush 39, 2) := by decide +kernel
theorem eX7_adds_80 : decode rX7_adds.2.1 80 = .ok (.iload 4, 2) := by decide +kernel
theorem eX7_adds_82 : decode rX7_adds.2.1 82 = .ok (.iadd, 1) := by decide +kernel
theorem eX7_adds_83 : decode rX7_adds.2.1 83 = .ok (.iload_n 1, 1) := by decide +kernel
theorem eX7_adds_84 : decode rX7_adds.2.1 84 = .ok (.iastore, 1) := by decide +kernel
theorem eX7_adds_85 : decode rX7_adds.2.1 85 = .ok (.aload_n 0, 1) := by decide +kernel
theorem eX7_adds_86 : decode rX7_adds.2.1 86 = .ok (.getfield 7, 3) := by decide +kernel
theorem eX7_adds_89 : decode rX7_adds.2.1 89 = .ok (.bipush 51, 2) := by decide +kernel
theorem eX7_adds_91 : decode rX7_adds.2.1 91 = .ok (.iload 4, 2) := by decide +kernel
theorem eX7_adds_93 : decode rX7_adds.2.1 93 = .ok (.iadd, 1) := by decide +kernel
theorem eX7_adds_94 : decode rX7_adds.2.1 94 = .ok (.iload_n 2, 1) := by decide +kernel
theorem eX7_adds_95 : decode rX7_adds.2.1 95 = .ok (.iastore, 1) := by decide +kernel
theorem eX7_adds_96 : decode rX7_adds.2.1 96 = .ok (.aload_n 0, 1) := by decide +kernel
theorem eX7_adds_97 : decode rX7_adds.2.1 97 = .ok (.getfield 7, 3) := by decide +kernel
theorem eX7_adds_100 : decode rX7_adds.2.1 100 = .ok (.bipush 63, 2) := by decide +kernel
theorem eX7_adds_102 : decode rX7_adds.2.1 102 = .ok (.iload 4, 2) := by decide +kernel
theorem eX7_adds_104 : decode rX7_adds.2.1 104 = .ok (.iadd, 1) := by decide +kernel
theorem eX7_adds_105 : decode rX7_adds.2.1 105 = .ok (.iload_n 3, 1) := by decide +kernel
theorem eX7_adds_106 : decode rX7_adds.2.1 106 = .ok (.iastore, 1) := by decide +kernel
theorem eX7_adds_107 : decode rX7_adds.2.1 107 = .ok (.aload_n 0, 1) := by decide +kernel
theorem eX7_adds_108 : decode rX7_adds.2.1 108 = .ok (.getfield 7, 3) := by decide +kernel
theorem eX7_adds_111 : decode rX7_adds.2.1 111 = .ok (.bipush 75, 2) := by decide +kernel
theorem eX7_adds_113 : decode rX7_adds.2.1 113 = .ok (.iload 4, 2) := by decide +kernel
theorem eX7_adds_115 : decode rX7_adds.2.1 115 = .ok (.iadd, 1) := by decide +kernel
theorem eX7_adds_116 : decode rX7_adds.2.1 116 = .ok (.iconst 0, 1) := by decide +kernel
theorem eX7_adds_117 : decode rX7_adds.2.1 117 = .ok (.iastore, 1) := by decide +kernel
theorem eX7_adds_118 : decode rX7_adds.2.1 118 = .ok (.aload_n 0, 1) := by decide +kernel
theorem eX7_adds_119 : decode rX7_adds.2.1 119 = .ok (.getfield 7, 3) := by decide +kernel
theorem eX7_adds_122 : decode rX7_adds.2.1 122 = .ok (.bipush 99, 2) := by decide +kernel
theorem eX7_adds_124 : decode rX7_adds.2.1 124 = .ok (.iload 4, 2) := by decide +kernel
theorem eX7_adds_126 : decode rX7_adds.2.1 126 = .ok (.iadd, 1) := by decide +kernel
theorem eX7_adds_127 : decode rX7_adds.2.1 127 = .ok (.iconst 0, 1) := by decide +kernel
theorem eX7_adds_128 : decode rX7_adds.2.1 128 = .ok (.iastore, 1) := by decide +kernel
theorem eX7_adds_129 : decode rX7_adds.2.1 129 = .ok (.aload_n 0, 1) := by decide +kernel
theorem eX7_adds_130 : decode rX7_adds.2.1 130 = .ok (.getfield 7, 3) := by decide +kernel
theorem eX7_adds_133 : decode rX7_adds.2.1 133 = .ok (.bipush 87, 2) := by decide +kernel
theorem eX7_adds_135 : decode rX7_adds.2.1 135 = .ok (.iload 4, 2) := by decide +kernel
theorem eX7_adds_137 : decode rX7_adds.2.1 137 = .ok (.iadd, 1) := by decide +kernel
theorem eX7_adds_138 : decode rX7_adds.2.1 138 = .ok (.iconst 0, 1) := by decide +kernel
theorem eX7_adds_139 : decode rX7_adds.2.1 139 = .ok (.iastore, 1) := by decide +kernel
theorem eX7_adds_140 : decode rX7_adds.2.1 140 = .ok (.aload_n 0, 1) := by decide +kernel
theorem eX7_adds_141 : decode rX7_adds.2.1 141 = .ok (.getfield 7, 3) := by decide +kernel
theorem eX7_adds_144 : decode rX7_adds.2.1 144 = .ok (.iconst 1, 1) := by decide +kernel
theorem eX7_adds_145 : decode rX7_adds.2.1 145 = .ok (.dup2, 1) := by decide +kernel
theorem eX7_adds_146 : decode rX7_adds.2.1 146 = .ok (.iaload, 1) := by decide +kernel
theorem eX7_adds_147 : decode rX7_adds.2.1 147 = .ok (.iconst 1, 1) := by decide +kernel
theorem eX7_adds_148 : decode rX7_adds.2.1 148 = .ok (.iadd, 1) := by decide +kernel
theorem eX7_adds_149 : decode rX7_adds.2.1 149 = .ok (.iastore, 1) := by decide +kernel
theorem eX7_adds_150 : decode rX7_adds.2.1 150 = .ok (.aload_n 0, 1) := by decide +kernel
theorem eX7_adds_151 : decode rX7_adds.2.1 151 = .ok (.getfield 7, 3) := by decide +kernel
theorem eX7_adds_154 : decode rX7_adds.2.1 154 = .ok (.iconst 2, 1) := by decide +kernel
theorem eX7_adds_155 : decode rX7_adds.2.1 155 = .ok (.dup2, 1) := by decide +kernel
theorem eX7_adds_156 : decode rX7_adds.2.1 156 = .ok (.iaload, 1) := by decide +kernel
theorem eX7_adds_157 : decode rX7_adds.2.1 157 = .ok (.iconst 1, 1) := by decide +kernel
theorem eX7_adds_158 : decode rX7_adds.2.1 158 = .ok (.iadd, 1) := by decide +kernel
theorem eX7_adds_159 : decode rX7_adds.2.1 159 = .ok (.iastore, 1) := by decide +kernel
theorem eX7_adds_160 : decode rX7_adds.2.1 160 = .ok (.aload_n 0, 1) := by decide +kernel
theorem eX7_adds_161 : decode rX7_adds.2.1 161 = .ok (.iload 4, 2) := by decide +kernel
theorem eX7_adds_163 : decode rX7_adds.2.1 163 = .ok (.invokevirtual 93, 3) := by decide +kernel
theorem eX7_adds_166 : decode rX7_adds.2.1 166 = .ok (.aload_n 0, 1) := by decide +kernel
theorem eX7_adds_167 : decode rX7_adds.2.1 167 = .ok (.iload 4, 2) := by decide +kernel
theorem eX7_adds_169 : decode rX7_adds.2.1 169 = .ok (.invokevirtual 97, 3) := by decide +kernel
theorem eX7_adds_172 : decode rX7_adds.2.1 172 = .ok (.ireturn, 1) := by decide +kernel
theorem eX7_addPassenger_0 : decode rX7_addPassenger.2.1 0 = .ok (.aload_n 0, 1) := by decide +kernel
theorem eX7_addPassenger_1 : decode rX7_addPassenger.2.1 1 = .ok (.invokevirtual 100, 3) := by decide +kernel
theorem eX7_addPassenger_4 : decode rX7_addPassenger.2.1 4 = .ok (.aload_n 0, 1) := by decide +kernel
theorem eX7_addPassenger_5 : decode rX7_addPassenger.2.1 5 = .ok (.aload_n 0, 1) := by decide +kernel
theorem eX7_addPassenger_6 : decode rX7_addPassenger.2.1 6 = .ok (.iload_n 1, 1) := by decide +kernel
theorem eX7_addPassenger_7 : decode rX7_addPassenger.2.1 7 = .ok (.iload_n 2, 1) := by decide +kernel
theorem eX7_addPassenger_8 : decode rX7_addPassenger.2.1 8 = .ok (.iload_n 3, 1) := by decide +kernel
theorem eX7_addPassenger_9 : decode rX7_addPassenger.2.1 9 = .ok (.invokevirtual 103, 3) := by decide +kernel
theorem eX7_addPassenger_12 : decode rX7_addPassenger.2.1 12 = .ok (.invokevirtual 107, 3) := by decide +kernel
theorem eX7_addPassenger_15 : decode rX7_addPassenger.2.1 15 = .ok (.ireturn, 1) := by decide +kernel
theorem eX7_drops_0 : decode rX7_drops.2.1 0 = .ok (.bipush 27, 2) := by decide +kernel
theorem eX7_drops_2 : decode rX7_drops.2.1 2 = .ok (.istore_n 2, 1) := by decide +kernel
theorem eX7_drops_3 : decode rX7_drops.2.1 3 = .ok (.iload_n 2, 1) := by decide +kernel
theorem eX7_drops_4 : decode rX7_drops.2.1 4 = .ok (.bipush 111, 2) := by decide +kernel
theorem eX7_drops_6 : decode rX7_drops.2.1 6 = .ok (.if_icmp .ge 51, 3) := by decide +kernel
theorem eX7_drops_9 : decode rX7_drops.2.1 9 = .ok (.iload_n 1, 1) := by decide +kernel
theorem eX7_drops_10 : decode rX7_drops.2.1 10 = .ok (.istore_n 3, 1) := by decide +kernel
theorem eX7_drops_11 : decode rX7_drops.2.1 11 = .ok (.iload_n 3, 1) := by decide +kernel
theorem eX7_drops_12 : decode rX7_drops.2.1 12 = .ok (.bipush 12, 2) := by decide +kernel
theorem eX7_drops_14 : decode rX7_drops.2.1 14 = .ok (.if_icmp .ge 37, 3) := by decide +kernel
theorem eX7_drops_17 : decode rX7_drops.2.1 17 = .ok (.aload_n 0, 1) := by decide +kernel
theorem eX7_drops_18 : decode rX7_drops.2.1 18 = .ok (.getfield 7, 3) := by decide +kernel
theorem eX7_drops_21 : decode rX7_drops.2.1 21 = .ok (.iload_n 2, 1) := by decide +kernel
theorem eX7_drops_22 : decode rX7_drops.2.1 22 = .ok (.iload_n 3, 1) := by decide +kernel
theorem eX7_drops_23 : decode rX7_drops.2.1 23 = .ok (.iadd, 1) := by decide +kernel
theorem eX7_drops_24 : decode rX7_drops.2.1 24 = .ok (.iload_n 3, 1) := by decide +kernel
theorem eX7_drops_25 : decode rX7_drops.2.1 25 = .ok (.bipush 11, 2) := by decide +kernel
theorem eX7_drops_27 : decode rX7_drops.2.1 27 = .ok (.if_icmp .ge 16, 3) := by decide +kernel
theorem eX7_drops_30 : decode rX7_drops.2.1 30 = .ok (.aload_n 0, 1) := by decide +kernel
theorem eX7_drops_31 : decode rX7_drops.2.1 31 = .ok (.getfield 7, 3) := by decide +kernel
theorem eX7_drops_34 : decode rX7_drops.2.1 34 = .ok (.iload_n 2, 1) := by decide +kernel
theorem eX7_drops_35 : decode rX7_drops.2.1 35 = .ok (.iload_n 3, 1) := by decide +kernel
theorem eX7_drops_36 : decode rX7_drops.2.1 36 = .ok (.iadd, 1) := by decide +kernel
theorem eX7_drops_37 : decode rX7_drops.2.1 37 = .ok (.iconst 1, 1) := by decide +kernel
theorem eX7_drops_38 : decode rX7_drops.2.1 38 = .ok (.iadd, 1) := by decide +kernel
theorem eX7_drops_39 : decode rX7_drops.2.1 39 = .ok (.iaload, 1) := by decide +kernel
theorem eX7_drops_40 : decode rX7_drops.2.1 40 = .ok (.goto 4, 3) := by decide +kernel
theorem eX7_drops_43 : decode rX7_drops.2.1 43 = .ok (.iconst 0, 1) := by decide +kernel
theorem eX7_drops_44 : decode rX7_drops.2.1 44 = .ok (.iastore, 1) := by decide +kernel
theorem eX7_drops_45 : decode rX7_drops.2.1 45 = .ok (.iinc 3 1, 3) := by decide +kernel
theorem eX7_drops_48 : decode rX7_drops.2.1 48 = .ok (.goto (-37), 3) := by decide +kernel
theorem eX7_drops_51 : decode rX7_drops.2.1 51 = .ok (.iinc 2 12, 3) := by decide +kernel
theorem eX7_drops_54 : decode rX7_drops.2.1 54 = .ok (.goto (-51), 3) := by decide +kernel
theorem eX7_drops_57 : decode rX7_drops.2.1 57 = .ok (.aload_n 0, 1) := by decide +kernel
theorem eX7_drops_58 : decode rX7_drops.2.1 58 = .ok (.getfield 7, 3) := by decide +kernel
theorem eX7_drops_61 : decode rX7_drops.2.1 61 = .ok (.iconst 1, 1) := by decide +kernel
theorem eX7_drops_62 : decode rX7_drops.2.1 62 = .ok (.dup2, 1) := by decide +kernel
theorem eX7_drops_63 : decode rX7_drops.2.1 63 = .ok (.iaload, 1) := by decide +kernel
theorem eX7_drops_64 : decode rX7_drops.2.1 64 = .ok (.iconst 1, 1) := by decide +kernel
theorem eX7_drops_65 : decode rX7_drops.2.1 65 = .ok (.isub, 1) := by decide +kernel
theorem eX7_drops_66 : decode rX7_drops.2.1 66 = .ok (.iastore, 1) := by decide +kernel
theorem eX7_drops_67 : decode rX7_drops.2.1 67 = .ok (.return_, 1) := by decide +kernel
theorem eX7_removes_0 : decode rX7_removes.2.1 0 = .ok (.aload_n 0, 1) := by decide +kernel
theorem eX7_removes_1 : decode rX7_removes.2.1 1 = .ok (.iload_n 1, 1) := by decide +kernel
theorem eX7_removes_2 : decode rX7_removes.2.1 2 = .ok (.invokevirtual 110, 3) := by decide +kernel
theorem eX7_removes_5 : decode rX7_removes.2.1 5 = .ok (.ifCond .ne 9, 3) := by decide +kernel
theorem eX7_removes_8 : decode rX7_removes.2.1 8 = .ok (.aload_n 0, 1) := by decide +kernel
theorem eX7_removes_9 : decode rX7_removes.2.1 9 = .ok (.iconst 1, 1) := by decide +kernel
theorem eX7_removes_10 : decode rX7_removes.2.1 10 = .ok (.invokevirtual 90, 3) := by decide +kernel
theorem eX7_removes_13 : decode rX7_removes.2.1 13 = .ok (.ireturn, 1) := by decide +kernel
theorem eX7_removes_14 : decode rX7_removes.2.1 14 = .ok (.aload_n 0, 1) := by decide +kernel
theorem eX7_removes_15 : decode rX7_removes.2.1 15 = .ok (.getfield 7, 3) := by decide +kernel
theorem eX7_removes_18 : decode rX7_removes.2.1 18 = .ok (.bipush 99, 2) := by decide +kernel
theorem eX7_removes_20 : decode rX7_removes.2.1 20 = .ok (.iload_n 1, 1) := by decide +kernel
theorem eX7_removes_21 : decode rX7_removes.2.1 21 = .ok (.iadd, 1) := by decide +kernel
theorem eX7_removes_22 : decode rX7_removes.2.1 22 = .ok (.iaload, 1) := by decide +kernel
theorem eX7_removes_23 : decode rX7_removes.2.1 23 = .ok (.iconst 1, 1) := by decide +kernel
theorem eX7_removes_24 : decode rX7_removes.2.1 24 = .ok (.if_icmp .ne 9, 3) := by decide +kernel
theorem eX7_removes_27 : decode rX7_removes.2.1 27 = .ok (.aload_n 0, 1) := by decide +kernel
theorem eX7_removes_28 : decode rX7_removes.2.1 28 = .ok (.iconst 2, 1) := by decide +kernel
theorem eX7_removes_29 : decode rX7_removes.2.1 29 = .ok (.invokevirtual 90, 3) := by decide +kernel
theorem eX7_removes_32 : decode rX7_removes.2.1 32 = .ok (.ireturn, 1) := by decide +kernel
theorem eX7_removes_33 : decode rX7_removes.2.1 33 = .ok (.aload_n 0, 1) := by decide +kernel
theorem eX7_removes_34 : decode rX7_removes.2.1 34 = .ok (.getfield 7, 3) := by decide +kernel
theorem eX7_removes_37 : decode rX7_removes.2.1 37 = .ok (.bipush 27, 2) := by decide +kernel
theorem eX7_removes_39 : decode rX7_removes.2.1 39 = .ok (.iload_n 1, 1) := by decide +kernel
theorem eX7_removes_40 : decode rX7_removes.2.1 40 = .ok (.iadd, 1) := by decide +kernel
theorem eX7_removes_41 : decode rX7_removes.2.1 41 = .ok (.iaload, 1) := by decide +kernel
theorem eX7_removes_42 : decode rX7_removes.2.1 42 = .ok (.istore_n 2, 1) := by decide +kernel
theorem eX7_removes_43 : decode rX7_removes.2.1 43 = .ok (.aload_n 0, 1) := by decide +kernel
theorem eX7_removes_44 : decode rX7_removes.2.1 44 = .ok (.iload_n 1, 1) := by decide +kernel
theorem eX7_removes_45 : decode rX7_removes.2.1 45 = .ok (.invokevirtual 113, 3) := by decide +kernel
theorem eX7_removes_48 : decode rX7_removes.2.1 48 = .ok (.aload_n 0, 1) := by decide +kernel
theorem eX7_removes_49 : decode rX7_removes.2.1 49 = .ok (.iload_n 2, 1) := by decide +kernel
theorem eX7_removes_50 : decode rX7_removes.2.1 50 = .ok (.invokevirtual 97, 3) := by decide +kernel
theorem eX7_removes_53 : decode rX7_removes.2.1 53 = .ok (.ireturn, 1) := by decide +kernel
theorem eX7_removePassenger_0 : decode rX7_removePassenger.2.1 0 = .ok (.aload_n 0, 1) := by decide +kernel
theorem eX7_removePassenger_1 : decode rX7_removePassenger.2.1 1 = .ok (.invokevirtual 100, 3) := by decide +kernel
theorem eX7_removePassenger_4 : decode rX7_removePassenger.2.1 4 = .ok (.aload_n 0, 1) := by decide +kernel
theorem eX7_removePassenger_5 : decode rX7_removePassenger.2.1 5 = .ok (.aload_n 0, 1) := by decide +kernel
theorem eX7_removePassenger_6 : decode rX7_removePassenger.2.1 6 = .ok (.iload_n 1, 1) := by decide +kernel
theorem eX7_removePassenger_7 : decode rX7_removePassenger.2.1 7 = .ok (.invokevirtual 116, 3) := by decide +kernel
theorem eX7_removePassenger_10 : decode rX7_removePassenger.2.1 10 = .ok (.invokevirtual 107, 3) := by decide +kernel
theorem eX7_removePassenger_13 : decode rX7_removePassenger.2.1 13 = .ok (.ireturn, 1) := by decide +kernel
theorem eX7_holds_0 : decode rX7_holds.2.1 0 = .ok (.iload_n 1, 1) := by decide +kernel
theorem eX7_holds_1 : decode rX7_holds.2.1 1 = .ok (.invokestatic 119, 3) := by decide +kernel
theorem eX7_holds_4 : decode rX7_holds.2.1 4 = .ok (.ifCond .ne 9, 3) := by decide +kernel
theorem eX7_holds_7 : decode rX7_holds.2.1 7 = .ok (.aload_n 0, 1) := by decide +kernel
theorem eX7_holds_8 : decode rX7_holds.2.1 8 = .ok (.iconst 1, 1) := by decide +kernel
theorem eX7_holds_9 : decode rX7_holds.2.1 9 = .ok (.invokevirtual 90, 3) := by decide +kernel
theorem eX7_holds_12 : decode rX7_holds.2.1 12 = .ok (.ireturn, 1) := by decide +kernel
theorem eX7_holds_13 : decode rX7_holds.2.1 13 = .ok (.iload_n 2, 1) := by decide +kernel
theorem eX7_holds_14 : decode rX7_holds.2.1 14 = .ok (.iconst 1, 1) := by decide +kernel
theorem eX7_holds_15 : decode rX7_holds.2.1 15 = .ok (.iconst 3, 1) := by decide +kernel
theorem eX7_holds_16 : decode rX7_holds.2.1 16 = .ok (.invokestatic 52, 3) := by decide +kernel
theorem eX7_holds_19 : decode rX7_holds.2.1 19 = .ok (.ifCond .ne 9, 3) := by decide +kernel
theorem eX7_holds_22 : decode rX7_holds.2.1 22 = .ok (.aload_n 0, 1) := by decide +kernel
theorem eX7_holds_23 : decode rX7_holds.2.1 23 = .ok (.iconst 2, 1) := by decide +kernel
theorem eX7_holds_24 : decode rX7_holds.2.1 24 = .ok (.invokevirtual 90, 3) := by decide +kernel
theorem eX7_holds_27 : decode rX7_holds.2.1 27 = .ok (.ireturn, 1) := by decide +kernel
theorem eX7_holds_28 : decode rX7_holds.2.1 28 = .ok (.aload_n 0, 1) := by decide +kernel
theorem eX7_holds_29 : decode rX7_holds.2.1 29 = .ok (.getfield 7, 3) := by decide +kernel
theorem eX7_holds_32 : decode rX7_holds.2.1 32 = .ok (.bipush 18, 2) := by decide +kernel
theorem eX7_holds_34 : decode rX7_holds.2.1 34 = .ok (.iload_n 1, 1) := by decide +kernel
theorem eX7_holds_35 : decode rX7_holds.2.1 35 = .ok (.iadd, 1) := by decide +kernel
theorem eX7_holds_36 : decode rX7_holds.2.1 36 = .ok (.iaload, 1) := by decide +kernel
theorem eX7_holds_37 : decode rX7_holds.2.1 37 = .ok (.istore_n 3, 1) := by decide +kernel
theorem eX7_holds_38 : decode rX7_holds.2.1 38 = .ok (.iload_n 3, 1) := by decide +kernel
theorem eX7_holds_39 : decode rX7_holds.2.1 39 = .ok (.ifCond .ne 9, 3) := by decide +kernel
theorem eX7_holds_42 : decode rX7_holds.2.1 42 = .ok (.aload_n 0, 1) := by decide +kernel
theorem eX7_holds_43 : decode rX7_holds.2.1 43 = .ok (.iconst 3, 1) := by decide +kernel
theorem eX7_holds_44 : decode rX7_holds.2.1 44 = .ok (.invokevirtual 90, 3) := by decide +kernel
theorem eX7_holds_47 : decode rX7_holds.2.1 47 = .ok (.ireturn, 1) := by decide +kernel
theorem eX7_holds_48 : decode rX7_holds.2.1 48 = .ok (.aload_n 0, 1) := by decide +kernel
theorem eX7_holds_49 : decode rX7_holds.2.1 49 = .ok (.getfield 7, 3) := by decide +kernel
theorem eX7_holds_52 : decode rX7_holds.2.1 52 = .ok (.bipush 18, 2) := by decide +kernel
theorem eX7_holds_54 : decode rX7_holds.2.1 54 = .ok (.iload_n 1, 1) := by decide +kernel
theorem eX7_holds_55 : decode rX7_holds.2.1 55 = .ok (.iadd, 1) := by decide +kernel
theorem eX7_holds_56 : decode rX7_holds.2.1 56 = .ok (.iload_n 2, 1) := by decide +kernel
theorem eX7_holds_57 : decode rX7_holds.2.1 57 = .ok (.iastore, 1) := by decide +kernel
theorem eX7_holds_58 : decode rX7_holds.2.1 58 = .ok (.aload_n 0, 1) := by decide +kernel
theorem eX7_holds_59 : decode rX7_holds.2.1 59 = .ok (.iload_n 3, 1) := by decide +kernel
theorem eX7_holds_60 : decode rX7_holds.2.1 60 = .ok (.invokevirtual 97, 3) := by decide +kernel
theorem eX7_holds_63 : decode rX7_holds.2.1 63 = .ok (.ireturn, 1) := by decide +kernel
theorem eX7_holdDoors_0 : decode rX7_holdDoors.2.1 0 = .ok (.aload_n 0, 1) := by decide +kernel
theorem eX7_holdDoors_1 : decode rX7_holdDoors.2.1 1 = .ok (.invokevirtual 100, 3) := by decide +kernel
theorem eX7_holdDoors_4 : decode rX7_holdDoors.2.1 4 = .ok (.aload_n 0, 1) := by decide +kernel
theorem eX7_holdDoors_5 : decode rX7_holdDoors.2.1 5 = .ok (.aload_n 0, 1) := by decide +kernel
theorem eX7_holdDoors_6 : decode rX7_holdDoors.2.1 6 = .ok (.iload_n 1, 1) := by decide +kernel
theorem eX7_holdDoors_7 : decode rX7_holdDoors.2.1 7 = .ok (.iload_n 2, 1) := by decide +kernel
theorem eX7_holdDoors_8 : decode rX7_holdDoors.2.1 8 = .ok (.invokevirtual 122, 3) := by decide +kernel
theorem eX7_holdDoors_11 : decode rX7_holdDoors.2.1 11 = .ok (.invokevirtual 107, 3) := by decide +kernel
theorem eX7_holdDoors_14 : decode rX7_holdDoors.2.1 14 = .ok (.ireturn, 1) := by decide +kernel
theorem eX7_stops_0 : decode rX7_stops.2.1 0 = .ok (.iload_n 1, 1) := by decide +kernel
theorem eX7_stops_1 : decode rX7_stops.2.1 1 = .ok (.invokestatic 119, 3) := by decide +kernel
theorem eX7_stops_4 : decode rX7_stops.2.1 4 = .ok (.ifCond .ne 9, 3) := by decide +kernel
theorem eX7_stops_7 : decode rX7_stops.2.1 7 = .ok (.aload_n 0, 1) := by decide +kernel
theorem eX7_stops_8 : decode rX7_stops.2.1 8 = .ok (.iconst 1, 1) := by decide +kernel
theorem eX7_stops_9 : decode rX7_stops.2.1 9 = .ok (.invokevirtual 90, 3) := by decide +kernel
theorem eX7_stops_12 : decode rX7_stops.2.1 12 = .ok (.ireturn, 1) := by decide +kernel
theorem eX7_stops_13 : decode rX7_stops.2.1 13 = .ok (.aload_n 0, 1) := by decide +kernel
theorem eX7_stops_14 : decode rX7_stops.2.1 14 = .ok (.getfield 7, 3) := by decide +kernel
theorem eX7_stops_17 : decode rX7_stops.2.1 17 = .ok (.bipush 21, 2) := by decide +kernel
theorem eX7_stops_19 : decode rX7_stops.2.1 19 = .ok (.iload_n 1, 1) := by decide +kernel
theorem eX7_stops_20 : decode rX7_stops.2.1 20 = .ok (.iadd, 1) := by decide +kernel
theorem eX7_stops_21 : decode rX7_stops.2.1 21 = .ok (.iaload, 1) := by decide +kernel
theorem eX7_stops_22 : decode rX7_stops.2.1 22 = .ok (.iconst 1, 1) := by decide +kernel
theorem eX7_stops_23 : decode rX7_stops.2.1 23 = .ok (.if_icmp .ne 9, 3) := by decide +kernel
theorem eX7_stops_26 : decode rX7_stops.2.1 26 = .ok (.aload_n 0, 1) := by decide +kernel
theorem eX7_stops_27 : decode rX7_stops.2.1 27 = .ok (.iconst 2, 1) := by decide +kernel
theorem eX7_stops_28 : decode rX7_stops.2.1 28 = .ok (.invokevirtual 90, 3) := by decide +kernel
theorem eX7_stops_31 : decode rX7_stops.2.1 31 = .ok (.ireturn, 1) := by decide +kernel
theorem eX7_stops_32 : decode rX7_stops.2.1 32 = .ok (.iconst 0, 1) := by decide +kernel
theorem eX7_stops_33 : decode rX7_stops.2.1 33 = .ok (.istore_n 2, 1) := by decide +kernel
theorem eX7_stops_34 : decode rX7_stops.2.1 34 = .ok (.iconst 0, 1) := by decide +kernel
theorem eX7_stops_35 : decode rX7_stops.2.1 35 = .ok (.istore_n 3, 1) := by decide +kernel
theorem eX7_stops_36 : decode rX7_stops.2.1 36 = .ok (.iload_n 3, 1) := by decide +kernel
theorem eX7_stops_37 : decode rX7_stops.2.1 37 = .ok (.aload_n 0, 1) := by decide +kernel
theorem eX7_stops_38 : decode rX7_stops.2.1 38 = .ok (.getfield 7, 3) := by decide +kernel
theorem eX7_stops_41 : decode rX7_stops.2.1 41 = .ok (.iconst 1, 1) := by decide +kernel
theorem eX7_stops_42 : decode rX7_stops.2.1 42 = .ok (.iaload, 1) := by decide +kernel
theorem eX7_stops_43 : decode rX7_stops.2.1 43 = .ok (.if_icmp .ge 31, 3) := by decide +kernel
theorem eX7_stops_46 : decode rX7_stops.2.1 46 = .ok (.aload_n 0, 1) := by decide +kernel
theorem eX7_stops_47 : decode rX7_stops.2.1 47 = .ok (.iload_n 3, 1) := by decide +kernel
theorem eX7_stops_48 : decode rX7_stops.2.1 48 = .ok (.iload_n 1, 1) := by decide +kernel
theorem eX7_stops_49 : decode rX7_stops.2.1 49 = .ok (.invokevirtual 60, 3) := by decide +kernel
theorem eX7_stops_52 : decode rX7_stops.2.1 52 = .ok (.ifCond .eq 16, 3) := by decide +kernel
theorem eX7_stops_55 : decode rX7_stops.2.1 55 = .ok (.aload_n 0, 1) := by decide +kernel
theorem eX7_stops_56 : decode rX7_stops.2.1 56 = .ok (.getfield 7, 3) := by decide +kernel
theorem eX7_stops_59 : decode rX7_stops.2.1 59 = .ok (.bipush 87, 2) := by decide +kernel
theorem eX7_stops_61 : decode rX7_stops.2.1 61 = .ok (.iload_n 3, 1) := by decide +kernel
theorem eX7_stops_62 : decode rX7_stops.2.1 62 = .ok (.iadd, 1) := by decide +kernel
theorem eX7_stops_63 : decode rX7_stops.2.1 63 = .ok (.iconst 0, 1) := by decide +kernel
theorem eX7_stops_64 : decode rX7_stops.2.1 64 = .ok (.iastore, 1) := by decide +kernel
theorem eX7_stops_65 : decode rX7_stops.2.1 65 = .ok (.iinc 2 1, 3) := by decide +kernel
theorem eX7_stops_68 : decode rX7_stops.2.1 68 = .ok (.iinc 3 1, 3) := by decide +kernel
theorem eX7_stops_71 : decode rX7_stops.2.1 71 = .ok (.goto (-35), 3) := by decide +kernel
theorem eX7_stops_74 : decode rX7_stops.2.1 74 = .ok (.aload_n 0, 1) := by decide +kernel
theorem eX7_stops_75 : decode rX7_stops.2.1 75 = .ok (.getfield 7, 3) := by decide +kernel
theorem eX7_stops_78 : decode rX7_stops.2.1 78 = .ok (.bipush 21, 2) := by decide +kernel
theorem eX7_stops_80 : decode rX7_stops.2.1 80 = .ok (.iload_n 1, 1) := by decide +kernel
theorem eX7_stops_81 : decode rX7_stops.2.1 81 = .ok (.iadd, 1) := by decide +kernel
theorem eX7_stops_82 : decode rX7_stops.2.1 82 = .ok (.iconst 1, 1) := by decide +kernel
theorem eX7_stops_83 : decode rX7_stops.2.1 83 = .ok (.iastore, 1) := by decide +kernel
theorem eX7_stops_84 : decode rX7_stops.2.1 84 = .ok (.aload_n 0, 1) := by decide +kernel
theorem eX7_stops_85 : decode rX7_stops.2.1 85 = .ok (.iload_n 2, 1) := by decide +kernel
theorem eX7_stops_86 : decode rX7_stops.2.1 86 = .ok (.invokevirtual 97, 3) := by decide +kernel
theorem eX7_stops_89 : decode rX7_stops.2.1 89 = .ok (.ireturn, 1) := by decide +kernel
theorem eX7_stopCar_0 : decode rX7_stopCar.2.1 0 = .ok (.aload_n 0, 1) := by decide +kernel
theorem eX7_stopCar_1 : decode rX7_stopCar.2.1 1 = .ok (.invokevirtual 100, 3) := by decide +kernel
theorem eX7_stopCar_4 : decode rX7_stopCar.2.1 4 = .ok (.aload_n 0, 1) := by decide +kernel
theorem eX7_stopCar_5 : decode rX7_stopCar.2.1 5 = .ok (.aload_n 0, 1) := by decide +kernel
theorem eX7_stopCar_6 : decode rX7_stopCar.2.1 6 = .ok (.iload_n 1, 1) := by decide +kernel
theorem eX7_stopCar_7 : decode rX7_stopCar.2.1 7 = .ok (.invokevirtual 125, 3) := by decide +kernel
theorem eX7_stopCar_10 : decode rX7_stopCar.2.1 10 = .ok (.invokevirtual 107, 3) := by decide +kernel
theorem eX7_stopCar_13 : decode rX7_stopCar.2.1 13 = .ok (.ireturn, 1) := by decide +kernel
theorem eX7_starts_0 : decode rX7_starts.2.1 0 = .ok (.iload_n 1, 1) := by decide +kernel
theorem eX7_starts_1 : decode rX7_starts.2.1 1 = .ok (.invokestatic 119, 3) := by decide +kernel
theorem eX7_starts_4 : decode rX7_starts.2.1 4 = .ok (.ifCond .ne 9, 3) := by decide +kernel
theorem eX7_starts_7 : decode rX7_starts.2.1 7 = .ok (.aload_n 0, 1) := by decide +kernel
theorem eX7_starts_8 : decode rX7_starts.2.1 8 = .ok (.iconst 1, 1) := by decide +kernel
theorem eX7_starts_9 : decode rX7_starts.2.1 9 = .ok (.invokevirtual 90, 3) := by decide +kernel
theorem eX7_starts_12 : decode rX7_starts.2.1 12 = .ok (.ireturn, 1) := by decide +kernel
theorem eX7_starts_13 : decode rX7_starts.2.1 13 = .ok (.aload_n 0, 1) := by decide +kernel
theorem eX7_starts_14 : decode rX7_starts.2.1 14 = .ok (.getfield 7, 3) := by decide +kernel
theorem eX7_starts_17 : decode rX7_starts.2.1 17 = .ok (.bipush 21, 2) := by decide +kernel
theorem eX7_starts_19 : decode rX7_starts.2.1 19 = .ok (.iload_n 1, 1) := by decide +kernel
theorem eX7_starts_20 : decode rX7_starts.2.1 20 = .ok (.iadd, 1) := by decide +kernel
theorem eX7_starts_21 : decode rX7_starts.2.1 21 = .ok (.iaload, 1) := by decide +kernel
theorem eX7_starts_22 : decode rX7_starts.2.1 22 = .ok (.ifCond .ne 9, 3) := by decide +kernel
theorem eX7_starts_25 : decode rX7_starts.2.1 25 = .ok (.aload_n 0, 1) := by decide +kernel
theorem eX7_starts_26 : decode rX7_starts.2.1 26 = .ok (.iconst 2, 1) := by decide +kernel
theorem eX7_starts_27 : decode rX7_starts.2.1 27 = .ok (.invokevirtual 90, 3) := by decide +kernel
theorem eX7_starts_30 : decode rX7_starts.2.1 30 = .ok (.ireturn, 1) := by decide +kernel
theorem eX7_starts_31 : decode rX7_starts.2.1 31 = .ok (.aload_n 0, 1) := by decide +kernel
theorem eX7_starts_32 : decode rX7_starts.2.1 32 = .ok (.getfield 7, 3) := by decide +kernel
theorem eX7_starts_35 : decode rX7_starts.2.1 35 = .ok (.bipush 21, 2) := by decide +kernel
theorem eX7_starts_37 : decode rX7_starts.2.1 37 = .ok (.iload_n 1, 1) := by decide +kernel
theorem eX7_starts_38 : decode rX7_starts.2.1 38 = .ok (.iadd, 1) := by decide +kernel
theorem eX7_starts_39 : decode rX7_starts.2.1 39 = .ok (.iconst 0, 1) := by decide +kernel
theorem eX7_starts_40 : decode rX7_starts.2.1 40 = .ok (.iastore, 1) := by decide +kernel
theorem eX7_starts_41 : decode rX7_starts.2.1 41 = .ok (.aload_n 0, 1) := by decide +kernel
theorem eX7_starts_42 : decode rX7_starts.2.1 42 = .ok (.iconst 3, 1) := by decide +kernel
theorem eX7_starts_43 : decode rX7_starts.2.1 43 = .ok (.aload_n 0, 1) := by decide +kernel
theorem eX7_starts_44 : decode rX7_starts.2.1 44 = .ok (.getfield 7, 3) := by decide +kernel
theorem eX7_starts_47 : decode rX7_starts.2.1 47 = .ok (.bipush 21, 2) := by decide +kernel
theorem eX7_starts_49 : decode rX7_starts.2.1 49 = .ok (.iaload, 1) := by decide +kernel
theorem eX7_starts_50 : decode rX7_starts.2.1 50 = .ok (.isub, 1) := by decide +kernel
theorem eX7_starts_51 : decode rX7_starts.2.1 51 = .ok (.aload_n 0, 1) := by decide +kernel
theorem eX7_starts_52 : decode rX7_starts.2.1 52 = .ok (.getfield 7, 3) := by decide +kernel
theorem eX7_starts_55 : decode rX7_starts.2.1 55 = .ok (.bipush 22, 2) := by decide +kernel
theorem eX7_starts_57 : decode rX7_starts.2.1 57 = .ok (.iaload, 1) := by decide +kernel
theorem eX7_starts_58 : decode rX7_starts.2.1 58 = .ok (.isub, 1) := by decide +kernel
theorem eX7_starts_59 : decode rX7_starts.2.1 59 = .ok (.aload_n 0, 1) := by decide +kernel
theorem eX7_starts_60 : decode rX7_starts.2.1 60 = .ok (.getfield 7, 3) := by decide +kernel
theorem eX7_starts_63 : decode rX7_starts.2.1 63 = .ok (.bipush 23, 2) := by decide +kernel
theorem eX7_starts_65 : decode rX7_starts.2.1 65 = .ok (.iaload, 1) := by decide +kernel
theorem eX7_starts_66 : decode rX7_starts.2.1 66 = .ok (.isub, 1) := by decide +kernel
theorem eX7_starts_67 : decode rX7_starts.2.1 67 = .ok (.invokevirtual 97, 3) := by decide +kernel
theorem eX7_starts_70 : decode rX7_starts.2.1 70 = .ok (.ireturn, 1) := by decide +kernel
theorem eX7_startCar_0 : decode rX7_startCar.2.1 0 = .ok (.aload_n 0, 1) := by decide +kernel
theorem eX7_startCar_1 : decode rX7_startCar.2.1 1 = .ok (.invokevirtual 100, 3) := by decide +kernel
theorem eX7_startCar_4 : decode rX7_startCar.2.1 4 = .ok (.aload_n 0, 1) := by decide +kernel
theorem eX7_startCar_5 : decode rX7_startCar.2.1 5 = .ok (.aload_n 0, 1) := by decide +kernel
theorem eX7_startCar_6 : decode rX7_startCar.2.1 6 = .ok (.iload_n 1, 1) := by decide +kernel
theorem eX7_startCar_7 : decode rX7_startCar.2.1 7 = .ok (.invokevirtual 128, 3) := by decide +kernel
theorem eX7_startCar_10 : decode rX7_startCar.2.1 10 = .ok (.invokevirtual 107, 3) := by decide +kernel
theorem eX7_startCar_13 : decode rX7_startCar.2.1 13 = .ok (.ireturn, 1) := by decide +kernel
theorem eX7_limits_0 : decode rX7_limits.2.1 0 = .ok (.iload_n 1, 1) := by decide +kernel
theorem eX7_limits_1 : decode rX7_limits.2.1 1 = .ok (.invokestatic 119, 3) := by decide +kernel
theorem eX7_limits_4 : decode rX7_limits.2.1 4 = .ok (.ifCond .ne 9, 3) := by decide +kernel
theorem eX7_limits_7 : decode rX7_limits.2.1 7 = .ok (.aload_n 0, 1) := by decide +kernel
theorem eX7_limits_8 : decode rX7_limits.2.1 8 = .ok (.iconst 1, 1) := by decide +kernel
theorem eX7_limits_9 : decode rX7_limits.2.1 9 = .ok (.invokevirtual 90, 3) := by decide +kernel
theorem eX7_limits_12 : decode rX7_limits.2.1 12 = .ok (.ireturn, 1) := by decide +kernel
theorem eX7_limits_13 : decode rX7_limits.2.1 13 = .ok (.iload_n 2, 1) := by decide +kernel
theorem eX7_limits_14 : decode rX7_limits.2.1 14 = .ok (.bipush 100, 2) := by decide +kernel
theorem eX7_limits_16 : decode rX7_limits.2.1 16 = .ok (.sipush 900, 3) := by decide +kernel
theorem eX7_limits_19 : decode rX7_limits.2.1 19 = .ok (.invokestatic 52, 3) := by decide +kernel
theorem eX7_limits_22 : decode rX7_limits.2.1 22 = .ok (.ifCond .ne 9, 3) := by decide +kernel
theorem eX7_limits_25 : decode rX7_limits.2.1 25 = .ok (.aload_n 0, 1) := by decide +kernel
theorem eX7_limits_26 : decode rX7_limits.2.1 26 = .ok (.iconst 2, 1) := by decide +kernel
theorem eX7_limits_27 : decode rX7_limits.2.1 27 = .ok (.invokevirtual 90, 3) := by decide +kernel
theorem eX7_limits_30 : decode rX7_limits.2.1 30 = .ok (.ireturn, 1) := by decide +kernel
theorem eX7_limits_31 : decode rX7_limits.2.1 31 = .ok (.aload_n 0, 1) := by decide +kernel
theorem eX7_limits_32 : decode rX7_limits.2.1 32 = .ok (.iload_n 1, 1) := by decide +kernel
theorem eX7_limits_33 : decode rX7_limits.2.1 33 = .ok (.invokevirtual 81, 3) := by decide +kernel
theorem eX7_limits_36 : decode rX7_limits.2.1 36 = .ok (.iload_n 2, 1) := by decide +kernel
theorem eX7_limits_37 : decode rX7_limits.2.1 37 = .ok (.if_icmp .le 9, 3) := by decide +kernel
theorem eX7_limits_40 : decode rX7_limits.2.1 40 = .ok (.aload_n 0, 1) := by decide +kernel
theorem eX7_limits_41 : decode rX7_limits.2.1 41 = .ok (.iconst 3, 1) := by decide +kernel
theorem eX7_limits_42 : decode rX7_limits.2.1 42 = .ok (.invokevirtual 90, 3) := by decide +kernel
theorem eX7_limits_45 : decode rX7_limits.2.1 45 = .ok (.ireturn, 1) := by decide +kernel
theorem eX7_limits_46 : decode rX7_limits.2.1 46 = .ok (.aload_n 0, 1) := by decide +kernel
theorem eX7_limits_47 : decode rX7_limits.2.1 47 = .ok (.getfield 7, 3) := by decide +kernel
theorem eX7_limits_50 : decode rX7_limits.2.1 50 = .ok (.bipush 15, 2) := by decide +kernel
theorem eX7_limits_52 : decode rX7_limits.2.1 52 = .ok (.iload_n 1, 1) := by decide +kernel
theorem eX7_limits_53 : decode rX7_limits.2.1 53 = .ok (.iadd, 1) := by decide +kernel
theorem eX7_limits_54 : decode rX7_limits.2.1 54 = .ok (.iaload, 1) := by decide +kernel
theorem eX7_limits_55 : decode rX7_limits.2.1 55 = .ok (.istore_n 3, 1) := by decide +kernel
theorem eX7_limits_56 : decode rX7_limits.2.1 56 = .ok (.aload_n 0, 1) := by decide +kernel
theorem eX7_limits_57 : decode rX7_limits.2.1 57 = .ok (.getfield 7, 3) := by decide +kernel
theorem eX7_limits_60 : decode rX7_limits.2.1 60 = .ok (.bipush 15, 2) := by decide +kernel
theorem eX7_limits_62 : decode rX7_limits.2.1 62 = .ok (.iload_n 1, 1) := by decide +kernel
theorem eX7_limits_63 : decode rX7_limits.2.1 63 = .ok (.iadd, 1) := by decide +kernel
theorem eX7_limits_64 : decode rX7_limits.2.1 64 = .ok (.iload_n 2, 1) := by decide +kernel
theorem eX7_limits_65 : decode rX7_limits.2.1 65 = .ok (.iastore, 1) := by decide +kernel
theorem eX7_limits_66 : decode rX7_limits.2.1 66 = .ok (.aload_n 0, 1) := by decide +kernel
theorem eX7_limits_67 : decode rX7_limits.2.1 67 = .ok (.iload_n 3, 1) := by decide +kernel
theorem eX7_limits_68 : decode rX7_limits.2.1 68 = .ok (.invokevirtual 97, 3) := by decide +kernel
theorem eX7_limits_71 : decode rX7_limits.2.1 71 = .ok (.ireturn, 1) := by decide +kernel
theorem eX7_setCapacity_0 : decode rX7_setCapacity.2.1 0 = .ok (.aload_n 0, 1) := by decide +kernel
theorem eX7_setCapacity_1 : decode rX7_setCapacity.2.1 1 = .ok (.invokevirtual 100, 3) := by decide +kernel
theorem eX7_setCapacity_4 : decode rX7_setCapacity.2.1 4 = .ok (.aload_n 0, 1) := by decide +kernel
theorem eX7_setCapacity_5 : decode rX7_setCapacity.2.1 5 = .ok (.aload_n 0, 1) := by decide +kernel
theorem eX7_setCapacity_6 : decode rX7_setCapacity.2.1 6 = .ok (.iload_n 1, 1) := by decide +kernel
theorem eX7_setCapacity_7 : decode rX7_setCapacity.2.1 7 = .ok (.iload_n 2, 1) := by decide +kernel
theorem eX7_setCapacity_8 : decode rX7_setCapacity.2.1 8 = .ok (.invokevirtual 131, 3) := by decide +kernel
theorem eX7_setCapacity_11 : decode rX7_setCapacity.2.1 11 = .ok (.invokevirtual 107, 3) := by decide +kernel
theorem eX7_setCapacity_14 : decode rX7_setCapacity.2.1 14 = .ok (.ireturn, 1) := by decide +kernel
theorem eX7_logs_0 : decode rX7_logs.2.1 0 = .ok (.aload_n 0, 1) := by decide +kernel
theorem eX7_logs_1 : decode rX7_logs.2.1 1 = .ok (.getfield 7, 3) := by decide +kernel
theorem eX7_logs_4 : decode rX7_logs.2.1 4 = .ok (.iconst 3, 1) := by decide +kernel
theorem eX7_logs_5 : decode rX7_logs.2.1 5 = .ok (.iaload, 1) := by decide +kernel
theorem eX7_logs_6 : decode rX7_logs.2.1 6 = .ok (.bipush 10, 2) := by decide +kernel
theorem eX7_logs_8 : decode rX7_logs.2.1 8 = .ok (.irem, 1) := by decide +kernel
theorem eX7_logs_9 : decode rX7_logs.2.1 9 = .ok (.istore_n 3, 1) := by decide +kernel
theorem eX7_logs_10 : decode rX7_logs.2.1 10 = .ok (.aload_n 0, 1) := by decide +kernel
theorem eX7_logs_11 : decode rX7_logs.2.1 11 = .ok (.getfield 7, 3) := by decide +kernel
theorem eX7_logs_14 : decode rX7_logs.2.1 14 = .ok (.bipush 111, 2) := by decide +kernel
theorem eX7_logs_16 : decode rX7_logs.2.1 16 = .ok (.iload_n 3, 1) := by decide +kernel
theorem eX7_logs_17 : decode rX7_logs.2.1 17 = .ok (.iadd, 1) := by decide +kernel
theorem eX7_logs_18 : decode rX7_logs.2.1 18 = .ok (.aload_n 0, 1) := by decide +kernel
theorem eX7_logs_19 : decode rX7_logs.2.1 19 = .ok (.getfield 7, 3) := by decide +kernel
theorem eX7_logs_22 : decode rX7_logs.2.1 22 = .ok (.bipush 27, 2) := by decide +kernel
theorem eX7_logs_24 : decode rX7_logs.2.1 24 = .ok (.iload_n 1, 1) := by decide +kernel
theorem eX7_logs_25 : decode rX7_logs.2.1 25 = .ok (.iadd, 1) := by decide +kernel
theorem eX7_logs_26 : decode rX7_logs.2.1 26 = .ok (.iaload, 1) := by decide +kernel
theorem eX7_logs_27 : decode rX7_logs.2.1 27 = .ok (.iastore, 1) := by decide +kernel
theorem eX7_logs_28 : decode rX7_logs.2.1 28 = .ok (.aload_n 0, 1) := by decide +kernel
theorem eX7_logs_29 : decode rX7_logs.2.1 29 = .ok (.getfield 7, 3) := by decide +kernel
theorem eX7_logs_32 : decode rX7_logs.2.1 32 = .ok (.bipush 121, 2) := by decide +kernel
theorem eX7_logs_34 : decode rX7_logs.2.1 34 = .ok (.iload_n 3, 1) := by decide +kernel
theorem eX7_logs_35 : decode rX7_logs.2.1 35 = .ok (.iadd, 1) := by decide +kernel
theorem eX7_logs_36 : decode rX7_logs.2.1 36 = .ok (.iload_n 2, 1) := by decide +kernel
theorem eX7_logs_37 : decode rX7_logs.2.1 37 = .ok (.iastore, 1) := by decide +kernel
theorem eX7_logs_38 : decode rX7_logs.2.1 38 = .ok (.aload_n 0, 1) := by decide +kernel
theorem eX7_logs_39 : decode rX7_logs.2.1 39 = .ok (.getfield 7, 3) := by decide +kernel
theorem eX7_logs_42 : decode rX7_logs.2.1 42 = .ok (.sipush 131, 3) := by decide +kernel
theorem eX7_logs_45 : decode rX7_logs.2.1 45 = .ok (.iload_n 3, 1) := by decide +kernel
theorem eX7_logs_46 : decode rX7_logs.2.1 46 = .ok (.iadd, 1) := by decide +kernel
theorem eX7_logs_47 : decode rX7_logs.2.1 47 = .ok (.aload_n 0, 1) := by decide +kernel
theorem eX7_logs_48 : decode rX7_logs.2.1 48 = .ok (.getfield 7, 3) := by decide +kernel
theorem eX7_logs_51 : decode rX7_logs.2.1 51 = .ok (.bipush 75, 2) := by decide +kernel
theorem eX7_logs_53 : decode rX7_logs.2.1 53 = .ok (.iload_n 1, 1) := by decide +kernel
theorem eX7_logs_54 : decode rX7_logs.2.1 54 = .ok (.iadd, 1) := by decide +kernel
theorem eX7_logs_55 : decode rX7_logs.2.1 55 = .ok (.iaload, 1) := by decide +kernel
theorem eX7_logs_56 : decode rX7_logs.2.1 56 = .ok (.iastore, 1) := by decide +kernel
theorem eX7_logs_57 : decode rX7_logs.2.1 57 = .ok (.aload_n 0, 1) := by decide +kernel
theorem eX7_logs_58 : decode rX7_logs.2.1 58 = .ok (.getfield 7, 3) := by decide +kernel
theorem eX7_logs_61 : decode rX7_logs.2.1 61 = .ok (.iconst 4, 1) := by decide +kernel
theorem eX7_logs_62 : decode rX7_logs.2.1 62 = .ok (.dup2, 1) := by decide +kernel
theorem eX7_logs_63 : decode rX7_logs.2.1 63 = .ok (.iaload, 1) := by decide +kernel
theorem eX7_logs_64 : decode rX7_logs.2.1 64 = .ok (.aload_n 0, 1) := by decide +kernel
theorem eX7_logs_65 : decode rX7_logs.2.1 65 = .ok (.getfield 7, 3) := by decide +kernel
theorem eX7_logs_68 : decode rX7_logs.2.1 68 = .ok (.bipush 75, 2) := by decide +kernel
theorem eX7_logs_70 : decode rX7_logs.2.1 70 = .ok (.iload_n 1, 1) := by decide +kernel
theorem eX7_logs_71 : decode rX7_logs.2.1 71 = .ok (.iadd, 1) := by decide +kernel
theorem eX7_logs_72 : decode rX7_logs.2.1 72 = .ok (.iaload, 1) := by decide +kernel
theorem eX7_logs_73 : decode rX7_logs.2.1 73 = .ok (.iadd, 1) := by decide +kernel
theorem eX7_logs_74 : decode rX7_logs.2.1 74 = .ok (.iastore, 1) := by decide +kernel
theorem eX7_logs_75 : decode rX7_logs.2.1 75 = .ok (.aload_n 0, 1) := by decide +kernel
theorem eX7_logs_76 : decode rX7_logs.2.1 76 = .ok (.getfield 7, 3) := by decide +kernel
theorem eX7_logs_79 : decode rX7_logs.2.1 79 = .ok (.iconst 3, 1) := by decide +kernel
theorem eX7_logs_80 : decode rX7_logs.2.1 80 = .ok (.dup2, 1) := by decide +kernel
theorem eX7_logs_81 : decode rX7_logs.2.1 81 = .ok (.iaload, 1) := by decide +kernel
theorem eX7_logs_82 : decode rX7_logs.2.1 82 = .ok (.iconst 1, 1) := by decide +kernel
theorem eX7_logs_83 : decode rX7_logs.2.1 83 = .ok (.iadd, 1) := by decide +kernel
theorem eX7_logs_84 : decode rX7_logs.2.1 84 = .ok (.iastore, 1) := by decide +kernel
theorem eX7_logs_85 : decode rX7_logs.2.1 85 = .ok (.return_, 1) := by decide +kernel
theorem eX7_alight_0 : decode rX7_alight.2.1 0 = .ok (.iconst 0, 1) := by decide +kernel
theorem eX7_alight_1 : decode rX7_alight.2.1 1 = .ok (.istore_n 2, 1) := by decide +kernel
theorem eX7_alight_2 : decode rX7_alight.2.1 2 = .ok (.iload_n 2, 1) := by decide +kernel
theorem eX7_alight_3 : decode rX7_alight.2.1 3 = .ok (.aload_n 0, 1) := by decide +kernel
theorem eX7_alight_4 : decode rX7_alight.2.1 4 = .ok (.getfield 7, 3) := by decide +kernel
theorem eX7_alight_7 : decode rX7_alight.2.1 7 = .ok (.iconst 1, 1) := by decide +kernel
theorem eX7_alight_8 : decode rX7_alight.2.1 8 = .ok (.iaload, 1) := by decide +kernel
theorem eX7_alight_9 : decode rX7_alight.2.1 9 = .ok (.if_icmp .ge 53, 3) := by decide +kernel
theorem eX7_alight_12 : decode rX7_alight.2.1 12 = .ok (.aload_n 0, 1) := by decide +kernel
theorem eX7_alight_13 : decode rX7_alight.2.1 13 = .ok (.iload_n 2, 1) := by decide +kernel
theorem eX7_alight_14 : decode rX7_alight.2.1 14 = .ok (.iload_n 1, 1) := by decide +kernel
theorem eX7_alight_15 : decode rX7_alight.2.1 15 = .ok (.invokevirtual 56, 3) := by decide +kernel
theorem eX7_alight_18 : decode rX7_alight.2.1 18 = .ok (.ifCond .eq 38, 3) := by decide +kernel
theorem eX7_alight_21 : decode rX7_alight.2.1 21 = .ok (.aload_n 0, 1) := by decide +kernel
theorem eX7_alight_22 : decode rX7_alight.2.1 22 = .ok (.getfield 7, 3) := by decide +kernel
theorem eX7_alight_25 : decode rX7_alight.2.1 25 = .ok (.bipush 51, 2) := by decide +kernel
theorem eX7_alight_27 : decode rX7_alight.2.1 27 = .ok (.iload_n 2, 1) := by decide +kernel
theorem eX7_alight_28 : decode rX7_alight.2.1 28 = .ok (.iadd, 1) := by decide +kernel
theorem eX7_alight_29 : decode rX7_alight.2.1 29 = .ok (.iaload, 1) := by decide +kernel
theorem eX7_alight_30 : decode rX7_alight.2.1 30 = .ok (.aload_n 0, 1) := by decide +kernel
theorem eX7_alight_31 : decode rX7_alight.2.1 31 = .ok (.getfield 7, 3) := by decide +kernel
theorem eX7_alight_34 : decode rX7_alight.2.1 34 = .ok (.bipush 9, 2) := by decide +kernel
theorem eX7_alight_36 : decode rX7_alight.2.1 36 = .ok (.iload_n 1, 1) := by decide +kernel
theorem eX7_alight_37 : decode rX7_alight.2.1 37 = .ok (.iadd, 1) := by decide +kernel
theorem eX7_alight_38 : decode rX7_alight.2.1 38 = .ok (.iaload, 1) := by decide +kernel
theorem eX7_alight_39 : decode rX7_alight.2.1 39 = .ok (.if_icmp .ne 17, 3) := by decide +kernel
theorem eX7_alight_42 : decode rX7_alight.2.1 42 = .ok (.aload_n 0, 1) := by decide +kernel
theorem eX7_alight_43 : decode rX7_alight.2.1 43 = .ok (.iload_n 2, 1) := by decide +kernel
theorem eX7_alight_44 : decode rX7_alight.2.1 44 = .ok (.iload_n 1, 1) := by decide +kernel
theorem eX7_alight_45 : decode rX7_alight.2.1 45 = .ok (.invokevirtual 134, 3) := by decide +kernel
theorem eX7_alight_48 : decode rX7_alight.2.1 48 = .ok (.aload_n 0, 1) := by decide +kernel
theorem eX7_alight_49 : decode rX7_alight.2.1 49 = .ok (.iload_n 2, 1) := by decide +kernel
theorem eX7_alight_50 : decode rX7_alight.2.1 50 = .ok (.invokevirtual 113, 3) := by decide +kernel
theorem eX7_alight_53 : decode rX7_alight.2.1 53 = .ok (.goto (-51), 3) := by decide +kernel
theorem eX7_alight_56 : decode rX7_alight.2.1 56 = .ok (.iinc 2 1, 3) := by decide +kernel
theorem eX7_alight_59 : decode rX7_alight.2.1 59 = .ok (.goto (-57), 3) := by decide +kernel
theorem eX7_alight_62 : decode rX7_alight.2.1 62 = .ok (.return_, 1) := by decide +kernel
theorem eX7_board_0 : decode rX7_board.2.1 0 = .ok (.iconst 0, 1) := by decide +kernel
theorem eX7_board_1 : decode rX7_board.2.1 1 = .ok (.istore_n 2, 1) := by decide +kernel
theorem eX7_board_2 : decode rX7_board.2.1 2 = .ok (.iload_n 2, 1) := by decide +kernel
theorem eX7_board_3 : decode rX7_board.2.1 3 = .ok (.aload_n 0, 1) := by decide +kernel
theorem eX7_board_4 : decode rX7_board.2.1 4 = .ok (.getfield 7, 3) := by decide +kernel
theorem eX7_board_7 : decode rX7_board.2.1 7 = .ok (.iconst 1, 1) := by decide +kernel
theorem eX7_board_8 : decode rX7_board.2.1 8 = .ok (.iaload, 1) := by decide +kernel
theorem eX7_board_9 : decode rX7_board.2.1 9 = .ok (.if_icmp .ge 110, 3) := by decide +kernel
theorem eX7_board_12 : decode rX7_board.2.1 12 = .ok (.aload_n 0, 1) := by decide +kernel
theorem eX7_board_13 : decode rX7_board.2.1 13 = .ok (.iload_n 2, 1) := by decide +kernel
theorem eX7_board_14 : decode rX7_board.2.1 14 = .ok (.iload_n 1, 1) := by decide +kernel
theorem eX7_board_15 : decode rX7_board.2.1 15 = .ok (.invokevirtual 60, 3) := by decide +kernel
theorem eX7_board_18 : decode rX7_board.2.1 18 = .ok (.ifCond .eq 95, 3) := by decide +kernel
theorem eX7_board_21 : decode rX7_board.2.1 21 = .ok (.aload_n 0, 1) := by decide +kernel
theorem eX7_board_22 : decode rX7_board.2.1 22 = .ok (.getfield 7, 3) := by decide +kernel
theorem eX7_board_25 : decode rX7_board.2.1 25 = .ok (.bipush 39, 2) := by decide +kernel
theorem eX7_board_27 : decode rX7_board.2.1 27 = .ok (.iload_n 2, 1) := by decide +kernel
theorem eX7_board_28 : decode rX7_board.2.1 28 = .ok (.iadd, 1) := by decide +kernel
theorem eX7_board_29 : decode rX7_board.2.1 29 = .ok (.iaload, 1) := by decide +kernel
theorem eX7_board_30 : decode rX7_board.2.1 30 = .ok (.aload_n 0, 1) := by decide +kernel
theorem eX7_board_31 : decode rX7_board.2.1 31 = .ok (.getfield 7, 3) := by decide +kernel
theorem eX7_board_34 : decode rX7_board.2.1 34 = .ok (.bipush 9, 2) := by decide +kernel
theorem eX7_board_36 : decode rX7_board.2.1 36 = .ok (.iload_n 1, 1) := by decide +kernel
theorem eX7_board_37 : decode rX7_board.2.1 37 = .ok (.iadd, 1) := by decide +kernel
theorem eX7_board_38 : decode rX7_board.2.1 38 = .ok (.iaload, 1) := by decide +kernel
theorem eX7_board_39 : decode rX7_board.2.1 39 = .ok (.if_icmp .ne 74, 3) := by decide +kernel
theorem eX7_board_42 : decode rX7_board.2.1 42 = .ok (.aload_n 0, 1) := by decide +kernel
theorem eX7_board_43 : decode rX7_board.2.1 43 = .ok (.iload_n 1, 1) := by decide +kernel
theorem eX7_board_44 : decode rX7_board.2.1 44 = .ok (.invokevirtual 81, 3) := by decide +kernel
theorem eX7_board_47 : decode rX7_board.2.1 47 = .ok (.aload_n 0, 1) := by decide +kernel
theorem eX7_board_48 : decode rX7_board.2.1 48 = .ok (.getfield 7, 3) := by decide +kernel
theorem eX7_board_51 : decode rX7_board.2.1 51 = .ok (.bipush 63, 2) := by decide +kernel
theorem eX7_board_53 : decode rX7_board.2.1 53 = .ok (.iload_n 2, 1) := by decide +kernel
theorem eX7_board_54 : decode rX7_board.2.1 54 = .ok (.iadd, 1) := by decide +kernel
theorem eX7_board_55 : decode rX7_board.2.1 55 = .ok (.iaload, 1) := by decide +kernel
theorem eX7_board_56 : decode rX7_board.2.1 56 = .ok (.iadd, 1) := by decide +kernel
theorem eX7_board_57 : decode rX7_board.2.1 57 = .ok (.aload_n 0, 1) := by decide +kernel
theorem eX7_board_58 : decode rX7_board.2.1 58 = .ok (.getfield 7, 3) := by decide +kernel
theorem eX7_board_61 : decode rX7_board.2.1 61 = .ok (.bipush 15, 2) := by decide +kernel
theorem eX7_board_63 : decode rX7_board.2.1 63 = .ok (.iload_n 1, 1) := by decide +kernel
theorem eX7_board_64 : decode rX7_board.2.1 64 = .ok (.iadd, 1) := by decide +kernel
theorem eX7_board_65 : decode rX7_board.2.1 65 = .ok (.iaload, 1) := by decide +kernel
theorem eX7_board_66 : decode rX7_board.2.1 66 = .ok (.if_icmp .gt 7, 3) := by decide +kernel
theorem eX7_board_69 : decode rX7_board.2.1 69 = .ok (.iconst 1, 1) := by decide +kernel
theorem eX7_board_70 : decode rX7_board.2.1 70 = .ok (.goto 4, 3) := by decide +kernel
theorem eX7_board_73 : decode rX7_board.2.1 73 = .ok (.iconst 0, 1) := by decide +kernel
theorem eX7_board_74 : decode rX7_board.2.1 74 = .ok (.istore_n 3, 1) := by decide +kernel
theorem eX7_board_75 : decode rX7_board.2.1 75 = .ok (.aload_n 0, 1) := by decide +kernel
theorem eX7_board_76 : decode rX7_board.2.1 76 = .ok (.getfield 7, 3) := by decide +kernel
theorem eX7_board_79 : decode rX7_board.2.1 79 = .ok (.bipush 99, 2) := by decide +kernel
theorem eX7_board_81 : decode rX7_board.2.1 81 = .ok (.iload_n 2, 1) := by decide +kernel
theorem eX7_board_82 : decode rX7_board.2.1 82 = .ok (.iadd, 1) := by decide +kernel
theorem eX7_board_83 : decode rX7_board.2.1 83 = .ok (.iload_n 3, 1) := by decide +kernel
theorem eX7_board_84 : decode rX7_board.2.1 84 = .ok (.ifCond .eq 7, 3) := by decide +kernel
theorem eX7_board_87 : decode rX7_board.2.1 87 = .ok (.iconst 1, 1) := by decide +kernel
theorem eX7_board_88 : decode rX7_board.2.1 88 = .ok (.goto 4, 3) := by decide +kernel
theorem eX7_board_91 : decode rX7_board.2.1 91 = .ok (.iconst 0, 1) := by decide +kernel
theorem eX7_board_92 : decode rX7_board.2.1 92 = .ok (.iastore, 1) := by decide +kernel
theorem eX7_board_93 : decode rX7_board.2.1 93 = .ok (.aload_n 0, 1) := by decide +kernel
theorem eX7_board_94 : decode rX7_board.2.1 94 = .ok (.getfield 7, 3) := by decide +kernel
theorem eX7_board_97 : decode rX7_board.2.1 97 = .ok (.bipush 87, 2) := by decide +kernel
theorem eX7_board_99 : decode rX7_board.2.1 99 = .ok (.iload_n 2, 1) := by decide +kernel
theorem eX7_board_100 : decode rX7_board.2.1 100 = .ok (.iadd, 1) := by decide +kernel
theorem eX7_board_101 : decode rX7_board.2.1 101 = .ok (.iload_n 3, 1) := by decide +kernel
theorem eX7_board_102 : decode rX7_board.2.1 102 = .ok (.ifCond .eq 9, 3) := by decide +kernel
theorem eX7_board_105 : decode rX7_board.2.1 105 = .ok (.iload_n 1, 1) := by decide +kernel
theorem eX7_board_106 : decode rX7_board.2.1 106 = .ok (.iconst 1, 1) := by decide +kernel
theorem eX7_board_107 : decode rX7_board.2.1 107 = .ok (.iadd, 1) := by decide +kernel
theorem eX7_board_108 : decode rX7_board.2.1 108 = .ok (.goto 4, 3) := by decide +kernel
theorem eX7_board_111 : decode rX7_board.2.1 111 = .ok (.iconst 0, 1) := by decide +kernel
theorem eX7_board_112 : decode rX7_board.2.1 112 = .ok (.iastore, 1) := by decide +kernel
theorem eX7_board_113 : decode rX7_board.2.1 113 = .ok (.iinc 2 1, 3) := by decide +kernel
theorem eX7_board_116 : decode rX7_board.2.1 116 = .ok (.goto (-114), 3) := by decide +kernel
theorem eX7_board_119 : decode rX7_board.2.1 119 = .ok (.return_, 1) := by decide +kernel
theorem eX7_chosen_0 : decode rX7_chosen.2.1 0 = .ok (.aload_n 0, 1) := by decide +kernel
theorem eX7_chosen_1 : decode rX7_chosen.2.1 1 = .ok (.iload_n 1, 1) := by decide +kernel
theorem eX7_chosen_2 : decode rX7_chosen.2.1 2 = .ok (.iconst 1, 1) := by decide +kernel
theorem eX7_chosen_3 : decode rX7_chosen.2.1 3 = .ok (.invokevirtual 138, 3) := by decide +kernel
theorem eX7_chosen_6 : decode rX7_chosen.2.1 6 = .ok (.istore_n 2, 1) := by decide +kernel
theorem eX7_chosen_7 : decode rX7_chosen.2.1 7 = .ok (.aload_n 0, 1) := by decide +kernel
theorem eX7_chosen_8 : decode rX7_chosen.2.1 8 = .ok (.iload_n 1, 1) := by decide +kernel
theorem eX7_chosen_9 : decode rX7_chosen.2.1 9 = .ok (.iconst (-1), 1) := by decide +kernel
theorem eX7_chosen_10 : decode rX7_chosen.2.1 10 = .ok (.invokevirtual 138, 3) := by decide +kernel
theorem eX7_chosen_13 : decode rX7_chosen.2.1 13 = .ok (.istore_n 3, 1) := by decide +kernel
theorem eX7_chosen_14 : decode rX7_chosen.2.1 14 = .ok (.aload_n 0, 1) := by decide +kernel
theorem eX7_chosen_15 : decode rX7_chosen.2.1 15 = .ok (.getfield 7, 3) := by decide +kernel
theorem eX7_chosen_18 : decode rX7_chosen.2.1 18 = .ok (.bipush 12, 2) := by decide +kernel
theorem eX7_chosen_20 : decode rX7_chosen.2.1 20 = .ok (.iload_n 1, 1) := by decide +kernel
theorem eX7_chosen_21 : decode rX7_chosen.2.1 21 = .ok (.iadd, 1) := by decide +kernel
theorem eX7_chosen_22 : decode rX7_chosen.2.1 22 = .ok (.iaload, 1) := by decide +kernel
theorem eX7_chosen_23 : decode rX7_chosen.2.1 23 = .ok (.istore 4, 2) := by decide +kernel
theorem eX7_chosen_25 : decode rX7_chosen.2.1 25 = .ok (.iload_n 2, 1) := by decide +kernel
theorem eX7_chosen_26 : decode rX7_chosen.2.1 26 = .ok (.ifCond .eq 7, 3) := by decide +kernel
theorem eX7_chosen_29 : decode rX7_chosen.2.1 29 = .ok (.iload_n 3, 1) := by decide +kernel
theorem eX7_chosen_30 : decode rX7_chosen.2.1 30 = .ok (.ifCond .ne 21, 3) := by decide +kernel
theorem eX7_chosen_33 : decode rX7_chosen.2.1 33 = .ok (.iload_n 2, 1) := by decide +kernel
theorem eX7_chosen_34 : decode rX7_chosen.2.1 34 = .ok (.ifCond .le 7, 3) := by decide +kernel
theorem eX7_chosen_37 : decode rX7_chosen.2.1 37 = .ok (.iconst 1, 1) := by decide +kernel
theorem eX7_chosen_38 : decode rX7_chosen.2.1 38 = .ok (.goto 12, 3) := by decide +kernel
theorem eX7_chosen_41 : decode rX7_chosen.2.1 41 = .ok (.iload_n 3, 1) := by decide +kernel
theorem eX7_chosen_42 : decode rX7_chosen.2.1 42 = .ok (.ifCond .le 7, 3) := by decide +kernel
theorem eX7_chosen_45 : decode rX7_chosen.2.1 45 = .ok (.iconst (-1), 1) := by decide +kernel
theorem eX7_chosen_46 : decode rX7_chosen.2.1 46 = .ok (.goto 4, 3) := by decide +kernel
theorem eX7_chosen_49 : decode rX7_chosen.2.1 49 = .ok (.iconst 0, 1) := by decide +kernel
theorem eX7_chosen_50 : decode rX7_chosen.2.1 50 = .ok (.ireturn, 1) := by decide +kernel
theorem eX7_chosen_51 : decode rX7_chosen.2.1 51 = .ok (.iload 4, 2) := by decide +kernel
theorem eX7_chosen_53 : decode rX7_chosen.2.1 53 = .ok (.ifCond .eq 8, 3) := by decide +kernel
theorem eX7_chosen_56 : decode rX7_chosen.2.1 56 = .ok (.iload 4, 2) := by decide +kernel
theorem eX7_chosen_58 : decode rX7_chosen.2.1 58 = .ok (.goto 13, 3) := by decide +kernel
theorem eX7_chosen_61 : decode rX7_chosen.2.1 61 = .ok (.iload_n 2, 1) := by decide +kernel
theorem eX7_chosen_62 : decode rX7_chosen.2.1 62 = .ok (.iload_n 3, 1) := by decide +kernel
theorem eX7_chosen_63 : decode rX7_chosen.2.1 63 = .ok (.if_icmp .gt 7, 3) := by decide +kernel
theorem eX7_chosen_66 : decode rX7_chosen.2.1 66 = .ok (.iconst 1, 1) := by decide +kernel
theorem eX7_chosen_67 : decode rX7_chosen.2.1 67 = .ok (.goto 4, 3) := by decide +kernel
theorem eX7_chosen_70 : decode rX7_chosen.2.1 70 = .ok (.iconst (-1), 1) := by decide +kernel
theorem eX7_chosen_71 : decode rX7_chosen.2.1 71 = .ok (.ireturn, 1) := by decide +kernel
theorem eX7_moves_0 : decode rX7_moves.2.1 0 = .ok (.aload_n 0, 1) := by decide +kernel
theorem eX7_moves_1 : decode rX7_moves.2.1 1 = .ok (.iload_n 1, 1) := by decide +kernel
theorem eX7_moves_2 : decode rX7_moves.2.1 2 = .ok (.invokevirtual 141, 3) := by decide +kernel
theorem eX7_moves_5 : decode rX7_moves.2.1 5 = .ok (.istore_n 2, 1) := by decide +kernel
theorem eX7_moves_6 : decode rX7_moves.2.1 6 = .ok (.aload_n 0, 1) := by decide +kernel
theorem eX7_moves_7 : decode rX7_moves.2.1 7 = .ok (.getfield 7, 3) := by decide +kernel
theorem eX7_moves_10 : decode rX7_moves.2.1 10 = .ok (.bipush 12, 2) := by decide +kernel
theorem eX7_moves_12 : decode rX7_moves.2.1 12 = .ok (.iload_n 1, 1) := by decide +kernel
theorem eX7_moves_13 : decode rX7_moves.2.1 13 = .ok (.iadd, 1) := by decide +kernel
theorem eX7_moves_14 : decode rX7_moves.2.1 14 = .ok (.iload_n 2, 1) := by decide +kernel
theorem eX7_moves_15 : decode rX7_moves.2.1 15 = .ok (.iastore, 1) := by decide +kernel
theorem eX7_moves_16 : decode rX7_moves.2.1 16 = .ok (.aload_n 0, 1) := by decide +kernel
theorem eX7_moves_17 : decode rX7_moves.2.1 17 = .ok (.getfield 7, 3) := by decide +kernel
theorem eX7_moves_20 : decode rX7_moves.2.1 20 = .ok (.bipush 9, 2) := by decide +kernel
theorem eX7_moves_22 : decode rX7_moves.2.1 22 = .ok (.iload_n 1, 1) := by decide +kernel
theorem eX7_moves_23 : decode rX7_moves.2.1 23 = .ok (.iadd, 1) := by decide +kernel
theorem eX7_moves_24 : decode rX7_moves.2.1 24 = .ok (.dup2, 1) := by decide +kernel
theorem eX7_moves_25 : decode rX7_moves.2.1 25 = .ok (.iaload, 1) := by decide +kernel
theorem eX7_moves_26 : decode rX7_moves.2.1 26 = .ok (.iload_n 2, 1) := by decide +kernel
theorem eX7_moves_27 : decode rX7_moves.2.1 27 = .ok (.iadd, 1) := by decide +kernel
theorem eX7_moves_28 : decode rX7_moves.2.1 28 = .ok (.iastore, 1) := by decide +kernel
theorem eX7_moves_29 : decode rX7_moves.2.1 29 = .ok (.iload_n 2, 1) := by decide +kernel
theorem eX7_moves_30 : decode rX7_moves.2.1 30 = .ok (.iconst 1, 1) := by decide +kernel
theorem eX7_moves_31 : decode rX7_moves.2.1 31 = .ok (.if_icmp .ne 53, 3) := by decide +kernel
theorem eX7_moves_34 : decode rX7_moves.2.1 34 = .ok (.aload_n 0, 1) := by decide +kernel
theorem eX7_moves_35 : decode rX7_moves.2.1 35 = .ok (.getfield 7, 3) := by decide +kernel
theorem eX7_moves_38 : decode rX7_moves.2.1 38 = .ok (.bipush 24, 2) := by decide +kernel
theorem eX7_moves_40 : decode rX7_moves.2.1 40 = .ok (.iload_n 1, 1) := by decide +kernel
theorem eX7_moves_41 : decode rX7_moves.2.1 41 = .ok (.iadd, 1) := by decide +kernel
theorem eX7_moves_42 : decode rX7_moves.2.1 42 = .ok (.dup2, 1) := by decide +kernel
theorem eX7_moves_43 : decode rX7_moves.2.1 43 = .ok (.iaload, 1) := by decide +kernel
theorem eX7_moves_44 : decode rX7_moves.2.1 44 = .ok (.iconst 2, 1) := by decide +kernel
theorem eX7_moves_45 : decode rX7_moves.2.1 45 = .ok (.aload_n 0, 1) := by decide +kernel
theorem eX7_moves_46 : decode rX7_moves.2.1 46 = .ok (.iload_n 1, 1) := by decide +kernel
theorem eX7_moves_47 : decode rX7_moves.2.1 47 = .ok (.invokevirtual 81, 3) := by decide +kernel
theorem eX7_moves_50 : decode rX7_moves.2.1 50 = .ok (.bipush 100, 2) := by decide +kernel
theorem eX7_moves_52 : decode rX7_moves.2.1 52 = .ok (.idiv, 1) := by decide +kernel
theorem eX7_moves_53 : decode rX7_moves.2.1 53 = .ok (.iadd, 1) := by decide +kernel
theorem eX7_moves_54 : decode rX7_moves.2.1 54 = .ok (.iadd, 1) := by decide +kernel
theorem eX7_moves_55 : decode rX7_moves.2.1 55 = .ok (.iastore, 1) := by decide +kernel
theorem eX7_moves_56 : decode rX7_moves.2.1 56 = .ok (.aload_n 0, 1) := by decide +kernel
theorem eX7_moves_57 : decode rX7_moves.2.1 57 = .ok (.getfield 7, 3) := by decide +kernel
theorem eX7_moves_60 : decode rX7_moves.2.1 60 = .ok (.bipush 8, 2) := by decide +kernel
theorem eX7_moves_62 : decode rX7_moves.2.1 62 = .ok (.dup2, 1) := by decide +kernel
theorem eX7_moves_63 : decode rX7_moves.2.1 63 = .ok (.iaload, 1) := by decide +kernel
theorem eX7_moves_64 : decode rX7_moves.2.1 64 = .ok (.aload_n 0, 1) := by decide +kernel
theorem eX7_moves_65 : decode rX7_moves.2.1 65 = .ok (.iload_n 1, 1) := by decide +kernel
theorem eX7_moves_66 : decode rX7_moves.2.1 66 = .ok (.invokevirtual 81, 3) := by decide +kernel
theorem eX7_moves_69 : decode rX7_moves.2.1 69 = .ok (.bipush 100, 2) := by decide +kernel
theorem eX7_moves_71 : decode rX7_moves.2.1 71 = .ok (.idiv, 1) := by decide +kernel
theorem eX7_moves_72 : decode rX7_moves.2.1 72 = .ok (.iadd, 1) := by decide +kernel
theorem eX7_moves_73 : decode rX7_moves.2.1 73 = .ok (.iastore, 1) := by decide +kernel
theorem eX7_moves_74 : decode rX7_moves.2.1 74 = .ok (.aload_n 0, 1) := by decide +kernel
theorem eX7_moves_75 : decode rX7_moves.2.1 75 = .ok (.getfield 7, 3) := by decide +kernel
theorem eX7_moves_78 : decode rX7_moves.2.1 78 = .ok (.iconst 5, 1) := by decide +kernel
theorem eX7_moves_79 : decode rX7_moves.2.1 79 = .ok (.dup2, 1) := by decide +kernel
theorem eX7_moves_80 : decode rX7_moves.2.1 80 = .ok (.iaload, 1) := by decide +kernel
theorem eX7_moves_81 : decode rX7_moves.2.1 81 = .ok (.iconst 1, 1) := by decide +kernel
theorem eX7_moves_82 : decode rX7_moves.2.1 82 = .ok (.iadd, 1) := by decide +kernel
theorem eX7_moves_83 : decode rX7_moves.2.1 83 = .ok (.iastore, 1) := by decide +kernel
theorem eX7_moves_84 : decode rX7_moves.2.1 84 = .ok (.iload_n 2, 1) := by decide +kernel
theorem eX7_moves_85 : decode rX7_moves.2.1 85 = .ok (.iconst (-1), 1) := by decide +kernel
theorem eX7_moves_86 : decode rX7_moves.2.1 86 = .ok (.if_icmp .ne 27, 3) := by decide +kernel
theorem eX7_moves_89 : decode rX7_moves.2.1 89 = .ok (.aload_n 0, 1) := by decide +kernel
theorem eX7_moves_90 : decode rX7_moves.2.1 90 = .ok (.getfield 7, 3) := by decide +kernel
theorem eX7_moves_93 : decode rX7_moves.2.1 93 = .ok (.bipush 24, 2) := by decide +kernel
theorem eX7_moves_95 : decode rX7_moves.2.1 95 = .ok (.iload_n 1, 1) := by decide +kernel
theorem eX7_moves_96 : decode rX7_moves.2.1 96 = .ok (.iadd, 1) := by decide +kernel
theorem eX7_moves_97 : decode rX7_moves.2.1 97 = .ok (.dup2, 1) := by decide +kernel
theorem eX7_moves_98 : decode rX7_moves.2.1 98 = .ok (.iaload, 1) := by decide +kernel
theorem eX7_moves_99 : decode rX7_moves.2.1 99 = .ok (.iconst 1, 1) := by decide +kernel
theorem eX7_moves_100 : decode rX7_moves.2.1 100 = .ok (.iadd, 1) := by decide +kernel
theorem eX7_moves_101 : decode rX7_moves.2.1 101 = .ok (.iastore, 1) := by decide +kernel
theorem eX7_moves_102 : decode rX7_moves.2.1 102 = .ok (.aload_n 0, 1) := by decide +kernel
theorem eX7_moves_103 : decode rX7_moves.2.1 103 = .ok (.getfield 7, 3) := by decide +kernel
theorem eX7_moves_106 : decode rX7_moves.2.1 106 = .ok (.bipush 6, 2) := by decide +kernel
theorem eX7_moves_108 : decode rX7_moves.2.1 108 = .ok (.dup2, 1) := by decide +kernel
theorem eX7_moves_109 : decode rX7_moves.2.1 109 = .ok (.iaload, 1) := by decide +kernel
theorem eX7_moves_110 : decode rX7_moves.2.1 110 = .ok (.iconst 1, 1) := by decide +kernel
theorem eX7_moves_111 : decode rX7_moves.2.1 111 = .ok (.iadd, 1) := by decide +kernel
theorem eX7_moves_112 : decode rX7_moves.2.1 112 = .ok (.iastore, 1) := by decide +kernel
theorem eX7_moves_113 : decode rX7_moves.2.1 113 = .ok (.return_, 1) := by decide +kernel
theorem eX7_acts_0 : decode rX7_acts.2.1 0 = .ok (.aload_n 0, 1) := by decide +kernel
theorem eX7_acts_1 : decode rX7_acts.2.1 1 = .ok (.getfield 7, 3) := by decide +kernel
theorem eX7_acts_4 : decode rX7_acts.2.1 4 = .ok (.bipush 18, 2) := by decide +kernel
theorem eX7_acts_6 : decode rX7_acts.2.1 6 = .ok (.iload_n 1, 1) := by decide +kernel
theorem eX7_acts_7 : decode rX7_acts.2.1 7 = .ok (.iadd, 1) := by decide +kernel
theorem eX7_acts_8 : decode rX7_acts.2.1 8 = .ok (.iaload, 1) := by decide +kernel
theorem eX7_acts_9 : decode rX7_acts.2.1 9 = .ok (.ifCond .le 19, 3) := by decide +kernel
theorem eX7_acts_12 : decode rX7_acts.2.1 12 = .ok (.aload_n 0, 1) := by decide +kernel
theorem eX7_acts_13 : decode rX7_acts.2.1 13 = .ok (.getfield 7, 3) := by decide +kernel
theorem eX7_acts_16 : decode rX7_acts.2.1 16 = .ok (.bipush 18, 2) := by decide +kernel
theorem eX7_acts_18 : decode rX7_acts.2.1 18 = .ok (.iload_n 1, 1) := by decide +kernel
theorem eX7_acts_19 : decode rX7_acts.2.1 19 = .ok (.iadd, 1) := by decide +kernel
theorem eX7_acts_20 : decode rX7_acts.2.1 20 = .ok (.dup2, 1) := by decide +kernel
theorem eX7_acts_21 : decode rX7_acts.2.1 21 = .ok (.iaload, 1) := by decide +kernel
theorem eX7_acts_22 : decode rX7_acts.2.1 22 = .ok (.iconst 1, 1) := by decide +kernel
theorem eX7_acts_23 : decode rX7_acts.2.1 23 = .ok (.isub, 1) := by decide +kernel
theorem eX7_acts_24 : decode rX7_acts.2.1 24 = .ok (.iastore, 1) := by decide +kernel
theorem eX7_acts_25 : decode rX7_acts.2.1 25 = .ok (.goto 72, 3) := by decide +kernel
theorem eX7_acts_28 : decode rX7_acts.2.1 28 = .ok (.aload_n 0, 1) := by decide +kernel
theorem eX7_acts_29 : decode rX7_acts.2.1 29 = .ok (.iload_n 1, 1) := by decide +kernel
theorem eX7_acts_30 : decode rX7_acts.2.1 30 = .ok (.aload_n 0, 1) := by decide +kernel
theorem eX7_acts_31 : decode rX7_acts.2.1 31 = .ok (.getfield 7, 3) := by decide +kernel
theorem eX7_acts_34 : decode rX7_acts.2.1 34 = .ok (.bipush 9, 2) := by decide +kernel
theorem eX7_acts_36 : decode rX7_acts.2.1 36 = .ok (.iload_n 1, 1) := by decide +kernel
theorem eX7_acts_37 : decode rX7_acts.2.1 37 = .ok (.iadd, 1) := by decide +kernel
theorem eX7_acts_38 : decode rX7_acts.2.1 38 = .ok (.iaload, 1) := by decide +kernel
theorem eX7_acts_39 : decode rX7_acts.2.1 39 = .ok (.invokevirtual 67, 3) := by decide +kernel
theorem eX7_acts_42 : decode rX7_acts.2.1 42 = .ok (.ifCond .eq 50, 3) := by decide +kernel
theorem eX7_acts_45 : decode rX7_acts.2.1 45 = .ok (.aload_n 0, 1) := by decide +kernel
theorem eX7_acts_46 : decode rX7_acts.2.1 46 = .ok (.getfield 7, 3) := by decide +kernel
theorem eX7_acts_49 : decode rX7_acts.2.1 49 = .ok (.bipush 18, 2) := by decide +kernel
theorem eX7_acts_51 : decode rX7_acts.2.1 51 = .ok (.iload_n 1, 1) := by decide +kernel
theorem eX7_acts_52 : decode rX7_acts.2.1 52 = .ok (.iadd, 1) := by decide +kernel
theorem eX7_acts_53 : decode rX7_acts.2.1 53 = .ok (.iconst 2, 1) := by decide +kernel
theorem eX7_acts_54 : decode rX7_acts.2.1 54 = .ok (.iastore, 1) := by decide +kernel
theorem eX7_acts_55 : decode rX7_acts.2.1 55 = .ok (.aload_n 0, 1) := by decide +kernel
theorem eX7_acts_56 : decode rX7_acts.2.1 56 = .ok (.getfield 7, 3) := by decide +kernel
theorem eX7_acts_59 : decode rX7_acts.2.1 59 = .ok (.bipush 24, 2) := by decide +kernel
theorem eX7_acts_61 : decode rX7_acts.2.1 61 = .ok (.iload_n 1, 1) := by decide +kernel
theorem eX7_acts_62 : decode rX7_acts.2.1 62 = .ok (.iadd, 1) := by decide +kernel
theorem eX7_acts_63 : decode rX7_acts.2.1 63 = .ok (.dup2, 1) := by decide +kernel
theorem eX7_acts_64 : decode rX7_acts.2.1 64 = .ok (.iaload, 1) := by decide +kernel
theorem eX7_acts_65 : decode rX7_acts.2.1 65 = .ok (.iconst 1, 1) := by decide +kernel
theorem eX7_acts_66 : decode rX7_acts.2.1 66 = .ok (.iadd, 1) := by decide +kernel
theorem eX7_acts_67 : decode rX7_acts.2.1 67 = .ok (.iastore, 1) := by decide +kernel
theorem eX7_acts_68 : decode rX7_acts.2.1 68 = .ok (.aload_n 0, 1) := by decide +kernel
theorem eX7_acts_69 : decode rX7_acts.2.1 69 = .ok (.getfield 7, 3) := by decide +kernel
theorem eX7_acts_72 : decode rX7_acts.2.1 72 = .ok (.bipush 7, 2) := by decide +kernel
theorem eX7_acts_74 : decode rX7_acts.2.1 74 = .ok (.dup2, 1) := by decide +kernel
theorem eX7_acts_75 : decode rX7_acts.2.1 75 = .ok (.iaload, 1) := by decide +kernel
theorem eX7_acts_76 : decode rX7_acts.2.1 76 = .ok (.iconst 1, 1) := by decide +kernel
theorem eX7_acts_77 : decode rX7_acts.2.1 77 = .ok (.iadd, 1) := by decide +kernel
theorem eX7_acts_78 : decode rX7_acts.2.1 78 = .ok (.iastore, 1) := by decide +kernel
theorem eX7_acts_79 : decode rX7_acts.2.1 79 = .ok (.aload_n 0, 1) := by decide +kernel
theorem eX7_acts_80 : decode rX7_acts.2.1 80 = .ok (.iload_n 1, 1) := by decide +kernel
theorem eX7_acts_81 : decode rX7_acts.2.1 81 = .ok (.invokevirtual 144, 3) := by decide +kernel
theorem eX7_acts_84 : decode rX7_acts.2.1 84 = .ok (.aload_n 0, 1) := by decide +kernel
theorem eX7_acts_85 : decode rX7_acts.2.1 85 = .ok (.iload_n 1, 1) := by decide +kernel
theorem eX7_acts_86 : decode rX7_acts.2.1 86 = .ok (.invokevirtual 147, 3) := by decide +kernel
theorem eX7_acts_89 : decode rX7_acts.2.1 89 = .ok (.goto 8, 3) := by decide +kernel
theorem eX7_acts_92 : decode rX7_acts.2.1 92 = .ok (.aload_n 0, 1) := by decide +kernel
theorem eX7_acts_93 : decode rX7_acts.2.1 93 = .ok (.iload_n 1, 1) := by decide +kernel
theorem eX7_acts_94 : decode rX7_acts.2.1 94 = .ok (.invokevirtual 150, 3) := by decide +kernel
theorem eX7_acts_97 : decode rX7_acts.2.1 97 = .ok (.return_, 1) := by decide +kernel
theorem eX7_step_0 : decode rX7_step.2.1 0 = .ok (.aload_n 0, 1) := by decide +kernel
theorem eX7_step_1 : decode rX7_step.2.1 1 = .ok (.getfield 7, 3) := by decide +kernel
theorem eX7_step_4 : decode rX7_step.2.1 4 = .ok (.iconst 0, 1) := by decide +kernel
theorem eX7_step_5 : decode rX7_step.2.1 5 = .ok (.dup2, 1) := by decide +kernel
theorem eX7_step_6 : decode rX7_step.2.1 6 = .ok (.iaload, 1) := by decide +kernel
theorem eX7_step_7 : decode rX7_step.2.1 7 = .ok (.iconst 1, 1) := by decide +kernel
theorem eX7_step_8 : decode rX7_step.2.1 8 = .ok (.iadd, 1) := by decide +kernel
theorem eX7_step_9 : decode rX7_step.2.1 9 = .ok (.iastore, 1) := by decide +kernel
theorem eX7_step_10 : decode rX7_step.2.1 10 = .ok (.iconst 0, 1) := by decide +kernel
theorem eX7_step_11 : decode rX7_step.2.1 11 = .ok (.istore_n 1, 1) := by decide +kernel
theorem eX7_step_12 : decode rX7_step.2.1 12 = .ok (.iload_n 1, 1) := by decide +kernel
theorem eX7_step_13 : decode rX7_step.2.1 13 = .ok (.aload_n 0, 1) := by decide +kernel
theorem eX7_step_14 : decode rX7_step.2.1 14 = .ok (.getfield 7, 3) := by decide +kernel
theorem eX7_step_17 : decode rX7_step.2.1 17 = .ok (.iconst 1, 1) := by decide +kernel
theorem eX7_step_18 : decode rX7_step.2.1 18 = .ok (.iaload, 1) := by decide +kernel
theorem eX7_step_19 : decode rX7_step.2.1 19 = .ok (.if_icmp .ge 26, 3) := by decide +kernel
theorem eX7_step_22 : decode rX7_step.2.1 22 = .ok (.aload_n 0, 1) := by decide +kernel
theorem eX7_step_23 : decode rX7_step.2.1 23 = .ok (.getfield 7, 3) := by decide +kernel
theorem eX7_step_26 : decode rX7_step.2.1 26 = .ok (.bipush 87, 2) := by decide +kernel
theorem eX7_step_28 : decode rX7_step.2.1 28 = .ok (.iload_n 1, 1) := by decide +kernel
theorem eX7_step_29 : decode rX7_step.2.1 29 = .ok (.iadd, 1) := by decide +kernel
theorem eX7_step_30 : decode rX7_step.2.1 30 = .ok (.iaload, 1) := by decide +kernel
theorem eX7_step_31 : decode rX7_step.2.1 31 = .ok (.ifCond .ne 8, 3) := by decide +kernel
theorem eX7_step_34 : decode rX7_step.2.1 34 = .ok (.aload_n 0, 1) := by decide +kernel
theorem eX7_step_35 : decode rX7_step.2.1 35 = .ok (.iload_n 1, 1) := by decide +kernel
theorem eX7_step_36 : decode rX7_step.2.1 36 = .ok (.invokevirtual 93, 3) := by decide +kernel
theorem eX7_step_39 : decode rX7_step.2.1 39 = .ok (.iinc 1 1, 3) := by decide +kernel
theorem eX7_step_42 : decode rX7_step.2.1 42 = .ok (.goto (-30), 3) := by decide +kernel
theorem eX7_step_45 : decode rX7_step.2.1 45 = .ok (.iconst 0, 1) := by decide +kernel
theorem eX7_step_46 : decode rX7_step.2.1 46 = .ok (.istore_n 1, 1) := by decide +kernel
theorem eX7_step_47 : decode rX7_step.2.1 47 = .ok (.iload_n 1, 1) := by decide +kernel
theorem eX7_step_48 : decode rX7_step.2.1 48 = .ok (.aload_n 0, 1) := by decide +kernel
theorem eX7_step_49 : decode rX7_step.2.1 49 = .ok (.getfield 7, 3) := by decide +kernel
theorem eX7_step_52 : decode rX7_step.2.1 52 = .ok (.iconst 1, 1) := by decide +kernel
theorem eX7_step_53 : decode rX7_step.2.1 53 = .ok (.iaload, 1) := by decide +kernel
theorem eX7_step_54 : decode rX7_step.2.1 54 = .ok (.if_icmp .ge 32, 3) := by decide +kernel
theorem eX7_step_57 : decode rX7_step.2.1 57 = .ok (.aload_n 0, 1) := by decide +kernel
theorem eX7_step_58 : decode rX7_step.2.1 58 = .ok (.getfield 7, 3) := by decide +kernel
theorem eX7_step_61 : decode rX7_step.2.1 61 = .ok (.bipush 75, 2) := by decide +kernel
theorem eX7_step_63 : decode rX7_step.2.1 63 = .ok (.iload_n 1, 1) := by decide +kernel
theorem eX7_step_64 : decode rX7_step.2.1 64 = .ok (.iadd, 1) := by decide +kernel
theorem eX7_step_65 : decode rX7_step.2.1 65 = .ok (.dup2, 1) := by decide +kernel
theorem eX7_step_66 : decode rX7_step.2.1 66 = .ok (.iaload, 1) := by decide +kernel
theorem eX7_step_67 : decode rX7_step.2.1 67 = .ok (.iconst 1, 1) := by decide +kernel
theorem eX7_step_68 : decode rX7_step.2.1 68 = .ok (.aload_n 0, 1) := by decide +kernel
theorem eX7_step_69 : decode rX7_step.2.1 69 = .ok (.getfield 7, 3) := by decide +kernel
theorem eX7_step_72 : decode rX7_step.2.1 72 = .ok (.bipush 99, 2) := by decide +kernel
theorem eX7_step_74 : decode rX7_step.2.1 74 = .ok (.iload_n 1, 1) := by decide +kernel
theorem eX7_step_75 : decode rX7_step.2.1 75 = .ok (.iadd, 1) := by decide +kernel
theorem eX7_step_76 : decode rX7_step.2.1 76 = .ok (.iaload, 1) := by decide +kernel
theorem eX7_step_77 : decode rX7_step.2.1 77 = .ok (.isub, 1) := by decide +kernel
theorem eX7_step_78 : decode rX7_step.2.1 78 = .ok (.iadd, 1) := by decide +kernel
theorem eX7_step_79 : decode rX7_step.2.1 79 = .ok (.iastore, 1) := by decide +kernel
theorem eX7_step_80 : decode rX7_step.2.1 80 = .ok (.iinc 1 1, 3) := by decide +kernel
theorem eX7_step_83 : decode rX7_step.2.1 83 = .ok (.goto (-36), 3) := by decide +kernel
theorem eX7_step_86 : decode rX7_step.2.1 86 = .ok (.iconst 0, 1) := by decide +kernel
theorem eX7_step_87 : decode rX7_step.2.1 87 = .ok (.istore_n 1, 1) := by decide +kernel
theorem eX7_step_88 : decode rX7_step.2.1 88 = .ok (.iload_n 1, 1) := by decide +kernel
theorem eX7_step_89 : decode rX7_step.2.1 89 = .ok (.iconst 3, 1) := by decide +kernel
theorem eX7_step_90 : decode rX7_step.2.1 90 = .ok (.if_icmp .ge 26, 3) := by decide +kernel
theorem eX7_step_93 : decode rX7_step.2.1 93 = .ok (.aload_n 0, 1) := by decide +kernel
theorem eX7_step_94 : decode rX7_step.2.1 94 = .ok (.getfield 7, 3) := by decide +kernel
theorem eX7_step_97 : decode rX7_step.2.1 97 = .ok (.bipush 21, 2) := by decide +kernel
theorem eX7_step_99 : decode rX7_step.2.1 99 = .ok (.iload_n 1, 1) := by decide +kernel
theorem eX7_step_100 : decode rX7_step.2.1 100 = .ok (.iadd, 1) := by decide +kernel
theorem eX7_step_101 : decode rX7_step.2.1 101 = .ok (.iaload, 1) := by decide +kernel
theorem eX7_step_102 : decode rX7_step.2.1 102 = .ok (.ifCond .ne 8, 3) := by decide +kernel
theorem eX7_step_105 : decode rX7_step.2.1 105 = .ok (.aload_n 0, 1) := by decide +kernel
theorem eX7_step_106 : decode rX7_step.2.1 106 = .ok (.iload_n 1, 1) := by decide +kernel
theorem eX7_step_107 : decode rX7_step.2.1 107 = .ok (.invokevirtual 153, 3) := by decide +kernel
theorem eX7_step_110 : decode rX7_step.2.1 110 = .ok (.iinc 1 1, 3) := by decide +kernel
theorem eX7_step_113 : decode rX7_step.2.1 113 = .ok (.goto (-25), 3) := by decide +kernel
theorem eX7_step_116 : decode rX7_step.2.1 116 = .ok (.return_, 1) := by decide +kernel
theorem eX7_advances_0 : decode rX7_advances.2.1 0 = .ok (.iload_n 1, 1) := by decide +kernel
theorem eX7_advances_1 : decode rX7_advances.2.1 1 = .ok (.iconst 1, 1) := by decide +kernel
theorem eX7_advances_2 : decode rX7_advances.2.1 2 = .ok (.bipush 30, 2) := by decide +kernel
theorem eX7_advances_4 : decode rX7_advances.2.1 4 = .ok (.invokestatic 52, 3) := by decide +kernel
theorem eX7_advances_7 : decode rX7_advances.2.1 7 = .ok (.ifCond .ne 9, 3) := by decide +kernel
theorem eX7_advances_10 : decode rX7_advances.2.1 10 = .ok (.aload_n 0, 1) := by decide +kernel
theorem eX7_advances_11 : decode rX7_advances.2.1 11 = .ok (.iconst 1, 1) := by decide +kernel
theorem eX7_advances_12 : decode rX7_advances.2.1 12 = .ok (.invokevirtual 90, 3) := by decide +kernel
theorem eX7_advances_15 : decode rX7_advances.2.1 15 = .ok (.ireturn, 1) := by decide +kernel
theorem eX7_advances_16 : decode rX7_advances.2.1 16 = .ok (.aload_n 0, 1) := by decide +kernel
theorem eX7_advances_17 : decode rX7_advances.2.1 17 = .ok (.getfield 7, 3) := by decide +kernel
theorem eX7_advances_20 : decode rX7_advances.2.1 20 = .ok (.iconst 3, 1) := by decide +kernel
theorem eX7_advances_21 : decode rX7_advances.2.1 21 = .ok (.iaload, 1) := by decide +kernel
theorem eX7_advances_22 : decode rX7_advances.2.1 22 = .ok (.istore_n 2, 1) := by decide +kernel
theorem eX7_advances_23 : decode rX7_advances.2.1 23 = .ok (.iconst 0, 1) := by decide +kernel
theorem eX7_advances_24 : decode rX7_advances.2.1 24 = .ok (.istore_n 3, 1) := by decide +kernel
theorem eX7_advances_25 : decode rX7_advances.2.1 25 = .ok (.iload_n 3, 1) := by decide +kernel
theorem eX7_advances_26 : decode rX7_advances.2.1 26 = .ok (.iload_n 1, 1) := by decide +kernel
theorem eX7_advances_27 : decode rX7_advances.2.1 27 = .ok (.if_icmp .ge 13, 3) := by decide +kernel
theorem eX7_advances_30 : decode rX7_advances.2.1 30 = .ok (.aload_n 0, 1) := by decide +kernel
theorem eX7_advances_31 : decode rX7_advances.2.1 31 = .ok (.invokevirtual 156, 3) := by decide +kernel
theorem eX7_advances_34 : decode rX7_advances.2.1 34 = .ok (.iinc 3 1, 3) := by decide +kernel
theorem eX7_advances_37 : decode rX7_advances.2.1 37 = .ok (.goto (-12), 3) := by decide +kernel
theorem eX7_advances_40 : decode rX7_advances.2.1 40 = .ok (.aload_n 0, 1) := by decide +kernel
theorem eX7_advances_41 : decode rX7_advances.2.1 41 = .ok (.aload_n 0, 1) := by decide +kernel
theorem eX7_advances_42 : decode rX7_advances.2.1 42 = .ok (.getfield 7, 3) := by decide +kernel
theorem eX7_advances_45 : decode rX7_advances.2.1 45 = .ok (.iconst 3, 1) := by decide +kernel
theorem eX7_advances_46 : decode rX7_advances.2.1 46 = .ok (.iaload, 1) := by decide +kernel
theorem eX7_advances_47 : decode rX7_advances.2.1 47 = .ok (.iload_n 2, 1) := by decide +kernel
theorem eX7_advances_48 : decode rX7_advances.2.1 48 = .ok (.isub, 1) := by decide +kernel
theorem eX7_advances_49 : decode rX7_advances.2.1 49 = .ok (.invokevirtual 97, 3) := by decide +kernel
theorem eX7_advances_52 : decode rX7_advances.2.1 52 = .ok (.ireturn, 1) := by decide +kernel
theorem eX7_advance_0 : decode rX7_advance.2.1 0 = .ok (.aload_n 0, 1) := by decide +kernel
theorem eX7_advance_1 : decode rX7_advance.2.1 1 = .ok (.invokevirtual 100, 3) := by decide +kernel
theorem eX7_advance_4 : decode rX7_advance.2.1 4 = .ok (.aload_n 0, 1) := by decide +kernel
theorem eX7_advance_5 : decode rX7_advance.2.1 5 = .ok (.aload_n 0, 1) := by decide +kernel
theorem eX7_advance_6 : decode rX7_advance.2.1 6 = .ok (.iload_n 1, 1) := by decide +kernel
theorem eX7_advance_7 : decode rX7_advance.2.1 7 = .ok (.invokevirtual 159, 3) := by decide +kernel
theorem eX7_advance_10 : decode rX7_advance.2.1 10 = .ok (.invokevirtual 107, 3) := by decide +kernel
theorem eX7_advance_13 : decode rX7_advance.2.1 13 = .ok (.ireturn, 1) := by decide +kernel
theorem eX7_time_0 : decode rX7_time.2.1 0 = .ok (.aload_n 0, 1) := by decide +kernel
theorem eX7_time_1 : decode rX7_time.2.1 1 = .ok (.aload_n 0, 1) := by decide +kernel
theorem eX7_time_2 : decode rX7_time.2.1 2 = .ok (.getfield 7, 3) := by decide +kernel
theorem eX7_time_5 : decode rX7_time.2.1 5 = .ok (.iconst 0, 1) := by decide +kernel
theorem eX7_time_6 : decode rX7_time.2.1 6 = .ok (.iaload, 1) := by decide +kernel
theorem eX7_time_7 : decode rX7_time.2.1 7 = .ok (.invokevirtual 97, 3) := by decide +kernel
theorem eX7_time_10 : decode rX7_time.2.1 10 = .ok (.ireturn, 1) := by decide +kernel
theorem eX7_carNumber_0 : decode rX7_carNumber.2.1 0 = .ok (.iload_n 2, 1) := by decide +kernel
theorem eX7_carNumber_1 : decode rX7_carNumber.2.1 1 = .ok (.invokestatic 119, 3) := by decide +kernel
theorem eX7_carNumber_4 : decode rX7_carNumber.2.1 4 = .ok (.ifCond .eq 18, 3) := by decide +kernel
theorem eX7_carNumber_7 : decode rX7_carNumber.2.1 7 = .ok (.aload_n 0, 1) := by decide +kernel
theorem eX7_carNumber_8 : decode rX7_carNumber.2.1 8 = .ok (.aload_n 0, 1) := by decide +kernel
theorem eX7_carNumber_9 : decode rX7_carNumber.2.1 9 = .ok (.getfield 7, 3) := by decide +kernel
theorem eX7_carNumber_12 : decode rX7_carNumber.2.1 12 = .ok (.iload_n 1, 1) := by decide +kernel
theorem eX7_carNumber_13 : decode rX7_carNumber.2.1 13 = .ok (.iload_n 2, 1) := by decide +kernel
theorem eX7_carNumber_14 : decode rX7_carNumber.2.1 14 = .ok (.iadd, 1) := by decide +kernel
theorem eX7_carNumber_15 : decode rX7_carNumber.2.1 15 = .ok (.iaload, 1) := by decide +kernel
theorem eX7_carNumber_16 : decode rX7_carNumber.2.1 16 = .ok (.invokevirtual 97, 3) := by decide +kernel
theorem eX7_carNumber_19 : decode rX7_carNumber.2.1 19 = .ok (.goto 8, 3) := by decide +kernel
theorem eX7_carNumber_22 : decode rX7_carNumber.2.1 22 = .ok (.aload_n 0, 1) := by decide +kernel
theorem eX7_carNumber_23 : decode rX7_carNumber.2.1 23 = .ok (.iconst 1, 1) := by decide +kernel
theorem eX7_carNumber_24 : decode rX7_carNumber.2.1 24 = .ok (.invokevirtual 90, 3) := by decide +kernel
theorem eX7_carNumber_27 : decode rX7_carNumber.2.1 27 = .ok (.ireturn, 1) := by decide +kernel
theorem eX7_floor_0 : decode rX7_floor.2.1 0 = .ok (.aload_n 0, 1) := by decide +kernel
theorem eX7_floor_1 : decode rX7_floor.2.1 1 = .ok (.bipush 9, 2) := by decide +kernel
theorem eX7_floor_3 : decode rX7_floor.2.1 3 = .ok (.iload_n 1, 1) := by decide +kernel
theorem eX7_floor_4 : decode rX7_floor.2.1 4 = .ok (.invokevirtual 162, 3) := by decide +kernel
theorem eX7_floor_7 : decode rX7_floor.2.1 7 = .ok (.ireturn, 1) := by decide +kernel
theorem eX7_direction_0 : decode rX7_direction.2.1 0 = .ok (.aload_n 0, 1) := by decide +kernel
theorem eX7_direction_1 : decode rX7_direction.2.1 1 = .ok (.bipush 12, 2) := by decide +kernel
theorem eX7_direction_3 : decode rX7_direction.2.1 3 = .ok (.iload_n 1, 1) := by decide +kernel
theorem eX7_direction_4 : decode rX7_direction.2.1 4 = .ok (.invokevirtual 162, 3) := by decide +kernel
theorem eX7_direction_7 : decode rX7_direction.2.1 7 = .ok (.ireturn, 1) := by decide +kernel
theorem eX7_capacity_0 : decode rX7_capacity.2.1 0 = .ok (.aload_n 0, 1) := by decide +kernel
theorem eX7_capacity_1 : decode rX7_capacity.2.1 1 = .ok (.bipush 15, 2) := by decide +kernel
theorem eX7_capacity_3 : decode rX7_capacity.2.1 3 = .ok (.iload_n 1, 1) := by decide +kernel
theorem eX7_capacity_4 : decode rX7_capacity.2.1 4 = .ok (.invokevirtual 162, 3) := by decide +kernel
theorem eX7_capacity_7 : decode rX7_capacity.2.1 7 = .ok (.ireturn, 1) := by decide +kernel
theorem eX7_load_0 : decode rX7_load.2.1 0 = .ok (.iload_n 1, 1) := by decide +kernel
theorem eX7_load_1 : decode rX7_load.2.1 1 = .ok (.invokestatic 119, 3) := by decide +kernel
theorem eX7_load_4 : decode rX7_load.2.1 4 = .ok (.ifCond .eq 15, 3) := by decide +kernel
theorem eX7_load_7 : decode rX7_load.2.1 7 = .ok (.aload_n 0, 1) := by decide +kernel
theorem eX7_load_8 : decode rX7_load.2.1 8 = .ok (.aload_n 0, 1) := by decide +kernel
theorem eX7_load_9 : decode rX7_load.2.1 9 = .ok (.iload_n 1, 1) := by decide +kernel
theorem eX7_load_10 : decode rX7_load.2.1 10 = .ok (.invokevirtual 81, 3) := by decide +kernel
theorem eX7_load_13 : decode rX7_load.2.1 13 = .ok (.invokevirtual 97, 3) := by decide +kernel
theorem eX7_load_16 : decode rX7_load.2.1 16 = .ok (.goto 8, 3) := by decide +kernel
theorem eX7_load_19 : decode rX7_load.2.1 19 = .ok (.aload_n 0, 1) := by decide +kernel
theorem eX7_load_20 : decode rX7_load.2.1 20 = .ok (.iconst 1, 1) := by decide +kernel
theorem eX7_load_21 : decode rX7_load.2.1 21 = .ok (.invokevirtual 90, 3) := by decide +kernel
theorem eX7_load_24 : decode rX7_load.2.1 24 = .ok (.ireturn, 1) := by decide +kernel
theorem eX7_passengersIn_0 : decode rX7_passengersIn.2.1 0 = .ok (.iload_n 1, 1) := by decide +kernel
theorem eX7_passengersIn_1 : decode rX7_passengersIn.2.1 1 = .ok (.invokestatic 119, 3) := by decide +kernel
theorem eX7_passengersIn_4 : decode rX7_passengersIn.2.1 4 = .ok (.ifCond .eq 15, 3) := by decide +kernel
theorem eX7_passengersIn_7 : decode rX7_passengersIn.2.1 7 = .ok (.aload_n 0, 1) := by decide +kernel
theorem eX7_passengersIn_8 : decode rX7_passengersIn.2.1 8 = .ok (.aload_n 0, 1) := by decide +kernel
theorem eX7_passengersIn_9 : decode rX7_passengersIn.2.1 9 = .ok (.iload_n 1, 1) := by decide +kernel
theorem eX7_passengersIn_10 : decode rX7_passengersIn.2.1 10 = .ok (.invokevirtual 74, 3) := by decide +kernel
theorem eX7_passengersIn_13 : decode rX7_passengersIn.2.1 13 = .ok (.invokevirtual 97, 3) := by decide +kernel
theorem eX7_passengersIn_16 : decode rX7_passengersIn.2.1 16 = .ok (.goto 8, 3) := by decide +kernel
theorem eX7_passengersIn_19 : decode rX7_passengersIn.2.1 19 = .ok (.aload_n 0, 1) := by decide +kernel
theorem eX7_passengersIn_20 : decode rX7_passengersIn.2.1 20 = .ok (.iconst 1, 1) := by decide +kernel
theorem eX7_passengersIn_21 : decode rX7_passengersIn.2.1 21 = .ok (.invokevirtual 90, 3) := by decide +kernel
theorem eX7_passengersIn_24 : decode rX7_passengersIn.2.1 24 = .ok (.ireturn, 1) := by decide +kernel
theorem eX7_assignedTo_0 : decode rX7_assignedTo.2.1 0 = .ok (.iload_n 1, 1) := by decide +kernel
theorem eX7_assignedTo_1 : decode rX7_assignedTo.2.1 1 = .ok (.invokestatic 119, 3) := by decide +kernel
theorem eX7_assignedTo_4 : decode rX7_assignedTo.2.1 4 = .ok (.ifCond .ne 9, 3) := by decide +kernel
theorem eX7_assignedTo_7 : decode rX7_assignedTo.2.1 7 = .ok (.aload_n 0, 1) := by decide +kernel
theorem eX7_assignedTo_8 : decode rX7_assignedTo.2.1 8 = .ok (.iconst 1, 1) := by decide +kernel
theorem eX7_assignedTo_9 : decode rX7_assignedTo.2.1 9 = .ok (.invokevirtual 90, 3) := by decide +kernel
theorem eX7_assignedTo_12 : decode rX7_assignedTo.2.1 12 = .ok (.ireturn, 1) := by decide +kernel
theorem eX7_assignedTo_13 : decode rX7_assignedTo.2.1 13 = .ok (.iconst 0, 1) := by decide +kernel
theorem eX7_assignedTo_14 : decode rX7_assignedTo.2.1 14 = .ok (.istore_n 2, 1) := by decide +kernel
theorem eX7_assignedTo_15 : decode rX7_assignedTo.2.1 15 = .ok (.iconst 0, 1) := by decide +kernel
theorem eX7_assignedTo_16 : decode rX7_assignedTo.2.1 16 = .ok (.istore_n 3, 1) := by decide +kernel
theorem eX7_assignedTo_17 : decode rX7_assignedTo.2.1 17 = .ok (.iload_n 3, 1) := by decide +kernel
theorem eX7_assignedTo_18 : decode rX7_assignedTo.2.1 18 = .ok (.aload_n 0, 1) := by decide +kernel
theorem eX7_assignedTo_19 : decode rX7_assignedTo.2.1 19 = .ok (.getfield 7, 3) := by decide +kernel
theorem eX7_assignedTo_22 : decode rX7_assignedTo.2.1 22 = .ok (.iconst 1, 1) := by decide +kernel
theorem eX7_assignedTo_23 : decode rX7_assignedTo.2.1 23 = .ok (.iaload, 1) := by decide +kernel
theorem eX7_assignedTo_24 : decode rX7_assignedTo.2.1 24 = .ok (.if_icmp .ge 26, 3) := by decide +kernel
theorem eX7_assignedTo_27 : decode rX7_assignedTo.2.1 27 = .ok (.iload_n 2, 1) := by decide +kernel
theorem eX7_assignedTo_28 : decode rX7_assignedTo.2.1 28 = .ok (.aload_n 0, 1) := by decide +kernel
theorem eX7_assignedTo_29 : decode rX7_assignedTo.2.1 29 = .ok (.iload_n 3, 1) := by decide +kernel
theorem eX7_assignedTo_30 : decode rX7_assignedTo.2.1 30 = .ok (.iload_n 1, 1) := by decide +kernel
theorem eX7_assignedTo_31 : decode rX7_assignedTo.2.1 31 = .ok (.invokevirtual 60, 3) := by decide +kernel
theorem eX7_assignedTo_34 : decode rX7_assignedTo.2.1 34 = .ok (.ifCond .eq 7, 3) := by decide +kernel
theorem eX7_assignedTo_37 : decode rX7_assignedTo.2.1 37 = .ok (.iconst 1, 1) := by decide +kernel
theorem eX7_assignedTo_38 : decode rX7_assignedTo.2.1 38 = .ok (.goto 4, 3) := by decide +kernel
theorem eX7_assignedTo_41 : decode rX7_assignedTo.2.1 41 = .ok (.iconst 0, 1) := by decide +kernel
theorem eX7_assignedTo_42 : decode rX7_assignedTo.2.1 42 = .ok (.iadd, 1) := by decide +kernel
theorem eX7_assignedTo_43 : decode rX7_assignedTo.2.1 43 = .ok (.istore_n 2, 1) := by decide +kernel
theorem eX7_assignedTo_44 : decode rX7_assignedTo.2.1 44 = .ok (.iinc 3 1, 3) := by decide +kernel
theorem eX7_assignedTo_47 : decode rX7_assignedTo.2.1 47 = .ok (.goto (-30), 3) := by decide +kernel
theorem eX7_assignedTo_50 : decode rX7_assignedTo.2.1 50 = .ok (.aload_n 0, 1) := by decide +kernel
theorem eX7_assignedTo_51 : decode rX7_assignedTo.2.1 51 = .ok (.iload_n 2, 1) := by decide +kernel
theorem eX7_assignedTo_52 : decode rX7_assignedTo.2.1 52 = .ok (.invokevirtual 97, 3) := by decide +kernel
theorem eX7_assignedTo_55 : decode rX7_assignedTo.2.1 55 = .ok (.ireturn, 1) := by decide +kernel
theorem eX7_doorSteps_0 : decode rX7_doorSteps.2.1 0 = .ok (.aload_n 0, 1) := by decide +kernel
theorem eX7_doorSteps_1 : decode rX7_doorSteps.2.1 1 = .ok (.bipush 18, 2) := by decide +kernel
theorem eX7_doorSteps_3 : decode rX7_doorSteps.2.1 3 = .ok (.iload_n 1, 1) := by decide +kernel
theorem eX7_doorSteps_4 : decode rX7_doorSteps.2.1 4 = .ok (.invokevirtual 162, 3) := by decide +kernel
theorem eX7_doorSteps_7 : decode rX7_doorSteps.2.1 7 = .ok (.ireturn, 1) := by decide +kernel
theorem eX7_isInService_0 : decode rX7_isInService.2.1 0 = .ok (.aload_n 0, 1) := by decide +kernel
theorem eX7_isInService_1 : decode rX7_isInService.2.1 1 = .ok (.iload_n 1, 1) := by decide +kernel
theorem eX7_isInService_2 : decode rX7_isInService.2.1 2 = .ok (.invokestatic 119, 3) := by decide +kernel
theorem eX7_isInService_5 : decode rX7_isInService.2.1 5 = .ok (.ifCond .eq 7, 3) := by decide +kernel
theorem eX7_isInService_8 : decode rX7_isInService.2.1 8 = .ok (.iconst 0, 1) := by decide +kernel
theorem eX7_isInService_9 : decode rX7_isInService.2.1 9 = .ok (.goto 4, 3) := by decide +kernel
theorem eX7_isInService_12 : decode rX7_isInService.2.1 12 = .ok (.iconst 1, 1) := by decide +kernel
theorem eX7_isInService_13 : decode rX7_isInService.2.1 13 = .ok (.putfield 42, 3) := by decide +kernel
theorem eX7_isInService_16 : decode rX7_isInService.2.1 16 = .ok (.aload_n 0, 1) := by decide +kernel
theorem eX7_isInService_17 : decode rX7_isInService.2.1 17 = .ok (.getfield 42, 3) := by decide +kernel
theorem eX7_isInService_20 : decode rX7_isInService.2.1 20 = .ok (.ifCond .ne 19, 3) := by decide +kernel
theorem eX7_isInService_23 : decode rX7_isInService.2.1 23 = .ok (.aload_n 0, 1) := by decide +kernel
theorem eX7_isInService_24 : decode rX7_isInService.2.1 24 = .ok (.getfield 7, 3) := by decide +kernel
theorem eX7_isInService_27 : decode rX7_isInService.2.1 27 = .ok (.bipush 21, 2) := by decide +kernel
theorem eX7_isInService_29 : decode rX7_isInService.2.1 29 = .ok (.iload_n 1, 1) := by decide +kernel
theorem eX7_isInService_30 : decode rX7_isInService.2.1 30 = .ok (.iadd, 1) := by decide +kernel
theorem eX7_isInService_31 : decode rX7_isInService.2.1 31 = .ok (.iaload, 1) := by decide +kernel
theorem eX7_isInService_32 : decode rX7_isInService.2.1 32 = .ok (.ifCond .ne 7, 3) := by decide +kernel
theorem eX7_isInService_35 : decode rX7_isInService.2.1 35 = .ok (.iconst 1, 1) := by decide +kernel
theorem eX7_isInService_36 : decode rX7_isInService.2.1 36 = .ok (.goto 4, 3) := by decide +kernel
theorem eX7_isInService_39 : decode rX7_isInService.2.1 39 = .ok (.iconst 0, 1) := by decide +kernel
theorem eX7_isInService_40 : decode rX7_isInService.2.1 40 = .ok (.ireturn, 1) := by decide +kernel
theorem eX7_energy_0 : decode rX7_energy.2.1 0 = .ok (.aload_n 0, 1) := by decide +kernel
theorem eX7_energy_1 : decode rX7_energy.2.1 1 = .ok (.bipush 24, 2) := by decide +kernel
theorem eX7_energy_3 : decode rX7_energy.2.1 3 = .ok (.iload_n 1, 1) := by decide +kernel
theorem eX7_energy_4 : decode rX7_energy.2.1 4 = .ok (.invokevirtual 162, 3) := by decide +kernel
theorem eX7_energy_7 : decode rX7_energy.2.1 7 = .ok (.ireturn, 1) := by decide +kernel
theorem eX7_isStop_0 : decode rX7_isStop.2.1 0 = .ok (.aload_n 0, 1) := by decide +kernel
theorem eX7_isStop_1 : decode rX7_isStop.2.1 1 = .ok (.iload_n 1, 1) := by decide +kernel
theorem eX7_isStop_2 : decode rX7_isStop.2.1 2 = .ok (.invokestatic 119, 3) := by decide +kernel
theorem eX7_isStop_5 : decode rX7_isStop.2.1 5 = .ok (.ifCond .ne 7, 3) := by decide +kernel
theorem eX7_isStop_8 : decode rX7_isStop.2.1 8 = .ok (.iconst 1, 1) := by decide +kernel
theorem eX7_isStop_9 : decode rX7_isStop.2.1 9 = .ok (.goto 15, 3) := by decide +kernel
theorem eX7_isStop_12 : decode rX7_isStop.2.1 12 = .ok (.iload_n 2, 1) := by decide +kernel
theorem eX7_isStop_13 : decode rX7_isStop.2.1 13 = .ok (.invokestatic 63, 3) := by decide +kernel
theorem eX7_isStop_16 : decode rX7_isStop.2.1 16 = .ok (.ifCond .ne 7, 3) := by decide +kernel
theorem eX7_isStop_19 : decode rX7_isStop.2.1 19 = .ok (.iconst 2, 1) := by decide +kernel
theorem eX7_isStop_20 : decode rX7_isStop.2.1 20 = .ok (.goto 4, 3) := by decide +kernel
theorem eX7_isStop_23 : decode rX7_isStop.2.1 23 = .ok (.iconst 0, 1) := by decide +kernel
theorem eX7_isStop_24 : decode rX7_isStop.2.1 24 = .ok (.putfield 42, 3) := by decide +kernel
theorem eX7_isStop_27 : decode rX7_isStop.2.1 27 = .ok (.aload_n 0, 1) := by decide +kernel
theorem eX7_isStop_28 : decode rX7_isStop.2.1 28 = .ok (.getfield 42, 3) := by decide +kernel
theorem eX7_isStop_31 : decode rX7_isStop.2.1 31 = .ok (.ifCond .ne 16, 3) := by decide +kernel
theorem eX7_isStop_34 : decode rX7_isStop.2.1 34 = .ok (.aload_n 0, 1) := by decide +kernel
theorem eX7_isStop_35 : decode rX7_isStop.2.1 35 = .ok (.iload_n 1, 1) := by decide +kernel
theorem eX7_isStop_36 : decode rX7_isStop.2.1 36 = .ok (.iload_n 2, 1) := by decide +kernel
theorem eX7_isStop_37 : decode rX7_isStop.2.1 37 = .ok (.invokevirtual 67, 3) := by decide +kernel
theorem eX7_isStop_40 : decode rX7_isStop.2.1 40 = .ok (.ifCond .eq 7, 3) := by decide +kernel
theorem eX7_isStop_43 : decode rX7_isStop.2.1 43 = .ok (.iconst 1, 1) := by decide +kernel
theorem eX7_isStop_44 : decode rX7_isStop.2.1 44 = .ok (.goto 4, 3) := by decide +kernel
theorem eX7_isStop_47 : decode rX7_isStop.2.1 47 = .ok (.iconst 0, 1) := by decide +kernel
theorem eX7_isStop_48 : decode rX7_isStop.2.1 48 = .ok (.ireturn, 1) := by decide +kernel
theorem eX7_countStops_0 : decode rX7_countStops.2.1 0 = .ok (.iconst 0, 1) := by decide +kernel
theorem eX7_countStops_1 : decode rX7_countStops.2.1 1 = .ok (.istore_n 2, 1) := by decide +kernel
theorem eX7_countStops_2 : decode rX7_countStops.2.1 2 = .ok (.iconst 0, 1) := by decide +kernel
theorem eX7_countStops_3 : decode rX7_countStops.2.1 3 = .ok (.istore_n 3, 1) := by decide +kernel
theorem eX7_countStops_4 : decode rX7_countStops.2.1 4 = .ok (.iload_n 3, 1) := by decide +kernel
theorem eX7_countStops_5 : decode rX7_countStops.2.1 5 = .ok (.bipush 10, 2) := by decide +kernel
theorem eX7_countStops_7 : decode rX7_countStops.2.1 7 = .ok (.if_icmp .ge 26, 3) := by decide +kernel
theorem eX7_countStops_10 : decode rX7_countStops.2.1 10 = .ok (.iload_n 2, 1) := by decide +kernel
theorem eX7_countStops_11 : decode rX7_countStops.2.1 11 = .ok (.aload_n 0, 1) := by decide +kernel
theorem eX7_countStops_12 : decode rX7_countStops.2.1 12 = .ok (.iload_n 1, 1) := by decide +kernel
theorem eX7_countStops_13 : decode rX7_countStops.2.1 13 = .ok (.iload_n 3, 1) := by decide +kernel
theorem eX7_countStops_14 : decode rX7_countStops.2.1 14 = .ok (.invokevirtual 67, 3) := by decide +kernel
theorem eX7_countStops_17 : decode rX7_countStops.2.1 17 = .ok (.ifCond .eq 7, 3) := by decide +kernel
theorem eX7_countStops_20 : decode rX7_countStops.2.1 20 = .ok (.iconst 1, 1) := by decide +kernel
theorem eX7_countStops_21 : decode rX7_countStops.2.1 21 = .ok (.goto 4, 3) := by decide +kernel
theorem eX7_countStops_24 : decode rX7_countStops.2.1 24 = .ok (.iconst 0, 1) := by decide +kernel
theorem eX7_countStops_25 : decode rX7_countStops.2.1 25 = .ok (.iadd, 1) := by decide +kernel
theorem eX7_countStops_26 : decode rX7_countStops.2.1 26 = .ok (.istore_n 2, 1) := by decide +kernel
theorem eX7_countStops_27 : decode rX7_countStops.2.1 27 = .ok (.iinc 3 1, 3) := by decide +kernel
theorem eX7_countStops_30 : decode rX7_countStops.2.1 30 = .ok (.goto (-26), 3) := by decide +kernel
theorem eX7_countStops_33 : decode rX7_countStops.2.1 33 = .ok (.iload_n 2, 1) := by decide +kernel
theorem eX7_countStops_34 : decode rX7_countStops.2.1 34 = .ok (.ireturn, 1) := by decide +kernel
theorem eX7_stopCount_0 : decode rX7_stopCount.2.1 0 = .ok (.iload_n 1, 1) := by decide +kernel
theorem eX7_stopCount_1 : decode rX7_stopCount.2.1 1 = .ok (.invokestatic 119, 3) := by decide +kernel
theorem eX7_stopCount_4 : decode rX7_stopCount.2.1 4 = .ok (.ifCond .eq 15, 3) := by decide +kernel
theorem eX7_stopCount_7 : decode rX7_stopCount.2.1 7 = .ok (.aload_n 0, 1) := by decide +kernel
theorem eX7_stopCount_8 : decode rX7_stopCount.2.1 8 = .ok (.aload_n 0, 1) := by decide +kernel
theorem eX7_stopCount_9 : decode rX7_stopCount.2.1 9 = .ok (.iload_n 1, 1) := by decide +kernel
theorem eX7_stopCount_10 : decode rX7_stopCount.2.1 10 = .ok (.invokevirtual 165, 3) := by decide +kernel
theorem eX7_stopCount_13 : decode rX7_stopCount.2.1 13 = .ok (.invokevirtual 97, 3) := by decide +kernel
theorem eX7_stopCount_16 : decode rX7_stopCount.2.1 16 = .ok (.goto 8, 3) := by decide +kernel
theorem eX7_stopCount_19 : decode rX7_stopCount.2.1 19 = .ok (.aload_n 0, 1) := by decide +kernel
theorem eX7_stopCount_20 : decode rX7_stopCount.2.1 20 = .ok (.iconst 1, 1) := by decide +kernel
theorem eX7_stopCount_21 : decode rX7_stopCount.2.1 21 = .ok (.invokevirtual 90, 3) := by decide +kernel
theorem eX7_stopCount_24 : decode rX7_stopCount.2.1 24 = .ok (.ireturn, 1) := by decide +kernel
theorem eX7_nextStop_0 : decode rX7_nextStop.2.1 0 = .ok (.iload_n 1, 1) := by decide +kernel
theorem eX7_nextStop_1 : decode rX7_nextStop.2.1 1 = .ok (.invokestatic 119, 3) := by decide +kernel
theorem eX7_nextStop_4 : decode rX7_nextStop.2.1 4 = .ok (.ifCond .ne 9, 3) := by decide +kernel
theorem eX7_nextStop_7 : decode rX7_nextStop.2.1 7 = .ok (.aload_n 0, 1) := by decide +kernel
theorem eX7_nextStop_8 : decode rX7_nextStop.2.1 8 = .ok (.iconst 1, 1) := by decide +kernel
theorem eX7_nextStop_9 : decode rX7_nextStop.2.1 9 = .ok (.invokevirtual 90, 3) := by decide +kernel
theorem eX7_nextStop_12 : decode rX7_nextStop.2.1 12 = .ok (.ireturn, 1) := by decide +kernel
theorem eX7_nextStop_13 : decode rX7_nextStop.2.1 13 = .ok (.aload_n 0, 1) := by decide +kernel
theorem eX7_nextStop_14 : decode rX7_nextStop.2.1 14 = .ok (.iload_n 1, 1) := by decide +kernel
theorem eX7_nextStop_15 : decode rX7_nextStop.2.1 15 = .ok (.invokevirtual 165, 3) := by decide +kernel
theorem eX7_nextStop_18 : decode rX7_nextStop.2.1 18 = .ok (.ifCond .ne 9, 3) := by decide +kernel
theorem eX7_nextStop_21 : decode rX7_nextStop.2.1 21 = .ok (.aload_n 0, 1) := by decide +kernel
theorem eX7_nextStop_22 : decode rX7_nextStop.2.1 22 = .ok (.iconst 2, 1) := by decide +kernel
theorem eX7_nextStop_23 : decode rX7_nextStop.2.1 23 = .ok (.invokevirtual 90, 3) := by decide +kernel
theorem eX7_nextStop_26 : decode rX7_nextStop.2.1 26 = .ok (.ireturn, 1) := by decide +kernel
theorem eX7_nextStop_27 : decode rX7_nextStop.2.1 27 = .ok (.aload_n 0, 1) := by decide +kernel
theorem eX7_nextStop_28 : decode rX7_nextStop.2.1 28 = .ok (.getfield 7, 3) := by decide +kernel
theorem eX7_nextStop_31 : decode rX7_nextStop.2.1 31 = .ok (.bipush 9, 2) := by decide +kernel
theorem eX7_nextStop_33 : decode rX7_nextStop.2.1 33 = .ok (.iload_n 1, 1) := by decide +kernel
theorem eX7_nextStop_34 : decode rX7_nextStop.2.1 34 = .ok (.iadd, 1) := by decide +kernel
theorem eX7_nextStop_35 : decode rX7_nextStop.2.1 35 = .ok (.iaload, 1) := by decide +kernel
theorem eX7_nextStop_36 : decode rX7_nextStop.2.1 36 = .ok (.istore_n 2, 1) := by decide +kernel
theorem eX7_nextStop_37 : decode rX7_nextStop.2.1 37 = .ok (.aload_n 0, 1) := by decide +kernel
theorem eX7_nextStop_38 : decode rX7_nextStop.2.1 38 = .ok (.iload_n 1, 1) := by decide +kernel
theorem eX7_nextStop_39 : decode rX7_nextStop.2.1 39 = .ok (.invokevirtual 141, 3) := by decide +kernel
theorem eX7_nextStop_42 : decode rX7_nextStop.2.1 42 = .ok (.istore_n 3, 1) := by decide +kernel
theorem eX7_nextStop_43 : decode rX7_nextStop.2.1 43 = .ok (.aload_n 0, 1) := by decide +kernel
theorem eX7_nextStop_44 : decode rX7_nextStop.2.1 44 = .ok (.aload_n 0, 1) := by decide +kernel
theorem eX7_nextStop_45 : decode rX7_nextStop.2.1 45 = .ok (.iload_n 1, 1) := by decide +kernel
theorem eX7_nextStop_46 : decode rX7_nextStop.2.1 46 = .ok (.iload_n 2, 1) := by decide +kernel
theorem eX7_nextStop_47 : decode rX7_nextStop.2.1 47 = .ok (.invokevirtual 67, 3) := by decide +kernel
theorem eX7_nextStop_50 : decode rX7_nextStop.2.1 50 = .ok (.ifCond .eq 7, 3) := by decide +kernel
theorem eX7_nextStop_53 : decode rX7_nextStop.2.1 53 = .ok (.iload_n 2, 1) := by decide +kernel
theorem eX7_nextStop_54 : decode rX7_nextStop.2.1 54 = .ok (.goto 13, 3) := by decide +kernel
theorem eX7_nextStop_57 : decode rX7_nextStop.2.1 57 = .ok (.iload_n 2, 1) := by decide +kernel
theorem eX7_nextStop_58 : decode rX7_nextStop.2.1 58 = .ok (.iload_n 3, 1) := by decide +kernel
theorem eX7_nextStop_59 : decode rX7_nextStop.2.1 59 = .ok (.aload_n 0, 1) := by decide +kernel
theorem eX7_nextStop_60 : decode rX7_nextStop.2.1 60 = .ok (.iload_n 1, 1) := by decide +kernel
theorem eX7_nextStop_61 : decode rX7_nextStop.2.1 61 = .ok (.iload_n 3, 1) := by decide +kernel
theorem eX7_nextStop_62 : decode rX7_nextStop.2.1 62 = .ok (.invokevirtual 138, 3) := by decide +kernel
theorem eX7_nextStop_65 : decode rX7_nextStop.2.1 65 = .ok (.imul, 1) := by decide +kernel
theorem eX7_nextStop_66 : decode rX7_nextStop.2.1 66 = .ok (.iadd, 1) := by decide +kernel
theorem eX7_nextStop_67 : decode rX7_nextStop.2.1 67 = .ok (.invokevirtual 97, 3) := by decide +kernel
theorem eX7_nextStop_70 : decode rX7_nextStop.2.1 70 = .ok (.ireturn, 1) := by decide +kernel
theorem eX7_passengerCount_0 : decode rX7_passengerCount.2.1 0 = .ok (.aload_n 0, 1) := by decide +kernel
theorem eX7_passengerCount_1 : decode rX7_passengerCount.2.1 1 = .ok (.aload_n 0, 1) := by decide +kernel
theorem eX7_passengerCount_2 : decode rX7_passengerCount.2.1 2 = .ok (.getfield 7, 3) := by decide +kernel
theorem eX7_passengerCount_5 : decode rX7_passengerCount.2.1 5 = .ok (.iconst 1, 1) := by decide +kernel
theorem eX7_passengerCount_6 : decode rX7_passengerCount.2.1 6 = .ok (.iaload, 1) := by decide +kernel
theorem eX7_passengerCount_7 : decode rX7_passengerCount.2.1 7 = .ok (.invokevirtual 97, 3) := by decide +kernel
theorem eX7_passengerCount_10 : decode rX7_passengerCount.2.1 10 = .ok (.ireturn, 1) := by decide +kernel
theorem eX7_passengerNumber_0 : decode rX7_passengerNumber.2.1 0 = .ok (.aload_n 0, 1) := by decide +kernel
theorem eX7_passengerNumber_1 : decode rX7_passengerNumber.2.1 1 = .ok (.iload_n 2, 1) := by decide +kernel
theorem eX7_passengerNumber_2 : decode rX7_passengerNumber.2.1 2 = .ok (.invokevirtual 110, 3) := by decide +kernel
theorem eX7_passengerNumber_5 : decode rX7_passengerNumber.2.1 5 = .ok (.ifCond .eq 18, 3) := by decide +kernel
theorem eX7_passengerNumber_8 : decode rX7_passengerNumber.2.1 8 = .ok (.aload_n 0, 1) := by decide +kernel
theorem eX7_passengerNumber_9 : decode rX7_passengerNumber.2.1 9 = .ok (.aload_n 0, 1) := by decide +kernel
theorem eX7_passengerNumber_10 : decode rX7_passengerNumber.2.1 10 = .ok (.getfield 7, 3) := by decide +kernel
theorem eX7_passengerNumber_13 : decode rX7_passengerNumber.2.1 13 = .ok (.iload_n 1, 1) := by decide +kernel
theorem eX7_passengerNumber_14 : decode rX7_passengerNumber.2.1 14 = .ok (.iload_n 2, 1) := by decide +kernel
theorem eX7_passengerNumber_15 : decode rX7_passengerNumber.2.1 15 = .ok (.iadd, 1) := by decide +kernel
theorem eX7_passengerNumber_16 : decode rX7_passengerNumber.2.1 16 = .ok (.iaload, 1) := by decide +kernel
theorem eX7_passengerNumber_17 : decode rX7_passengerNumber.2.1 17 = .ok (.invokevirtual 97, 3) := by decide +kernel
theorem eX7_passengerNumber_20 : decode rX7_passengerNumber.2.1 20 = .ok (.goto 8, 3) := by decide +kernel
theorem eX7_passengerNumber_23 : decode rX7_passengerNumber.2.1 23 = .ok (.aload_n 0, 1) := by decide +kernel
theorem eX7_passengerNumber_24 : decode rX7_passengerNumber.2.1 24 = .ok (.iconst 1, 1) := by decide +kernel
theorem eX7_passengerNumber_25 : decode rX7_passengerNumber.2.1 25 = .ok (.invokevirtual 90, 3) := by decide +kernel
theorem eX7_passengerNumber_28 : decode rX7_passengerNumber.2.1 28 = .ok (.ireturn, 1) := by decide +kernel
theorem eX7_number_0 : decode rX7_number.2.1 0 = .ok (.aload_n 0, 1) := by decide +kernel
theorem eX7_number_1 : decode rX7_number.2.1 1 = .ok (.bipush 27, 2) := by decide +kernel
theorem eX7_number_3 : decode rX7_number.2.1 3 = .ok (.iload_n 1, 1) := by decide +kernel
theorem eX7_number_4 : decode rX7_number.2.1 4 = .ok (.invokevirtual 168, 3) := by decide +kernel
theorem eX7_number_7 : decode rX7_number.2.1 7 = .ok (.ireturn, 1) := by decide +kernel
theorem eX7_start_0 : decode rX7_start.2.1 0 = .ok (.aload_n 0, 1) := by decide +kernel
theorem eX7_start_1 : decode rX7_start.2.1 1 = .ok (.bipush 39, 2) := by decide +kernel
theorem eX7_start_3 : decode rX7_start.2.1 3 = .ok (.iload_n 1, 1) := by decide +kernel
theorem eX7_start_4 : decode rX7_start.2.1 4 = .ok (.invokevirtual 168, 3) := by decide +kernel
theorem eX7_start_7 : decode rX7_start.2.1 7 = .ok (.ireturn, 1) := by decide +kernel
theorem eX7_destination_0 : decode rX7_destination.2.1 0 = .ok (.aload_n 0, 1) := by decide +kernel
theorem eX7_destination_1 : decode rX7_destination.2.1 1 = .ok (.bipush 51, 2) := by decide +kernel
theorem eX7_destination_3 : decode rX7_destination.2.1 3 = .ok (.iload_n 1, 1) := by decide +kernel
theorem eX7_destination_4 : decode rX7_destination.2.1 4 = .ok (.invokevirtual 168, 3) := by decide +kernel
theorem eX7_destination_7 : decode rX7_destination.2.1 7 = .ok (.ireturn, 1) := by decide +kernel
theorem eX7_weight_0 : decode rX7_weight.2.1 0 = .ok (.aload_n 0, 1) := by decide +kernel
theorem eX7_weight_1 : decode rX7_weight.2.1 1 = .ok (.bipush 63, 2) := by decide +kernel
theorem eX7_weight_3 : decode rX7_weight.2.1 3 = .ok (.iload_n 1, 1) := by decide +kernel
theorem eX7_weight_4 : decode rX7_weight.2.1 4 = .ok (.invokevirtual 168, 3) := by decide +kernel
theorem eX7_weight_7 : decode rX7_weight.2.1 7 = .ok (.ireturn, 1) := by decide +kernel
theorem eX7_waitingTime_0 : decode rX7_waitingTime.2.1 0 = .ok (.aload_n 0, 1) := by decide +kernel
theorem eX7_waitingTime_1 : decode rX7_waitingTime.2.1 1 = .ok (.bipush 75, 2) := by decide +kernel
theorem eX7_waitingTime_3 : decode rX7_waitingTime.2.1 3 = .ok (.iload_n 1, 1) := by decide +kernel
theorem eX7_waitingTime_4 : decode rX7_waitingTime.2.1 4 = .ok (.invokevirtual 168, 3) := by decide +kernel
theorem eX7_waitingTime_7 : decode rX7_waitingTime.2.1 7 = .ok (.ireturn, 1) := by decide +kernel
theorem eX7_isInCar_0 : decode rX7_isInCar.2.1 0 = .ok (.aload_n 0, 1) := by decide +kernel
theorem eX7_isInCar_1 : decode rX7_isInCar.2.1 1 = .ok (.bipush 99, 2) := by decide +kernel
theorem eX7_isInCar_3 : decode rX7_isInCar.2.1 3 = .ok (.iload_n 1, 1) := by decide +kernel
theorem eX7_isInCar_4 : decode rX7_isInCar.2.1 4 = .ok (.invokevirtual 168, 3) := by decide +kernel
theorem eX7_isInCar_7 : decode rX7_isInCar.2.1 7 = .ok (.iconst 1, 1) := by decide +kernel
theorem eX7_isInCar_8 : decode rX7_isInCar.2.1 8 = .ok (.if_icmp .ne 7, 3) := by decide +kernel
theorem eX7_isInCar_11 : decode rX7_isInCar.2.1 11 = .ok (.iconst 1, 1) := by decide +kernel
theorem eX7_isInCar_12 : decode rX7_isInCar.2.1 12 = .ok (.goto 4, 3) := by decide +kernel
theorem eX7_isInCar_15 : decode rX7_isInCar.2.1 15 = .ok (.iconst 0, 1) := by decide +kernel
theorem eX7_isInCar_16 : decode rX7_isInCar.2.1 16 = .ok (.ireturn, 1) := by decide +kernel
theorem eX7_carOf_0 : decode rX7_carOf.2.1 0 = .ok (.aload_n 0, 1) := by decide +kernel
theorem eX7_carOf_1 : decode rX7_carOf.2.1 1 = .ok (.iload_n 1, 1) := by decide +kernel
theorem eX7_carOf_2 : decode rX7_carOf.2.1 2 = .ok (.invokevirtual 110, 3) := by decide +kernel
theorem eX7_carOf_5 : decode rX7_carOf.2.1 5 = .ok (.ifCond .ne 9, 3) := by decide +kernel
theorem eX7_carOf_8 : decode rX7_carOf.2.1 8 = .ok (.aload_n 0, 1) := by decide +kernel
theorem eX7_carOf_9 : decode rX7_carOf.2.1 9 = .ok (.iconst 1, 1) := by decide +kernel
theorem eX7_carOf_10 : decode rX7_carOf.2.1 10 = .ok (.invokevirtual 90, 3) := by decide +kernel
theorem eX7_carOf_13 : decode rX7_carOf.2.1 13 = .ok (.ireturn, 1) := by decide +kernel
theorem eX7_carOf_14 : decode rX7_carOf.2.1 14 = .ok (.aload_n 0, 1) := by decide +kernel
theorem eX7_carOf_15 : decode rX7_carOf.2.1 15 = .ok (.getfield 7, 3) := by decide +kernel
theorem eX7_carOf_18 : decode rX7_carOf.2.1 18 = .ok (.bipush 87, 2) := by decide +kernel
theorem eX7_carOf_20 : decode rX7_carOf.2.1 20 = .ok (.iload_n 1, 1) := by decide +kernel
theorem eX7_carOf_21 : decode rX7_carOf.2.1 21 = .ok (.iadd, 1) := by decide +kernel
theorem eX7_carOf_22 : decode rX7_carOf.2.1 22 = .ok (.iaload, 1) := by decide +kernel
theorem eX7_carOf_23 : decode rX7_carOf.2.1 23 = .ok (.ifCond .ne 11, 3) := by decide +kernel
theorem eX7_carOf_26 : decode rX7_carOf.2.1 26 = .ok (.aload_n 0, 1) := by decide +kernel
theorem eX7_carOf_27 : decode rX7_carOf.2.1 27 = .ok (.iconst 2, 1) := by decide +kernel
theorem eX7_carOf_28 : decode rX7_carOf.2.1 28 = .ok (.invokevirtual 90, 3) := by decide +kernel
theorem eX7_carOf_31 : decode rX7_carOf.2.1 31 = .ok (.goto 18, 3) := by decide +kernel
theorem eX7_carOf_34 : decode rX7_carOf.2.1 34 = .ok (.aload_n 0, 1) := by decide +kernel
theorem eX7_carOf_35 : decode rX7_carOf.2.1 35 = .ok (.aload_n 0, 1) := by decide +kernel
theorem eX7_carOf_36 : decode rX7_carOf.2.1 36 = .ok (.getfield 7, 3) := by decide +kernel
theorem eX7_carOf_39 : decode rX7_carOf.2.1 39 = .ok (.bipush 87, 2) := by decide +kernel
theorem eX7_carOf_41 : decode rX7_carOf.2.1 41 = .ok (.iload_n 1, 1) := by decide +kernel
theorem eX7_carOf_42 : decode rX7_carOf.2.1 42 = .ok (.iadd, 1) := by decide +kernel
theorem eX7_carOf_43 : decode rX7_carOf.2.1 43 = .ok (.iaload, 1) := by decide +kernel
theorem eX7_carOf_44 : decode rX7_carOf.2.1 44 = .ok (.iconst 1, 1) := by decide +kernel
theorem eX7_carOf_45 : decode rX7_carOf.2.1 45 = .ok (.isub, 1) := by decide +kernel
theorem eX7_carOf_46 : decode rX7_carOf.2.1 46 = .ok (.invokevirtual 97, 3) := by decide +kernel
theorem eX7_carOf_49 : decode rX7_carOf.2.1 49 = .ok (.ireturn, 1) := by decide +kernel
theorem eX7_waitingOn_0 : decode rX7_waitingOn.2.1 0 = .ok (.iconst 0, 1) := by decide +kernel
theorem eX7_waitingOn_1 : decode rX7_waitingOn.2.1 1 = .ok (.istore_n 2, 1) := by decide +kernel
theorem eX7_waitingOn_2 : decode rX7_waitingOn.2.1 2 = .ok (.iconst 0, 1) := by decide +kernel
theorem eX7_waitingOn_3 : decode rX7_waitingOn.2.1 3 = .ok (.istore_n 3, 1) := by decide +kernel
theorem eX7_waitingOn_4 : decode rX7_waitingOn.2.1 4 = .ok (.iload_n 3, 1) := by decide +kernel
theorem eX7_waitingOn_5 : decode rX7_waitingOn.2.1 5 = .ok (.aload_n 0, 1) := by decide +kernel
theorem eX7_waitingOn_6 : decode rX7_waitingOn.2.1 6 = .ok (.getfield 7, 3) := by decide +kernel
theorem eX7_waitingOn_9 : decode rX7_waitingOn.2.1 9 = .ok (.iconst 1, 1) := by decide +kernel
theorem eX7_waitingOn_10 : decode rX7_waitingOn.2.1 10 = .ok (.iaload, 1) := by decide +kernel
theorem eX7_waitingOn_11 : decode rX7_waitingOn.2.1 11 = .ok (.if_icmp .ge 42, 3) := by decide +kernel
theorem eX7_waitingOn_14 : decode rX7_waitingOn.2.1 14 = .ok (.iload_n 2, 1) := by decide +kernel
theorem eX7_waitingOn_15 : decode rX7_waitingOn.2.1 15 = .ok (.aload_n 0, 1) := by decide +kernel
theorem eX7_waitingOn_16 : decode rX7_waitingOn.2.1 16 = .ok (.getfield 7, 3) := by decide +kernel
theorem eX7_waitingOn_19 : decode rX7_waitingOn.2.1 19 = .ok (.bipush 99, 2) := by decide +kernel
theorem eX7_waitingOn_21 : decode rX7_waitingOn.2.1 21 = .ok (.iload_n 3, 1) := by decide +kernel
theorem eX7_waitingOn_22 : decode rX7_waitingOn.2.1 22 = .ok (.iadd, 1) := by decide +kernel
theorem eX7_waitingOn_23 : decode rX7_waitingOn.2.1 23 = .ok (.iaload, 1) := by decide +kernel
theorem eX7_waitingOn_24 : decode rX7_waitingOn.2.1 24 = .ok (.ifCond .ne 20, 3) := by decide +kernel
theorem eX7_waitingOn_27 : decode rX7_waitingOn.2.1 27 = .ok (.aload_n 0, 1) := by decide +kernel
theorem eX7_waitingOn_28 : decode rX7_waitingOn.2.1 28 = .ok (.getfield 7, 3) := by decide +kernel
theorem eX7_waitingOn_31 : decode rX7_waitingOn.2.1 31 = .ok (.bipush 39, 2) := by decide +kernel
theorem eX7_waitingOn_33 : decode rX7_waitingOn.2.1 33 = .ok (.iload_n 3, 1) := by decide +kernel
theorem eX7_waitingOn_34 : decode rX7_waitingOn.2.1 34 = .ok (.iadd, 1) := by decide +kernel
theorem eX7_waitingOn_35 : decode rX7_waitingOn.2.1 35 = .ok (.iaload, 1) := by decide +kernel
theorem eX7_waitingOn_36 : decode rX7_waitingOn.2.1 36 = .ok (.iload_n 1, 1) := by decide +kernel
theorem eX7_waitingOn_37 : decode rX7_waitingOn.2.1 37 = .ok (.if_icmp .ne 7, 3) := by decide +kernel
theorem eX7_waitingOn_40 : decode rX7_waitingOn.2.1 40 = .ok (.iconst 1, 1) := by decide +kernel
theorem eX7_waitingOn_41 : decode rX7_waitingOn.2.1 41 = .ok (.goto 4, 3) := by decide +kernel
theorem eX7_waitingOn_44 : decode rX7_waitingOn.2.1 44 = .ok (.iconst 0, 1) := by decide +kernel
theorem eX7_waitingOn_45 : decode rX7_waitingOn.2.1 45 = .ok (.iadd, 1) := by decide +kernel
theorem eX7_waitingOn_46 : decode rX7_waitingOn.2.1 46 = .ok (.istore_n 2, 1) := by decide +kernel
theorem eX7_waitingOn_47 : decode rX7_waitingOn.2.1 47 = .ok (.iinc 3 1, 3) := by decide +kernel
theorem eX7_waitingOn_50 : decode rX7_waitingOn.2.1 50 = .ok (.goto (-46), 3) := by decide +kernel
theorem eX7_waitingOn_53 : decode rX7_waitingOn.2.1 53 = .ok (.iload_n 2, 1) := by decide +kernel
theorem eX7_waitingOn_54 : decode rX7_waitingOn.2.1 54 = .ok (.ireturn, 1) := by decide +kernel
theorem eX7_waitingAt_0 : decode rX7_waitingAt.2.1 0 = .ok (.iload_n 1, 1) := by decide +kernel
theorem eX7_waitingAt_1 : decode rX7_waitingAt.2.1 1 = .ok (.invokestatic 63, 3) := by decide +kernel
theorem eX7_waitingAt_4 : decode rX7_waitingAt.2.1 4 = .ok (.ifCond .eq 15, 3) := by decide +kernel
theorem eX7_waitingAt_7 : decode rX7_waitingAt.2.1 7 = .ok (.aload_n 0, 1) := by decide +kernel
theorem eX7_waitingAt_8 : decode rX7_waitingAt.2.1 8 = .ok (.aload_n 0, 1) := by decide +kernel
theorem eX7_waitingAt_9 : decode rX7_waitingAt.2.1 9 = .ok (.iload_n 1, 1) := by decide +kernel
theorem eX7_waitingAt_10 : decode rX7_waitingAt.2.1 10 = .ok (.invokevirtual 171, 3) := by decide +kernel
theorem eX7_waitingAt_13 : decode rX7_waitingAt.2.1 13 = .ok (.invokevirtual 97, 3) := by decide +kernel
theorem eX7_waitingAt_16 : decode rX7_waitingAt.2.1 16 = .ok (.goto 8, 3) := by decide +kernel
theorem eX7_waitingAt_19 : decode rX7_waitingAt.2.1 19 = .ok (.aload_n 0, 1) := by decide +kernel
theorem eX7_waitingAt_20 : decode rX7_waitingAt.2.1 20 = .ok (.iconst 1, 1) := by decide +kernel
theorem eX7_waitingAt_21 : decode rX7_waitingAt.2.1 21 = .ok (.invokevirtual 90, 3) := by decide +kernel
theorem eX7_waitingAt_24 : decode rX7_waitingAt.2.1 24 = .ok (.ireturn, 1) := by decide +kernel
theorem eX7_estimate_0 : decode rX7_estimate.2.1 0 = .ok (.iload_n 1, 1) := by decide +kernel
theorem eX7_estimate_1 : decode rX7_estimate.2.1 1 = .ok (.invokestatic 119, 3) := by decide +kernel
theorem eX7_estimate_4 : decode rX7_estimate.2.1 4 = .ok (.ifCond .ne 9, 3) := by decide +kernel
theorem eX7_estimate_7 : decode rX7_estimate.2.1 7 = .ok (.aload_n 0, 1) := by decide +kernel
theorem eX7_estimate_8 : decode rX7_estimate.2.1 8 = .ok (.iconst 1, 1) := by decide +kernel
theorem eX7_estimate_9 : decode rX7_estimate.2.1 9 = .ok (.invokevirtual 90, 3) := by decide +kernel
theorem eX7_estimate_12 : decode rX7_estimate.2.1 12 = .ok (.ireturn, 1) := by decide +kernel
theorem eX7_estimate_13 : decode rX7_estimate.2.1 13 = .ok (.iload_n 2, 1) := by decide +kernel
theorem eX7_estimate_14 : decode rX7_estimate.2.1 14 = .ok (.invokestatic 63, 3) := by decide +kernel
theorem eX7_estimate_17 : decode rX7_estimate.2.1 17 = .ok (.ifCond .eq 16, 3) := by decide +kernel
theorem eX7_estimate_20 : decode rX7_estimate.2.1 20 = .ok (.aload_n 0, 1) := by decide +kernel
theorem eX7_estimate_21 : decode rX7_estimate.2.1 21 = .ok (.aload_n 0, 1) := by decide +kernel
theorem eX7_estimate_22 : decode rX7_estimate.2.1 22 = .ok (.iload_n 1, 1) := by decide +kernel
theorem eX7_estimate_23 : decode rX7_estimate.2.1 23 = .ok (.iload_n 2, 1) := by decide +kernel
theorem eX7_estimate_24 : decode rX7_estimate.2.1 24 = .ok (.invokevirtual 84, 3) := by decide +kernel
theorem eX7_estimate_27 : decode rX7_estimate.2.1 27 = .ok (.invokevirtual 97, 3) := by decide +kernel
theorem eX7_estimate_30 : decode rX7_estimate.2.1 30 = .ok (.goto 8, 3) := by decide +kernel
theorem eX7_estimate_33 : decode rX7_estimate.2.1 33 = .ok (.aload_n 0, 1) := by decide +kernel
theorem eX7_estimate_34 : decode rX7_estimate.2.1 34 = .ok (.iconst 2, 1) := by decide +kernel
theorem eX7_estimate_35 : decode rX7_estimate.2.1 35 = .ok (.invokevirtual 90, 3) := by decide +kernel
theorem eX7_estimate_38 : decode rX7_estimate.2.1 38 = .ok (.ireturn, 1) := by decide +kernel
theorem eX7_estimateByWalk_0 : decode rX7_estimateByWalk.2.1 0 = .ok (.aload_n 0, 1) := by decide +kernel
theorem eX7_estimateByWalk_1 : decode rX7_estimateByWalk.2.1 1 = .ok (.iload_n 1, 1) := by decide +kernel
theorem eX7_estimateByWalk_2 : decode rX7_estimateByWalk.2.1 2 = .ok (.iload_n 2, 1) := by decide +kernel
theorem eX7_estimateByWalk_3 : decode rX7_estimateByWalk.2.1 3 = .ok (.invokevirtual 174, 3) := by decide +kernel
theorem eX7_estimateByWalk_6 : decode rX7_estimateByWalk.2.1 6 = .ok (.ireturn, 1) := by decide +kernel
theorem eX7_bestCar_0 : decode rX7_bestCar.2.1 0 = .ok (.iload_n 1, 1) := by decide +kernel
theorem eX7_bestCar_1 : decode rX7_bestCar.2.1 1 = .ok (.invokestatic 63, 3) := by decide +kernel
theorem eX7_bestCar_4 : decode rX7_bestCar.2.1 4 = .ok (.ifCond .eq 15, 3) := by decide +kernel
theorem eX7_bestCar_7 : decode rX7_bestCar.2.1 7 = .ok (.iload_n 2, 1) := by decide +kernel
theorem eX7_bestCar_8 : decode rX7_bestCar.2.1 8 = .ok (.bipush 10, 2) := by decide +kernel
theorem eX7_bestCar_10 : decode rX7_bestCar.2.1 10 = .ok (.sipush 150, 3) := by decide +kernel
theorem eX7_bestCar_13 : decode rX7_bestCar.2.1 13 = .ok (.invokestatic 52, 3) := by decide +kernel
theorem eX7_bestCar_16 : decode rX7_bestCar.2.1 16 = .ok (.ifCond .ne 9, 3) := by decide +kernel
theorem eX7_bestCar_19 : decode rX7_bestCar.2.1 19 = .ok (.aload_n 0, 1) := by decide +kernel
theorem eX7_bestCar_20 : decode rX7_bestCar.2.1 20 = .ok (.iconst 1, 1) := by decide +kernel
theorem eX7_bestCar_21 : decode rX7_bestCar.2.1 21 = .ok (.invokevirtual 90, 3) := by decide +kernel
theorem eX7_bestCar_24 : decode rX7_bestCar.2.1 24 = .ok (.ireturn, 1) := by decide +kernel
theorem eX7_bestCar_25 : decode rX7_bestCar.2.1 25 = .ok (.aload_n 0, 1) := by decide +kernel
theorem eX7_bestCar_26 : decode rX7_bestCar.2.1 26 = .ok (.iload_n 1, 1) := by decide +kernel
theorem eX7_bestCar_27 : decode rX7_bestCar.2.1 27 = .ok (.iload_n 2, 1) := by decide +kernel
theorem eX7_bestCar_28 : decode rX7_bestCar.2.1 28 = .ok (.invokevirtual 87, 3) := by decide +kernel
theorem eX7_bestCar_31 : decode rX7_bestCar.2.1 31 = .ok (.istore_n 3, 1) := by decide +kernel
theorem eX7_bestCar_32 : decode rX7_bestCar.2.1 32 = .ok (.iload_n 3, 1) := by decide +kernel
theorem eX7_bestCar_33 : decode rX7_bestCar.2.1 33 = .ok (.iconst (-1), 1) := by decide +kernel
theorem eX7_bestCar_34 : decode rX7_bestCar.2.1 34 = .ok (.if_icmp .ne 11, 3) := by decide +kernel
theorem eX7_bestCar_37 : decode rX7_bestCar.2.1 37 = .ok (.aload_n 0, 1) := by decide +kernel
theorem eX7_bestCar_38 : decode rX7_bestCar.2.1 38 = .ok (.iconst 2, 1) := by decide +kernel
theorem eX7_bestCar_39 : decode rX7_bestCar.2.1 39 = .ok (.invokevirtual 90, 3) := by decide +kernel
theorem eX7_bestCar_42 : decode rX7_bestCar.2.1 42 = .ok (.goto 8, 3) := by decide +kernel
theorem eX7_bestCar_45 : decode rX7_bestCar.2.1 45 = .ok (.aload_n 0, 1) := by decide +kernel
theorem eX7_bestCar_46 : decode rX7_bestCar.2.1 46 = .ok (.iload_n 3, 1) := by decide +kernel
theorem eX7_bestCar_47 : decode rX7_bestCar.2.1 47 = .ok (.invokevirtual 97, 3) := by decide +kernel
theorem eX7_bestCar_50 : decode rX7_bestCar.2.1 50 = .ok (.ireturn, 1) := by decide +kernel
theorem eX7_withNumber_0 : decode rX7_withNumber.2.1 0 = .ok (.iconst 0, 1) := by decide +kernel
theorem eX7_withNumber_1 : decode rX7_withNumber.2.1 1 = .ok (.istore_n 2, 1) := by decide +kernel
theorem eX7_withNumber_2 : decode rX7_withNumber.2.1 2 = .ok (.iload_n 2, 1) := by decide +kernel
theorem eX7_withNumber_3 : decode rX7_withNumber.2.1 3 = .ok (.aload_n 0, 1) := by decide +kernel
theorem eX7_withNumber_4 : decode rX7_withNumber.2.1 4 = .ok (.getfield 7, 3) := by decide +kernel
theorem eX7_withNumber_7 : decode rX7_withNumber.2.1 7 = .ok (.iconst 1, 1) := by decide +kernel
theorem eX7_withNumber_8 : decode rX7_withNumber.2.1 8 = .ok (.iaload, 1) := by decide +kernel
theorem eX7_withNumber_9 : decode rX7_withNumber.2.1 9 = .ok (.if_icmp .ge 24, 3) := by decide +kernel
theorem eX7_withNumber_12 : decode rX7_withNumber.2.1 12 = .ok (.aload_n 0, 1) := by decide +kernel
theorem eX7_withNumber_13 : decode rX7_withNumber.2.1 13 = .ok (.getfield 7, 3) := by decide +kernel
theorem eX7_withNumber_16 : decode rX7_withNumber.2.1 16 = .ok (.bipush 27, 2) := by decide +kernel
theorem eX7_withNumber_18 : decode rX7_withNumber.2.1 18 = .ok (.iload_n 2, 1) := by decide +kernel
theorem eX7_withNumber_19 : decode rX7_withNumber.2.1 19 = .ok (.iadd, 1) := by decide +kernel
theorem eX7_withNumber_20 : decode rX7_withNumber.2.1 20 = .ok (.iaload, 1) := by decide +kernel
theorem eX7_withNumber_21 : decode rX7_withNumber.2.1 21 = .ok (.iload_n 1, 1) := by decide +kernel
theorem eX7_withNumber_22 : decode rX7_withNumber.2.1 22 = .ok (.if_icmp .ne 5, 3) := by decide +kernel
theorem eX7_withNumber_25 : decode rX7_withNumber.2.1 25 = .ok (.iload_n 2, 1) := by decide +kernel
theorem eX7_withNumber_26 : decode rX7_withNumber.2.1 26 = .ok (.ireturn, 1) := by decide +kernel
theorem eX7_withNumber_27 : decode rX7_withNumber.2.1 27 = .ok (.iinc 2 1, 3) := by decide +kernel
theorem eX7_withNumber_30 : decode rX7_withNumber.2.1 30 = .ok (.goto (-28), 3) := by decide +kernel
theorem eX7_withNumber_33 : decode rX7_withNumber.2.1 33 = .ok (.iconst (-1), 1) := by decide +kernel
theorem eX7_withNumber_34 : decode rX7_withNumber.2.1 34 = .ok (.ireturn, 1) := by decide +kernel
theorem eX7_isReached_0 : decode rX7_isReached.2.1 0 = .ok (.aload_n 0, 1) := by decide +kernel
theorem eX7_isReached_1 : decode rX7_isReached.2.1 1 = .ok (.iload_n 1, 1) := by decide +kernel
theorem eX7_isReached_2 : decode rX7_isReached.2.1 2 = .ok (.invokevirtual 177, 3) := by decide +kernel
theorem eX7_isReached_5 : decode rX7_isReached.2.1 5 = .ok (.istore_n 3, 1) := by decide +kernel
theorem eX7_isReached_6 : decode rX7_isReached.2.1 6 = .ok (.iload_n 3, 1) := by decide +kernel
theorem eX7_isReached_7 : decode rX7_isReached.2.1 7 = .ok (.iconst (-1), 1) := by decide +kernel
theorem eX7_isReached_8 : decode rX7_isReached.2.1 8 = .ok (.if_icmp .eq 20, 3) := by decide +kernel
theorem eX7_isReached_11 : decode rX7_isReached.2.1 11 = .ok (.iload_n 2, 1) := by decide +kernel
theorem eX7_isReached_12 : decode rX7_isReached.2.1 12 = .ok (.ifCond .eq 20, 3) := by decide +kernel
theorem eX7_isReached_15 : decode rX7_isReached.2.1 15 = .ok (.aload_n 0, 1) := by decide +kernel
theorem eX7_isReached_16 : decode rX7_isReached.2.1 16 = .ok (.getfield 7, 3) := by decide +kernel
theorem eX7_isReached_19 : decode rX7_isReached.2.1 19 = .ok (.bipush 99, 2) := by decide +kernel
theorem eX7_isReached_21 : decode rX7_isReached.2.1 21 = .ok (.iload_n 3, 1) := by decide +kernel
theorem eX7_isReached_22 : decode rX7_isReached.2.1 22 = .ok (.iadd, 1) := by decide +kernel
theorem eX7_isReached_23 : decode rX7_isReached.2.1 23 = .ok (.iaload, 1) := by decide +kernel
theorem eX7_isReached_24 : decode rX7_isReached.2.1 24 = .ok (.iconst 1, 1) := by decide +kernel
theorem eX7_isReached_25 : decode rX7_isReached.2.1 25 = .ok (.if_icmp .ne 7, 3) := by decide +kernel
theorem eX7_isReached_28 : decode rX7_isReached.2.1 28 = .ok (.iconst 1, 1) := by decide +kernel
theorem eX7_isReached_29 : decode rX7_isReached.2.1 29 = .ok (.goto 4, 3) := by decide +kernel
theorem eX7_isReached_32 : decode rX7_isReached.2.1 32 = .ok (.iconst 0, 1) := by decide +kernel
theorem eX7_isReached_33 : decode rX7_isReached.2.1 33 = .ok (.ireturn, 1) := by decide +kernel
theorem eX7_stepsUntil_0 : decode rX7_stepsUntil.2.1 0 = .ok (.aload_n 0, 1) := by decide +kernel
theorem eX7_stepsUntil_1 : decode rX7_stepsUntil.2.1 1 = .ok (.getfield 7, 3) := by decide +kernel
theorem eX7_stepsUntil_4 : decode rX7_stepsUntil.2.1 4 = .ok (.iconst 0, 1) := by decide +kernel
theorem eX7_stepsUntil_5 : decode rX7_stepsUntil.2.1 5 = .ok (.aload_n 0, 1) := by decide +kernel
theorem eX7_stepsUntil_6 : decode rX7_stepsUntil.2.1 6 = .ok (.getfield 16, 3) := by decide +kernel
theorem eX7_stepsUntil_9 : decode rX7_stepsUntil.2.1 9 = .ok (.iconst 0, 1) := by decide +kernel
theorem eX7_stepsUntil_10 : decode rX7_stepsUntil.2.1 10 = .ok (.invokestatic 45, 3) := by decide +kernel
theorem eX7_stepsUntil_13 : decode rX7_stepsUntil.2.1 13 = .ok (.iconst 0, 1) := by decide +kernel
theorem eX7_stepsUntil_14 : decode rX7_stepsUntil.2.1 14 = .ok (.istore_n 3, 1) := by decide +kernel
theorem eX7_stepsUntil_15 : decode rX7_stepsUntil.2.1 15 = .ok (.iload_n 3, 1) := by decide +kernel
theorem eX7_stepsUntil_16 : decode rX7_stepsUntil.2.1 16 = .ok (.bipush 90, 2) := by decide +kernel
theorem eX7_stepsUntil_18 : decode rX7_stepsUntil.2.1 18 = .ok (.if_icmp .gt 22, 3) := by decide +kernel
theorem eX7_stepsUntil_21 : decode rX7_stepsUntil.2.1 21 = .ok (.aload_n 0, 1) := by decide +kernel
theorem eX7_stepsUntil_22 : decode rX7_stepsUntil.2.1 22 = .ok (.iload_n 1, 1) := by decide +kernel
theorem eX7_stepsUntil_23 : decode rX7_stepsUntil.2.1 23 = .ok (.iload_n 2, 1) := by decide +kernel
theorem eX7_stepsUntil_24 : decode rX7_stepsUntil.2.1 24 = .ok (.invokevirtual 180, 3) := by decide +kernel
theorem eX7_stepsUntil_27 : decode rX7_stepsUntil.2.1 27 = .ok (.ifCond .ne 13, 3) := by decide +kernel
theorem eX7_stepsUntil_30 : decode rX7_stepsUntil.2.1 30 = .ok (.aload_n 0, 1) := by decide +kernel
theorem eX7_stepsUntil_31 : decode rX7_stepsUntil.2.1 31 = .ok (.invokevirtual 156, 3) := by decide +kernel
theorem eX7_stepsUntil_34 : decode rX7_stepsUntil.2.1 34 = .ok (.iinc 3 1, 3) := by decide +kernel
theorem eX7_stepsUntil_37 : decode rX7_stepsUntil.2.1 37 = .ok (.goto (-22), 3) := by decide +kernel
theorem eX7_stepsUntil_40 : decode rX7_stepsUntil.2.1 40 = .ok (.aload_n 0, 1) := by decide +kernel
theorem eX7_stepsUntil_41 : decode rX7_stepsUntil.2.1 41 = .ok (.getfield 16, 3) := by decide +kernel
theorem eX7_stepsUntil_44 : decode rX7_stepsUntil.2.1 44 = .ok (.iconst 0, 1) := by decide +kernel
theorem eX7_stepsUntil_45 : decode rX7_stepsUntil.2.1 45 = .ok (.aload_n 0, 1) := by decide +kernel
theorem eX7_stepsUntil_46 : decode rX7_stepsUntil.2.1 46 = .ok (.getfield 7, 3) := by decide +kernel
theorem eX7_stepsUntil_49 : decode rX7_stepsUntil.2.1 49 = .ok (.iconst 0, 1) := by decide +kernel
theorem eX7_stepsUntil_50 : decode rX7_stepsUntil.2.1 50 = .ok (.invokestatic 45, 3) := by decide +kernel
theorem eX7_stepsUntil_53 : decode rX7_stepsUntil.2.1 53 = .ok (.iload_n 3, 1) := by decide +kernel
theorem eX7_stepsUntil_54 : decode rX7_stepsUntil.2.1 54 = .ok (.bipush 90, 2) := by decide +kernel
theorem eX7_stepsUntil_56 : decode rX7_stepsUntil.2.1 56 = .ok (.if_icmp .le 7, 3) := by decide +kernel
theorem eX7_stepsUntil_59 : decode rX7_stepsUntil.2.1 59 = .ok (.iconst (-1), 1) := by decide +kernel
theorem eX7_stepsUntil_60 : decode rX7_stepsUntil.2.1 60 = .ok (.goto 4, 3) := by decide +kernel
theorem eX7_stepsUntil_63 : decode rX7_stepsUntil.2.1 63 = .ok (.iload_n 3, 1) := by decide +kernel
theorem eX7_stepsUntil_64 : decode rX7_stepsUntil.2.1 64 = .ok (.ireturn, 1) := by decide +kernel
theorem eX7_predicted_0 : decode rX7_predicted.2.1 0 = .ok (.aload_n 0, 1) := by decide +kernel
theorem eX7_predicted_1 : decode rX7_predicted.2.1 1 = .ok (.iload_n 1, 1) := by decide +kernel
theorem eX7_predicted_2 : decode rX7_predicted.2.1 2 = .ok (.invokevirtual 110, 3) := by decide +kernel
theorem eX7_predicted_5 : decode rX7_predicted.2.1 5 = .ok (.ifCond .ne 9, 3) := by decide +kernel
theorem eX7_predicted_8 : decode rX7_predicted.2.1 8 = .ok (.aload_n 0, 1) := by decide +kernel
theorem eX7_predicted_9 : decode rX7_predicted.2.1 9 = .ok (.iconst 1, 1) := by decide +kernel
theorem eX7_predicted_10 : decode rX7_predicted.2.1 10 = .ok (.invokevirtual 90, 3) := by decide +kernel
theorem eX7_predicted_13 : decode rX7_predicted.2.1 13 = .ok (.ireturn, 1) := by decide +kernel
theorem eX7_predicted_14 : decode rX7_predicted.2.1 14 = .ok (.aload_n 0, 1) := by decide +kernel
theorem eX7_predicted_15 : decode rX7_predicted.2.1 15 = .ok (.aload_n 0, 1) := by decide +kernel
theorem eX7_predicted_16 : decode rX7_predicted.2.1 16 = .ok (.getfield 7, 3) := by decide +kernel
theorem eX7_predicted_19 : decode rX7_predicted.2.1 19 = .ok (.bipush 27, 2) := by decide +kernel
theorem eX7_predicted_21 : decode rX7_predicted.2.1 21 = .ok (.iload_n 1, 1) := by decide +kernel
theorem eX7_predicted_22 : decode rX7_predicted.2.1 22 = .ok (.iadd, 1) := by decide +kernel
theorem eX7_predicted_23 : decode rX7_predicted.2.1 23 = .ok (.iaload, 1) := by decide +kernel
theorem eX7_predicted_24 : decode rX7_predicted.2.1 24 = .ok (.iload_n 2, 1) := by decide +kernel
theorem eX7_predicted_25 : decode rX7_predicted.2.1 25 = .ok (.invokevirtual 184, 3) := by decide +kernel
theorem eX7_predicted_28 : decode rX7_predicted.2.1 28 = .ok (.istore_n 3, 1) := by decide +kernel
theorem eX7_predicted_29 : decode rX7_predicted.2.1 29 = .ok (.iload_n 3, 1) := by decide +kernel
theorem eX7_predicted_30 : decode rX7_predicted.2.1 30 = .ok (.iconst (-1), 1) := by decide +kernel
theorem eX7_predicted_31 : decode rX7_predicted.2.1 31 = .ok (.if_icmp .ne 11, 3) := by decide +kernel
theorem eX7_predicted_34 : decode rX7_predicted.2.1 34 = .ok (.aload_n 0, 1) := by decide +kernel
theorem eX7_predicted_35 : decode rX7_predicted.2.1 35 = .ok (.iconst 2, 1) := by decide +kernel
theorem eX7_predicted_36 : decode rX7_predicted.2.1 36 = .ok (.invokevirtual 90, 3) := by decide +kernel
theorem eX7_predicted_39 : decode rX7_predicted.2.1 39 = .ok (.goto 8, 3) := by decide +kernel
theorem eX7_predicted_42 : decode rX7_predicted.2.1 42 = .ok (.aload_n 0, 1) := by decide +kernel
theorem eX7_predicted_43 : decode rX7_predicted.2.1 43 = .ok (.iload_n 3, 1) := by decide +kernel
theorem eX7_predicted_44 : decode rX7_predicted.2.1 44 = .ok (.invokevirtual 97, 3) := by decide +kernel
theorem eX7_predicted_47 : decode rX7_predicted.2.1 47 = .ok (.ireturn, 1) := by decide +kernel
theorem eX7_stepsUntilBoarding_0 : decode rX7_stepsUntilBoarding.2.1 0 = .ok (.aload_n 0, 1) := by decide +kernel
theorem eX7_stepsUntilBoarding_1 : decode rX7_stepsUntilBoarding.2.1 1 = .ok (.iload_n 1, 1) := by decide +kernel
theorem eX7_stepsUntilBoarding_2 : decode rX7_stepsUntilBoarding.2.1 2 = .ok (.iconst 1, 1) := by decide +kernel
theorem eX7_stepsUntilBoarding_3 : decode rX7_stepsUntilBoarding.2.1 3 = .ok (.invokevirtual 188, 3) := by decide +kernel
theorem eX7_stepsUntilBoarding_6 : decode rX7_stepsUntilBoarding.2.1 6 = .ok (.ireturn, 1) := by decide +kernel
theorem eX7_stepsUntilArrival_0 : decode rX7_stepsUntilArrival.2.1 0 = .ok (.aload_n 0, 1) := by decide +kernel
theorem eX7_stepsUntilArrival_1 : decode rX7_stepsUntilArrival.2.1 1 = .ok (.iload_n 1, 1) := by decide +kernel
theorem eX7_stepsUntilArrival_2 : decode rX7_stepsUntilArrival.2.1 2 = .ok (.iconst 0, 1) := by decide +kernel
theorem eX7_stepsUntilArrival_3 : decode rX7_stepsUntilArrival.2.1 3 = .ok (.invokevirtual 188, 3) := by decide +kernel
theorem eX7_stepsUntilArrival_6 : decode rX7_stepsUntilArrival.2.1 6 = .ok (.ireturn, 1) := by decide +kernel
theorem eX7_tripsWithin_0 : decode rX7_tripsWithin.2.1 0 = .ok (.iload_n 1, 1) := by decide +kernel
theorem eX7_tripsWithin_1 : decode rX7_tripsWithin.2.1 1 = .ok (.iconst 0, 1) := by decide +kernel
theorem eX7_tripsWithin_2 : decode rX7_tripsWithin.2.1 2 = .ok (.bipush 90, 2) := by decide +kernel
theorem eX7_tripsWithin_4 : decode rX7_tripsWithin.2.1 4 = .ok (.invokestatic 52, 3) := by decide +kernel
theorem eX7_tripsWithin_7 : decode rX7_tripsWithin.2.1 7 = .ok (.ifCond .ne 9, 3) := by decide +kernel
theorem eX7_tripsWithin_10 : decode rX7_tripsWithin.2.1 10 = .ok (.aload_n 0, 1) := by decide +kernel
theorem eX7_tripsWithin_11 : decode rX7_tripsWithin.2.1 11 = .ok (.iconst 1, 1) := by decide +kernel
theorem eX7_tripsWithin_12 : decode rX7_tripsWithin.2.1 12 = .ok (.invokevirtual 90, 3) := by decide +kernel
theorem eX7_tripsWithin_15 : decode rX7_tripsWithin.2.1 15 = .ok (.ireturn, 1) := by decide +kernel
theorem eX7_tripsWithin_16 : decode rX7_tripsWithin.2.1 16 = .ok (.aload_n 0, 1) := by decide +kernel
theorem eX7_tripsWithin_17 : decode rX7_tripsWithin.2.1 17 = .ok (.getfield 7, 3) := by decide +kernel
theorem eX7_tripsWithin_20 : decode rX7_tripsWithin.2.1 20 = .ok (.iconst 0, 1) := by decide +kernel
theorem eX7_tripsWithin_21 : decode rX7_tripsWithin.2.1 21 = .ok (.aload_n 0, 1) := by decide +kernel
theorem eX7_tripsWithin_22 : decode rX7_tripsWithin.2.1 22 = .ok (.getfield 16, 3) := by decide +kernel
theorem eX7_tripsWithin_25 : decode rX7_tripsWithin.2.1 25 = .ok (.iconst 0, 1) := by decide +kernel
theorem eX7_tripsWithin_26 : decode rX7_tripsWithin.2.1 26 = .ok (.invokestatic 45, 3) := by decide +kernel
theorem eX7_tripsWithin_29 : decode rX7_tripsWithin.2.1 29 = .ok (.iconst 0, 1) := by decide +kernel
theorem eX7_tripsWithin_30 : decode rX7_tripsWithin.2.1 30 = .ok (.istore_n 2, 1) := by decide +kernel
theorem eX7_tripsWithin_31 : decode rX7_tripsWithin.2.1 31 = .ok (.iload_n 2, 1) := by decide +kernel
theorem eX7_tripsWithin_32 : decode rX7_tripsWithin.2.1 32 = .ok (.iload_n 1, 1) := by decide +kernel
theorem eX7_tripsWithin_33 : decode rX7_tripsWithin.2.1 33 = .ok (.if_icmp .ge 13, 3) := by decide +kernel
theorem eX7_tripsWithin_36 : decode rX7_tripsWithin.2.1 36 = .ok (.aload_n 0, 1) := by decide +kernel
theorem eX7_tripsWithin_37 : decode rX7_tripsWithin.2.1 37 = .ok (.invokevirtual 156, 3) := by decide +kernel
theorem eX7_tripsWithin_40 : decode rX7_tripsWithin.2.1 40 = .ok (.iinc 2 1, 3) := by decide +kernel
theorem eX7_tripsWithin_43 : decode rX7_tripsWithin.2.1 43 = .ok (.goto (-12), 3) := by decide +kernel
theorem eX7_tripsWithin_46 : decode rX7_tripsWithin.2.1 46 = .ok (.aload_n 0, 1) := by decide +kernel
theorem eX7_tripsWithin_47 : decode rX7_tripsWithin.2.1 47 = .ok (.getfield 7, 3) := by decide +kernel
theorem eX7_tripsWithin_50 : decode rX7_tripsWithin.2.1 50 = .ok (.iconst 3, 1) := by decide +kernel
theorem eX7_tripsWithin_51 : decode rX7_tripsWithin.2.1 51 = .ok (.iaload, 1) := by decide +kernel
theorem eX7_tripsWithin_52 : decode rX7_tripsWithin.2.1 52 = .ok (.istore_n 2, 1) := by decide +kernel
theorem eX7_tripsWithin_53 : decode rX7_tripsWithin.2.1 53 = .ok (.aload_n 0, 1) := by decide +kernel
theorem eX7_tripsWithin_54 : decode rX7_tripsWithin.2.1 54 = .ok (.getfield 16, 3) := by decide +kernel
theorem eX7_tripsWithin_57 : decode rX7_tripsWithin.2.1 57 = .ok (.iconst 0, 1) := by decide +kernel
theorem eX7_tripsWithin_58 : decode rX7_tripsWithin.2.1 58 = .ok (.aload_n 0, 1) := by decide +kernel
theorem eX7_tripsWithin_59 : decode rX7_tripsWithin.2.1 59 = .ok (.getfield 7, 3) := by decide +kernel
theorem eX7_tripsWithin_62 : decode rX7_tripsWithin.2.1 62 = .ok (.iconst 0, 1) := by decide +kernel
theorem eX7_tripsWithin_63 : decode rX7_tripsWithin.2.1 63 = .ok (.invokestatic 45, 3) := by decide +kernel
theorem eX7_tripsWithin_66 : decode rX7_tripsWithin.2.1 66 = .ok (.aload_n 0, 1) := by decide +kernel
theorem eX7_tripsWithin_67 : decode rX7_tripsWithin.2.1 67 = .ok (.iload_n 2, 1) := by decide +kernel
theorem eX7_tripsWithin_68 : decode rX7_tripsWithin.2.1 68 = .ok (.aload_n 0, 1) := by decide +kernel
theorem eX7_tripsWithin_69 : decode rX7_tripsWithin.2.1 69 = .ok (.getfield 7, 3) := by decide +kernel
theorem eX7_tripsWithin_72 : decode rX7_tripsWithin.2.1 72 = .ok (.iconst 3, 1) := by decide +kernel
theorem eX7_tripsWithin_73 : decode rX7_tripsWithin.2.1 73 = .ok (.iaload, 1) := by decide +kernel
theorem eX7_tripsWithin_74 : decode rX7_tripsWithin.2.1 74 = .ok (.isub, 1) := by decide +kernel
theorem eX7_tripsWithin_75 : decode rX7_tripsWithin.2.1 75 = .ok (.invokevirtual 97, 3) := by decide +kernel
theorem eX7_tripsWithin_78 : decode rX7_tripsWithin.2.1 78 = .ok (.ireturn, 1) := by decide +kernel
theorem eX7_isAhead_0 : decode rX7_isAhead.2.1 0 = .ok (.aload_n 0, 1) := by decide +kernel
theorem eX7_isAhead_1 : decode rX7_isAhead.2.1 1 = .ok (.getfield 7, 3) := by decide +kernel
theorem eX7_isAhead_4 : decode rX7_isAhead.2.1 4 = .ok (.bipush 75, 2) := by decide +kernel
theorem eX7_isAhead_6 : decode rX7_isAhead.2.1 6 = .ok (.iload_n 1, 1) := by decide +kernel
theorem eX7_isAhead_7 : decode rX7_isAhead.2.1 7 = .ok (.iadd, 1) := by decide +kernel
theorem eX7_isAhead_8 : decode rX7_isAhead.2.1 8 = .ok (.iaload, 1) := by decide +kernel
theorem eX7_isAhead_9 : decode rX7_isAhead.2.1 9 = .ok (.aload_n 0, 1) := by decide +kernel
theorem eX7_isAhead_10 : decode rX7_isAhead.2.1 10 = .ok (.getfield 7, 3) := by decide +kernel
theorem eX7_isAhead_13 : decode rX7_isAhead.2.1 13 = .ok (.bipush 75, 2) := by decide +kernel
theorem eX7_isAhead_15 : decode rX7_isAhead.2.1 15 = .ok (.iload_n 2, 1) := by decide +kernel
theorem eX7_isAhead_16 : decode rX7_isAhead.2.1 16 = .ok (.iadd, 1) := by decide +kernel
theorem eX7_isAhead_17 : decode rX7_isAhead.2.1 17 = .ok (.iaload, 1) := by decide +kernel
theorem eX7_isAhead_18 : decode rX7_isAhead.2.1 18 = .ok (.isub, 1) := by decide +kernel
theorem eX7_isAhead_19 : decode rX7_isAhead.2.1 19 = .ok (.istore_n 3, 1) := by decide +kernel
theorem eX7_isAhead_20 : decode rX7_isAhead.2.1 20 = .ok (.aload_n 0, 1) := by decide +kernel
theorem eX7_isAhead_21 : decode rX7_isAhead.2.1 21 = .ok (.getfield 7, 3) := by decide +kernel
theorem eX7_isAhead_24 : decode rX7_isAhead.2.1 24 = .ok (.bipush 99, 2) := by decide +kernel
theorem eX7_isAhead_26 : decode rX7_isAhead.2.1 26 = .ok (.iload_n 2, 1) := by decide +kernel
theorem eX7_isAhead_27 : decode rX7_isAhead.2.1 27 = .ok (.iadd, 1) := by decide +kernel
theorem eX7_isAhead_28 : decode rX7_isAhead.2.1 28 = .ok (.iaload, 1) := by decide +kernel
theorem eX7_isAhead_29 : decode rX7_isAhead.2.1 29 = .ok (.aload_n 0, 1) := by decide +kernel
theorem eX7_isAhead_30 : decode rX7_isAhead.2.1 30 = .ok (.getfield 7, 3) := by decide +kernel
theorem eX7_isAhead_33 : decode rX7_isAhead.2.1 33 = .ok (.bipush 99, 2) := by decide +kernel
theorem eX7_isAhead_35 : decode rX7_isAhead.2.1 35 = .ok (.iload_n 1, 1) := by decide +kernel
theorem eX7_isAhead_36 : decode rX7_isAhead.2.1 36 = .ok (.iadd, 1) := by decide +kernel
theorem eX7_isAhead_37 : decode rX7_isAhead.2.1 37 = .ok (.iaload, 1) := by decide +kernel
theorem eX7_isAhead_38 : decode rX7_isAhead.2.1 38 = .ok (.isub, 1) := by decide +kernel
theorem eX7_isAhead_39 : decode rX7_isAhead.2.1 39 = .ok (.istore 4, 2) := by decide +kernel
theorem eX7_isAhead_41 : decode rX7_isAhead.2.1 41 = .ok (.iload_n 3, 1) := by decide +kernel
theorem eX7_isAhead_42 : decode rX7_isAhead.2.1 42 = .ok (.ifCond .gt 22, 3) := by decide +kernel
theorem eX7_isAhead_45 : decode rX7_isAhead.2.1 45 = .ok (.iload_n 3, 1) := by decide +kernel
theorem eX7_isAhead_46 : decode rX7_isAhead.2.1 46 = .ok (.ifCond .ne 22, 3) := by decide +kernel
theorem eX7_isAhead_49 : decode rX7_isAhead.2.1 49 = .ok (.iload 4, 2) := by decide +kernel
theorem eX7_isAhead_51 : decode rX7_isAhead.2.1 51 = .ok (.ifCond .gt 13, 3) := by decide +kernel
theorem eX7_isAhead_54 : decode rX7_isAhead.2.1 54 = .ok (.iload 4, 2) := by decide +kernel
theorem eX7_isAhead_56 : decode rX7_isAhead.2.1 56 = .ok (.ifCond .ne 12, 3) := by decide +kernel
theorem eX7_isAhead_59 : decode rX7_isAhead.2.1 59 = .ok (.iload_n 1, 1) := by decide +kernel
theorem eX7_isAhead_60 : decode rX7_isAhead.2.1 60 = .ok (.iload_n 2, 1) := by decide +kernel
theorem eX7_isAhead_61 : decode rX7_isAhead.2.1 61 = .ok (.if_icmp .ge 7, 3) := by decide +kernel
theorem eX7_isAhead_64 : decode rX7_isAhead.2.1 64 = .ok (.iconst 1, 1) := by decide +kernel
theorem eX7_isAhead_65 : decode rX7_isAhead.2.1 65 = .ok (.goto 4, 3) := by decide +kernel
theorem eX7_isAhead_68 : decode rX7_isAhead.2.1 68 = .ok (.iconst 0, 1) := by decide +kernel
theorem eX7_isAhead_69 : decode rX7_isAhead.2.1 69 = .ok (.ireturn, 1) := by decide +kernel
theorem eX7_passengerByWaiting_0 : decode rX7_passengerByWaiting.2.1 0 = .ok (.iconst 0, 1) := by decide +kernel
theorem eX7_passengerByWaiting_1 : decode rX7_passengerByWaiting.2.1 1 = .ok (.istore_n 2, 1) := by decide +kernel
theorem eX7_passengerByWaiting_2 : decode rX7_passengerByWaiting.2.1 2 = .ok (.iload_n 2, 1) := by decide +kernel
theorem eX7_passengerByWaiting_3 : decode rX7_passengerByWaiting.2.1 3 = .ok (.aload_n 0, 1) := by decide +kernel
theorem eX7_passengerByWaiting_4 : decode rX7_passengerByWaiting.2.1 4 = .ok (.getfield 7, 3) := by decide +kernel
theorem eX7_passengerByWaiting_7 : decode rX7_passengerByWaiting.2.1 7 = .ok (.iconst 1, 1) := by decide +kernel
theorem eX7_passengerByWaiting_8 : decode rX7_passengerByWaiting.2.1 8 = .ok (.iaload, 1) := by decide +kernel
theorem eX7_passengerByWaiting_9 : decode rX7_passengerByWaiting.2.1 9 = .ok (.if_icmp .ge 60, 3) := by decide +kernel
theorem eX7_passengerByWaiting_12 : decode rX7_passengerByWaiting.2.1 12 = .ok (.iconst 0, 1) := by decide +kernel
theorem eX7_passengerByWaiting_13 : decode rX7_passengerByWaiting.2.1 13 = .ok (.istore_n 3, 1) := by decide +kernel
theorem eX7_passengerByWaiting_14 : decode rX7_passengerByWaiting.2.1 14 = .ok (.iconst 0, 1) := by decide +kernel
theorem eX7_passengerByWaiting_15 : decode rX7_passengerByWaiting.2.1 15 = .ok (.istore 4, 2) := by decide +kernel
theorem eX7_passengerByWaiting_17 : decode rX7_passengerByWaiting.2.1 17 = .ok (.iload 4, 2) := by decide +kernel
theorem eX7_passengerByWaiting_19 : decode rX7_passengerByWaiting.2.1 19 = .ok (.aload_n 0, 1) := by decide +kernel
theorem eX7_passengerByWaiting_20 : decode rX7_passengerByWaiting.2.1 20 = .ok (.getfield 7, 3) := by decide +kernel
theorem eX7_passengerByWaiting_23 : decode rX7_passengerByWaiting.2.1 23 = .ok (.iconst 1, 1) := by decide +kernel
theorem eX7_passengerByWaiting_24 : decode rX7_passengerByWaiting.2.1 24 = .ok (.iaload, 1) := by decide +kernel
theorem eX7_passengerByWaiting_25 : decode rX7_passengerByWaiting.2.1 25 = .ok (.if_icmp .ge 27, 3) := by decide +kernel
theorem eX7_passengerByWaiting_28 : decode rX7_passengerByWaiting.2.1 28 = .ok (.iload_n 3, 1) := by decide +kernel
theorem eX7_passengerByWaiting_29 : decode rX7_passengerByWaiting.2.1 29 = .ok (.aload_n 0, 1) := by decide +kernel
theorem eX7_passengerByWaiting_30 : decode rX7_passengerByWaiting.2.1 30 = .ok (.iload 4, 2) := by decide +kernel
theorem eX7_passengerByWaiting_32 : decode rX7_passengerByWaiting.2.1 32 = .ok (.iload_n 2, 1) := by decide +kernel
theorem eX7_passengerByWaiting_33 : decode rX7_passengerByWaiting.2.1 33 = .ok (.invokevirtual 191, 3) := by decide +kernel
theorem eX7_passengerByWaiting_36 : decode rX7_passengerByWaiting.2.1 36 = .ok (.ifCond .eq 7, 3) := by decide +kernel
theorem eX7_passengerByWaiting_39 : decode rX7_passengerByWaiting.2.1 39 = .ok (.iconst 1, 1) := by decide +kernel
theorem eX7_passengerByWaiting_40 : decode rX7_passengerByWaiting.2.1 40 = .ok (.goto 4, 3) := by decide +kernel
theorem eX7_passengerByWaiting_43 : decode rX7_passengerByWaiting.2.1 43 = .ok (.iconst 0, 1) := by decide +kernel
theorem eX7_passengerByWaiting_44 : decode rX7_passengerByWaiting.2.1 44 = .ok (.iadd, 1) := by decide +kernel
theorem eX7_passengerByWaiting_45 : decode rX7_passengerByWaiting.2.1 45 = .ok (.istore_n 3, 1) := by decide +kernel
theorem eX7_passengerByWaiting_46 : decode rX7_passengerByWaiting.2.1 46 = .ok (.iinc 4 1, 3) := by decide +kernel
theorem eX7_passengerByWaiting_49 : decode rX7_passengerByWaiting.2.1 49 = .ok (.goto (-32), 3) := by decide +kernel
theorem eX7_passengerByWaiting_52 : decode rX7_passengerByWaiting.2.1 52 = .ok (.iload_n 3, 1) := by decide +kernel
theorem eX7_passengerByWaiting_53 : decode rX7_passengerByWaiting.2.1 53 = .ok (.iload_n 1, 1) := by decide +kernel
theorem eX7_passengerByWaiting_54 : decode rX7_passengerByWaiting.2.1 54 = .ok (.if_icmp .ne 9, 3) := by decide +kernel
theorem eX7_passengerByWaiting_57 : decode rX7_passengerByWaiting.2.1 57 = .ok (.aload_n 0, 1) := by decide +kernel
theorem eX7_passengerByWaiting_58 : decode rX7_passengerByWaiting.2.1 58 = .ok (.iload_n 2, 1) := by decide +kernel
theorem eX7_passengerByWaiting_59 : decode rX7_passengerByWaiting.2.1 59 = .ok (.invokevirtual 97, 3) := by decide +kernel
theorem eX7_passengerByWaiting_62 : decode rX7_passengerByWaiting.2.1 62 = .ok (.ireturn, 1) := by decide +kernel
theorem eX7_passengerByWaiting_63 : decode rX7_passengerByWaiting.2.1 63 = .ok (.iinc 2 1, 3) := by decide +kernel
theorem eX7_passengerByWaiting_66 : decode rX7_passengerByWaiting.2.1 66 = .ok (.goto (-64), 3) := by decide +kernel
theorem eX7_passengerByWaiting_69 : decode rX7_passengerByWaiting.2.1 69 = .ok (.aload_n 0, 1) := by decide +kernel
theorem eX7_passengerByWaiting_70 : decode rX7_passengerByWaiting.2.1 70 = .ok (.iconst 1, 1) := by decide +kernel
theorem eX7_passengerByWaiting_71 : decode rX7_passengerByWaiting.2.1 71 = .ok (.invokevirtual 90, 3) := by decide +kernel
theorem eX7_passengerByWaiting_74 : decode rX7_passengerByWaiting.2.1 74 = .ok (.ireturn, 1) := by decide +kernel
theorem eX7_isCarAhead_0 : decode rX7_isCarAhead.2.1 0 = .ok (.aload_n 0, 1) := by decide +kernel
theorem eX7_isCarAhead_1 : decode rX7_isCarAhead.2.1 1 = .ok (.getfield 7, 3) := by decide +kernel
theorem eX7_isCarAhead_4 : decode rX7_isCarAhead.2.1 4 = .ok (.bipush 24, 2) := by decide +kernel
theorem eX7_isCarAhead_6 : decode rX7_isCarAhead.2.1 6 = .ok (.iload_n 1, 1) := by decide +kernel
theorem eX7_isCarAhead_7 : decode rX7_isCarAhead.2.1 7 = .ok (.iadd, 1) := by decide +kernel
theorem eX7_isCarAhead_8 : decode rX7_isCarAhead.2.1 8 = .ok (.iaload, 1) := by decide +kernel
theorem eX7_isCarAhead_9 : decode rX7_isCarAhead.2.1 9 = .ok (.aload_n 0, 1) := by decide +kernel
theorem eX7_isCarAhead_10 : decode rX7_isCarAhead.2.1 10 = .ok (.getfield 7, 3) := by decide +kernel
theorem eX7_isCarAhead_13 : decode rX7_isCarAhead.2.1 13 = .ok (.bipush 24, 2) := by decide +kernel
theorem eX7_isCarAhead_15 : decode rX7_isCarAhead.2.1 15 = .ok (.iload_n 2, 1) := by decide +kernel
theorem eX7_isCarAhead_16 : decode rX7_isCarAhead.2.1 16 = .ok (.iadd, 1) := by decide +kernel
theorem eX7_isCarAhead_17 : decode rX7_isCarAhead.2.1 17 = .ok (.iaload, 1) := by decide +kernel
theorem eX7_isCarAhead_18 : decode rX7_isCarAhead.2.1 18 = .ok (.isub, 1) := by decide +kernel
theorem eX7_isCarAhead_19 : decode rX7_isCarAhead.2.1 19 = .ok (.istore_n 3, 1) := by decide +kernel
theorem eX7_isCarAhead_20 : decode rX7_isCarAhead.2.1 20 = .ok (.aload_n 0, 1) := by decide +kernel
theorem eX7_isCarAhead_21 : decode rX7_isCarAhead.2.1 21 = .ok (.iload_n 1, 1) := by decide +kernel
theorem eX7_isCarAhead_22 : decode rX7_isCarAhead.2.1 22 = .ok (.invokevirtual 81, 3) := by decide +kernel
theorem eX7_isCarAhead_25 : decode rX7_isCarAhead.2.1 25 = .ok (.aload_n 0, 1) := by decide +kernel
theorem eX7_isCarAhead_26 : decode rX7_isCarAhead.2.1 26 = .ok (.iload_n 2, 1) := by decide +kernel
theorem eX7_isCarAhead_27 : decode rX7_isCarAhead.2.1 27 = .ok (.invokevirtual 81, 3) := by decide +kernel
theorem eX7_isCarAhead_30 : decode rX7_isCarAhead.2.1 30 = .ok (.isub, 1) := by decide +kernel
theorem eX7_isCarAhead_31 : decode rX7_isCarAhead.2.1 31 = .ok (.istore 4, 2) := by decide +kernel
theorem eX7_isCarAhead_33 : decode rX7_isCarAhead.2.1 33 = .ok (.iload_n 3, 1) := by decide +kernel
theorem eX7_isCarAhead_34 : decode rX7_isCarAhead.2.1 34 = .ok (.ifCond .gt 22, 3) := by decide +kernel
theorem eX7_isCarAhead_37 : decode rX7_isCarAhead.2.1 37 = .ok (.iload_n 3, 1) := by decide +kernel
theorem eX7_isCarAhead_38 : decode rX7_isCarAhead.2.1 38 = .ok (.ifCond .ne 22, 3) := by decide +kernel
theorem eX7_isCarAhead_41 : decode rX7_isCarAhead.2.1 41 = .ok (.iload 4, 2) := by decide +kernel
theorem eX7_isCarAhead_43 : decode rX7_isCarAhead.2.1 43 = .ok (.ifCond .gt 13, 3) := by decide +kernel
theorem eX7_isCarAhead_46 : decode rX7_isCarAhead.2.1 46 = .ok (.iload 4, 2) := by decide +kernel
theorem eX7_isCarAhead_48 : decode rX7_isCarAhead.2.1 48 = .ok (.ifCond .ne 12, 3) := by decide +kernel
theorem eX7_isCarAhead_51 : decode rX7_isCarAhead.2.1 51 = .ok (.iload_n 1, 1) := by decide +kernel
theorem eX7_isCarAhead_52 : decode rX7_isCarAhead.2.1 52 = .ok (.iload_n 2, 1) := by decide +kernel
theorem eX7_isCarAhead_53 : decode rX7_isCarAhead.2.1 53 = .ok (.if_icmp .ge 7, 3) := by decide +kernel
theorem eX7_isCarAhead_56 : decode rX7_isCarAhead.2.1 56 = .ok (.iconst 1, 1) := by decide +kernel
theorem eX7_isCarAhead_57 : decode rX7_isCarAhead.2.1 57 = .ok (.goto 4, 3) := by decide +kernel
theorem eX7_isCarAhead_60 : decode rX7_isCarAhead.2.1 60 = .ok (.iconst 0, 1) := by decide +kernel
theorem eX7_isCarAhead_61 : decode rX7_isCarAhead.2.1 61 = .ok (.ireturn, 1) := by decide +kernel
theorem eX7_carByEnergy_0 : decode rX7_carByEnergy.2.1 0 = .ok (.iconst 0, 1) := by decide +kernel
theorem eX7_carByEnergy_1 : decode rX7_carByEnergy.2.1 1 = .ok (.istore_n 2, 1) := by decide +kernel
theorem eX7_carByEnergy_2 : decode rX7_carByEnergy.2.1 2 = .ok (.iload_n 2, 1) := by decide +kernel
theorem eX7_carByEnergy_3 : decode rX7_carByEnergy.2.1 3 = .ok (.iconst 3, 1) := by decide +kernel
theorem eX7_carByEnergy_4 : decode rX7_carByEnergy.2.1 4 = .ok (.if_icmp .ge 55, 3) := by decide +kernel
theorem eX7_carByEnergy_7 : decode rX7_carByEnergy.2.1 7 = .ok (.iconst 0, 1) := by decide +kernel
theorem eX7_carByEnergy_8 : decode rX7_carByEnergy.2.1 8 = .ok (.istore_n 3, 1) := by decide +kernel
theorem eX7_carByEnergy_9 : decode rX7_carByEnergy.2.1 9 = .ok (.iconst 0, 1) := by decide +kernel
theorem eX7_carByEnergy_10 : decode rX7_carByEnergy.2.1 10 = .ok (.istore 4, 2) := by decide +kernel
theorem eX7_carByEnergy_12 : decode rX7_carByEnergy.2.1 12 = .ok (.iload 4, 2) := by decide +kernel
theorem eX7_carByEnergy_14 : decode rX7_carByEnergy.2.1 14 = .ok (.iconst 3, 1) := by decide +kernel
theorem eX7_carByEnergy_15 : decode rX7_carByEnergy.2.1 15 = .ok (.if_icmp .ge 27, 3) := by decide +kernel
theorem eX7_carByEnergy_18 : decode rX7_carByEnergy.2.1 18 = .ok (.iload_n 3, 1) := by decide +kernel
theorem eX7_carByEnergy_19 : decode rX7_carByEnergy.2.1 19 = .ok (.aload_n 0, 1) := by decide +kernel
theorem eX7_carByEnergy_20 : decode rX7_carByEnergy.2.1 20 = .ok (.iload 4, 2) := by decide +kernel
theorem eX7_carByEnergy_22 : decode rX7_carByEnergy.2.1 22 = .ok (.iload_n 2, 1) := by decide +kernel
theorem eX7_carByEnergy_23 : decode rX7_carByEnergy.2.1 23 = .ok (.invokevirtual 194, 3) := by decide +kernel
theorem eX7_carByEnergy_26 : decode rX7_carByEnergy.2.1 26 = .ok (.ifCond .eq 7, 3) := by decide +kernel
theorem eX7_carByEnergy_29 : decode rX7_carByEnergy.2.1 29 = .ok (.iconst 1, 1) := by decide +kernel
theorem eX7_carByEnergy_30 : decode rX7_carByEnergy.2.1 30 = .ok (.goto 4, 3) := by decide +kernel
theorem eX7_carByEnergy_33 : decode rX7_carByEnergy.2.1 33 = .ok (.iconst 0, 1) := by decide +kernel
theorem eX7_carByEnergy_34 : decode rX7_carByEnergy.2.1 34 = .ok (.iadd, 1) := by decide +kernel
theorem eX7_carByEnergy_35 : decode rX7_carByEnergy.2.1 35 = .ok (.istore_n 3, 1) := by decide +kernel
theorem eX7_carByEnergy_36 : decode rX7_carByEnergy.2.1 36 = .ok (.iinc 4 1, 3) := by decide +kernel
theorem eX7_carByEnergy_39 : decode rX7_carByEnergy.2.1 39 = .ok (.goto (-27), 3) := by decide +kernel
theorem eX7_carByEnergy_42 : decode rX7_carByEnergy.2.1 42 = .ok (.iload_n 3, 1) := by decide +kernel
theorem eX7_carByEnergy_43 : decode rX7_carByEnergy.2.1 43 = .ok (.iload_n 1, 1) := by decide +kernel
theorem eX7_carByEnergy_44 : decode rX7_carByEnergy.2.1 44 = .ok (.if_icmp .ne 9, 3) := by decide +kernel
theorem eX7_carByEnergy_47 : decode rX7_carByEnergy.2.1 47 = .ok (.aload_n 0, 1) := by decide +kernel
theorem eX7_carByEnergy_48 : decode rX7_carByEnergy.2.1 48 = .ok (.iload_n 2, 1) := by decide +kernel
theorem eX7_carByEnergy_49 : decode rX7_carByEnergy.2.1 49 = .ok (.invokevirtual 97, 3) := by decide +kernel
theorem eX7_carByEnergy_52 : decode rX7_carByEnergy.2.1 52 = .ok (.ireturn, 1) := by decide +kernel
theorem eX7_carByEnergy_53 : decode rX7_carByEnergy.2.1 53 = .ok (.iinc 2 1, 3) := by decide +kernel
theorem eX7_carByEnergy_56 : decode rX7_carByEnergy.2.1 56 = .ok (.goto (-54), 3) := by decide +kernel
theorem eX7_carByEnergy_59 : decode rX7_carByEnergy.2.1 59 = .ok (.aload_n 0, 1) := by decide +kernel
theorem eX7_carByEnergy_60 : decode rX7_carByEnergy.2.1 60 = .ok (.iconst 1, 1) := by decide +kernel
theorem eX7_carByEnergy_61 : decode rX7_carByEnergy.2.1 61 = .ok (.invokevirtual 90, 3) := by decide +kernel
theorem eX7_carByEnergy_64 : decode rX7_carByEnergy.2.1 64 = .ok (.ireturn, 1) := by decide +kernel
theorem eX7_logNumber_0 : decode rX7_logNumber.2.1 0 = .ok (.iload_n 2, 1) := by decide +kernel
theorem eX7_logNumber_1 : decode rX7_logNumber.2.1 1 = .ok (.iconst 0, 1) := by decide +kernel
theorem eX7_logNumber_2 : decode rX7_logNumber.2.1 2 = .ok (.bipush 9, 2) := by decide +kernel
theorem eX7_logNumber_4 : decode rX7_logNumber.2.1 4 = .ok (.invokestatic 52, 3) := by decide +kernel
theorem eX7_logNumber_7 : decode rX7_logNumber.2.1 7 = .ok (.ifCond .eq 17, 3) := by decide +kernel
theorem eX7_logNumber_10 : decode rX7_logNumber.2.1 10 = .ok (.iload_n 2, 1) := by decide +kernel
theorem eX7_logNumber_11 : decode rX7_logNumber.2.1 11 = .ok (.aload_n 0, 1) := by decide +kernel
theorem eX7_logNumber_12 : decode rX7_logNumber.2.1 12 = .ok (.getfield 7, 3) := by decide +kernel
theorem eX7_logNumber_15 : decode rX7_logNumber.2.1 15 = .ok (.iconst 3, 1) := by decide +kernel
theorem eX7_logNumber_16 : decode rX7_logNumber.2.1 16 = .ok (.iaload, 1) := by decide +kernel
theorem eX7_logNumber_17 : decode rX7_logNumber.2.1 17 = .ok (.if_icmp .ge 7, 3) := by decide +kernel
theorem eX7_logNumber_20 : decode rX7_logNumber.2.1 20 = .ok (.iconst 1, 1) := by decide +kernel
theorem eX7_logNumber_21 : decode rX7_logNumber.2.1 21 = .ok (.goto 4, 3) := by decide +kernel
theorem eX7_logNumber_24 : decode rX7_logNumber.2.1 24 = .ok (.iconst 0, 1) := by decide +kernel
theorem eX7_logNumber_25 : decode rX7_logNumber.2.1 25 = .ok (.istore_n 3, 1) := by decide +kernel
theorem eX7_logNumber_26 : decode rX7_logNumber.2.1 26 = .ok (.iload_n 3, 1) := by decide +kernel
theorem eX7_logNumber_27 : decode rX7_logNumber.2.1 27 = .ok (.ifCond .eq 30, 3) := by decide +kernel
theorem eX7_logNumber_30 : decode rX7_logNumber.2.1 30 = .ok (.aload_n 0, 1) := by decide +kernel
theorem eX7_logNumber_31 : decode rX7_logNumber.2.1 31 = .ok (.aload_n 0, 1) := by decide +kernel
theorem eX7_logNumber_32 : decode rX7_logNumber.2.1 32 = .ok (.getfield 7, 3) := by decide +kernel
theorem eX7_logNumber_35 : decode rX7_logNumber.2.1 35 = .ok (.iload_n 1, 1) := by decide +kernel
theorem eX7_logNumber_36 : decode rX7_logNumber.2.1 36 = .ok (.aload_n 0, 1) := by decide +kernel
theorem eX7_logNumber_37 : decode rX7_logNumber.2.1 37 = .ok (.getfield 7, 3) := by decide +kernel
theorem eX7_logNumber_40 : decode rX7_logNumber.2.1 40 = .ok (.iconst 3, 1) := by decide +kernel
theorem eX7_logNumber_41 : decode rX7_logNumber.2.1 41 = .ok (.iaload, 1) := by decide +kernel
theorem eX7_logNumber_42 : decode rX7_logNumber.2.1 42 = .ok (.iconst 1, 1) := by decide +kernel
theorem eX7_logNumber_43 : decode rX7_logNumber.2.1 43 = .ok (.isub, 1) := by decide +kernel
theorem eX7_logNumber_44 : decode rX7_logNumber.2.1 44 = .ok (.iload_n 2, 1) := by decide +kernel
theorem eX7_logNumber_45 : decode rX7_logNumber.2.1 45 = .ok (.isub, 1) := by decide +kernel
theorem eX7_logNumber_46 : decode rX7_logNumber.2.1 46 = .ok (.bipush 10, 2) := by decide +kernel
theorem eX7_logNumber_48 : decode rX7_logNumber.2.1 48 = .ok (.irem, 1) := by decide +kernel
theorem eX7_logNumber_49 : decode rX7_logNumber.2.1 49 = .ok (.iadd, 1) := by decide +kernel
theorem eX7_logNumber_50 : decode rX7_logNumber.2.1 50 = .ok (.iaload, 1) := by decide +kernel
theorem eX7_logNumber_51 : decode rX7_logNumber.2.1 51 = .ok (.invokevirtual 97, 3) := by decide +kernel
theorem eX7_logNumber_54 : decode rX7_logNumber.2.1 54 = .ok (.goto 8, 3) := by decide +kernel
theorem eX7_logNumber_57 : decode rX7_logNumber.2.1 57 = .ok (.aload_n 0, 1) := by decide +kernel
theorem eX7_logNumber_58 : decode rX7_logNumber.2.1 58 = .ok (.iconst 1, 1) := by decide +kernel
theorem eX7_logNumber_59 : decode rX7_logNumber.2.1 59 = .ok (.invokevirtual 90, 3) := by decide +kernel
theorem eX7_logNumber_62 : decode rX7_logNumber.2.1 62 = .ok (.ireturn, 1) := by decide +kernel
theorem eX7_tripNumber_0 : decode rX7_tripNumber.2.1 0 = .ok (.aload_n 0, 1) := by decide +kernel
theorem eX7_tripNumber_1 : decode rX7_tripNumber.2.1 1 = .ok (.bipush 111, 2) := by decide +kernel
theorem eX7_tripNumber_3 : decode rX7_tripNumber.2.1 3 = .ok (.iload_n 1, 1) := by decide +kernel
theorem eX7_tripNumber_4 : decode rX7_tripNumber.2.1 4 = .ok (.invokevirtual 197, 3) := by decide +kernel
theorem eX7_tripNumber_7 : decode rX7_tripNumber.2.1 7 = .ok (.ireturn, 1) := by decide +kernel
theorem eX7_tripCar_0 : decode rX7_tripCar.2.1 0 = .ok (.aload_n 0, 1) := by decide +kernel
theorem eX7_tripCar_1 : decode rX7_tripCar.2.1 1 = .ok (.bipush 121, 2) := by decide +kernel
theorem eX7_tripCar_3 : decode rX7_tripCar.2.1 3 = .ok (.iload_n 1, 1) := by decide +kernel
theorem eX7_tripCar_4 : decode rX7_tripCar.2.1 4 = .ok (.invokevirtual 197, 3) := by decide +kernel
theorem eX7_tripCar_7 : decode rX7_tripCar.2.1 7 = .ok (.ireturn, 1) := by decide +kernel
theorem eX7_tripWaiting_0 : decode rX7_tripWaiting.2.1 0 = .ok (.aload_n 0, 1) := by decide +kernel
theorem eX7_tripWaiting_1 : decode rX7_tripWaiting.2.1 1 = .ok (.sipush 131, 3) := by decide +kernel
theorem eX7_tripWaiting_4 : decode rX7_tripWaiting.2.1 4 = .ok (.iload_n 1, 1) := by decide +kernel
theorem eX7_tripWaiting_5 : decode rX7_tripWaiting.2.1 5 = .ok (.invokevirtual 197, 3) := by decide +kernel
theorem eX7_tripWaiting_8 : decode rX7_tripWaiting.2.1 8 = .ok (.ireturn, 1) := by decide +kernel
theorem eX7_tripCount_0 : decode rX7_tripCount.2.1 0 = .ok (.aload_n 0, 1) := by decide +kernel
theorem eX7_tripCount_1 : decode rX7_tripCount.2.1 1 = .ok (.aload_n 0, 1) := by decide +kernel
theorem eX7_tripCount_2 : decode rX7_tripCount.2.1 2 = .ok (.getfield 7, 3) := by decide +kernel
theorem eX7_tripCount_5 : decode rX7_tripCount.2.1 5 = .ok (.iconst 3, 1) := by decide +kernel
theorem eX7_tripCount_6 : decode rX7_tripCount.2.1 6 = .ok (.iaload, 1) := by decide +kernel
theorem eX7_tripCount_7 : decode rX7_tripCount.2.1 7 = .ok (.invokevirtual 97, 3) := by decide +kernel
theorem eX7_tripCount_10 : decode rX7_tripCount.2.1 10 = .ok (.ireturn, 1) := by decide +kernel
theorem eX7_totalEnergy_0 : decode rX7_totalEnergy.2.1 0 = .ok (.aload_n 0, 1) := by decide +kernel
theorem eX7_totalEnergy_1 : decode rX7_totalEnergy.2.1 1 = .ok (.iconst 0, 1) := by decide +kernel
theorem eX7_totalEnergy_2 : decode rX7_totalEnergy.2.1 2 = .ok (.putfield 42, 3) := by decide +kernel
theorem eX7_totalEnergy_5 : decode rX7_totalEnergy.2.1 5 = .ok (.aload_n 0, 1) := by decide +kernel
theorem eX7_totalEnergy_6 : decode rX7_totalEnergy.2.1 6 = .ok (.getfield 7, 3) := by decide +kernel
theorem eX7_totalEnergy_9 : decode rX7_totalEnergy.2.1 9 = .ok (.bipush 24, 2) := by decide +kernel
theorem eX7_totalEnergy_11 : decode rX7_totalEnergy.2.1 11 = .ok (.iaload, 1) := by decide +kernel
theorem eX7_totalEnergy_12 : decode rX7_totalEnergy.2.1 12 = .ok (.i2l, 1) := by decide +kernel
theorem eX7_totalEnergy_13 : decode rX7_totalEnergy.2.1 13 = .ok (.aload_n 0, 1) := by decide +kernel
theorem eX7_totalEnergy_14 : decode rX7_totalEnergy.2.1 14 = .ok (.getfield 7, 3) := by decide +kernel
theorem eX7_totalEnergy_17 : decode rX7_totalEnergy.2.1 17 = .ok (.bipush 25, 2) := by decide +kernel
theorem eX7_totalEnergy_19 : decode rX7_totalEnergy.2.1 19 = .ok (.iaload, 1) := by decide +kernel
theorem eX7_totalEnergy_20 : decode rX7_totalEnergy.2.1 20 = .ok (.i2l, 1) := by decide +kernel
theorem eX7_totalEnergy_21 : decode rX7_totalEnergy.2.1 21 = .ok (.ladd, 1) := by decide +kernel
theorem eX7_totalEnergy_22 : decode rX7_totalEnergy.2.1 22 = .ok (.aload_n 0, 1) := by decide +kernel
theorem eX7_totalEnergy_23 : decode rX7_totalEnergy.2.1 23 = .ok (.getfield 7, 3) := by decide +kernel
theorem eX7_totalEnergy_26 : decode rX7_totalEnergy.2.1 26 = .ok (.bipush 26, 2) := by decide +kernel
theorem eX7_totalEnergy_28 : decode rX7_totalEnergy.2.1 28 = .ok (.iaload, 1) := by decide +kernel
theorem eX7_totalEnergy_29 : decode rX7_totalEnergy.2.1 29 = .ok (.i2l, 1) := by decide +kernel
theorem eX7_totalEnergy_30 : decode rX7_totalEnergy.2.1 30 = .ok (.ladd, 1) := by decide +kernel
theorem eX7_totalEnergy_31 : decode rX7_totalEnergy.2.1 31 = .ok (.lreturn, 1) := by decide +kernel
theorem eX7_totalEnergyByMoves_0 : decode rX7_totalEnergyByMoves.2.1 0 = .ok (.aload_n 0, 1) := by decide +kernel
theorem eX7_totalEnergyByMoves_1 : decode rX7_totalEnergyByMoves.2.1 1 = .ok (.iconst 0, 1) := by decide +kernel
theorem eX7_totalEnergyByMoves_2 : decode rX7_totalEnergyByMoves.2.1 2 = .ok (.putfield 42, 3) := by decide +kernel
theorem eX7_totalEnergyByMoves_5 : decode rX7_totalEnergyByMoves.2.1 5 = .ok (.ldc2_w 200, 3) := by decide +kernel
theorem eX7_totalEnergyByMoves_8 : decode rX7_totalEnergyByMoves.2.1 8 = .ok (.aload_n 0, 1) := by decide +kernel
theorem eX7_totalEnergyByMoves_9 : decode rX7_totalEnergyByMoves.2.1 9 = .ok (.getfield 7, 3) := by decide +kernel
theorem eX7_totalEnergyByMoves_12 : decode rX7_totalEnergyByMoves.2.1 12 = .ok (.iconst 5, 1) := by decide +kernel
theorem eX7_totalEnergyByMoves_13 : decode rX7_totalEnergyByMoves.2.1 13 = .ok (.iaload, 1) := by decide +kernel
theorem eX7_totalEnergyByMoves_14 : decode rX7_totalEnergyByMoves.2.1 14 = .ok (.i2l, 1) := by decide +kernel
theorem eX7_totalEnergyByMoves_15 : decode rX7_totalEnergyByMoves.2.1 15 = .ok (.lmul, 1) := by decide +kernel
theorem eX7_totalEnergyByMoves_16 : decode rX7_totalEnergyByMoves.2.1 16 = .ok (.aload_n 0, 1) := by decide +kernel
theorem eX7_totalEnergyByMoves_17 : decode rX7_totalEnergyByMoves.2.1 17 = .ok (.getfield 7, 3) := by decide +kernel
theorem eX7_totalEnergyByMoves_20 : decode rX7_totalEnergyByMoves.2.1 20 = .ok (.bipush 8, 2) := by decide +kernel
theorem eX7_totalEnergyByMoves_22 : decode rX7_totalEnergyByMoves.2.1 22 = .ok (.iaload, 1) := by decide +kernel
theorem eX7_totalEnergyByMoves_23 : decode rX7_totalEnergyByMoves.2.1 23 = .ok (.i2l, 1) := by decide +kernel
theorem eX7_totalEnergyByMoves_24 : decode rX7_totalEnergyByMoves.2.1 24 = .ok (.ladd, 1) := by decide +kernel
theorem eX7_totalEnergyByMoves_25 : decode rX7_totalEnergyByMoves.2.1 25 = .ok (.aload_n 0, 1) := by decide +kernel
theorem eX7_totalEnergyByMoves_26 : decode rX7_totalEnergyByMoves.2.1 26 = .ok (.getfield 7, 3) := by decide +kernel
theorem eX7_totalEnergyByMoves_29 : decode rX7_totalEnergyByMoves.2.1 29 = .ok (.bipush 6, 2) := by decide +kernel
theorem eX7_totalEnergyByMoves_31 : decode rX7_totalEnergyByMoves.2.1 31 = .ok (.iaload, 1) := by decide +kernel
theorem eX7_totalEnergyByMoves_32 : decode rX7_totalEnergyByMoves.2.1 32 = .ok (.i2l, 1) := by decide +kernel
theorem eX7_totalEnergyByMoves_33 : decode rX7_totalEnergyByMoves.2.1 33 = .ok (.ladd, 1) := by decide +kernel
theorem eX7_totalEnergyByMoves_34 : decode rX7_totalEnergyByMoves.2.1 34 = .ok (.aload_n 0, 1) := by decide +kernel
theorem eX7_totalEnergyByMoves_35 : decode rX7_totalEnergyByMoves.2.1 35 = .ok (.getfield 7, 3) := by decide +kernel
theorem eX7_totalEnergyByMoves_38 : decode rX7_totalEnergyByMoves.2.1 38 = .ok (.bipush 7, 2) := by decide +kernel
theorem eX7_totalEnergyByMoves_40 : decode rX7_totalEnergyByMoves.2.1 40 = .ok (.iaload, 1) := by decide +kernel
theorem eX7_totalEnergyByMoves_41 : decode rX7_totalEnergyByMoves.2.1 41 = .ok (.i2l, 1) := by decide +kernel
theorem eX7_totalEnergyByMoves_42 : decode rX7_totalEnergyByMoves.2.1 42 = .ok (.ladd, 1) := by decide +kernel
theorem eX7_totalEnergyByMoves_43 : decode rX7_totalEnergyByMoves.2.1 43 = .ok (.lreturn, 1) := by decide +kernel
theorem eX7_floorsUp_0 : decode rX7_floorsUp.2.1 0 = .ok (.aload_n 0, 1) := by decide +kernel
theorem eX7_floorsUp_1 : decode rX7_floorsUp.2.1 1 = .ok (.aload_n 0, 1) := by decide +kernel
theorem eX7_floorsUp_2 : decode rX7_floorsUp.2.1 2 = .ok (.getfield 7, 3) := by decide +kernel
theorem eX7_floorsUp_5 : decode rX7_floorsUp.2.1 5 = .ok (.iconst 5, 1) := by decide +kernel
theorem eX7_floorsUp_6 : decode rX7_floorsUp.2.1 6 = .ok (.iaload, 1) := by decide +kernel
theorem eX7_floorsUp_7 : decode rX7_floorsUp.2.1 7 = .ok (.invokevirtual 97, 3) := by decide +kernel
theorem eX7_floorsUp_10 : decode rX7_floorsUp.2.1 10 = .ok (.ireturn, 1) := by decide +kernel
theorem eX7_floorsDown_0 : decode rX7_floorsDown.2.1 0 = .ok (.aload_n 0, 1) := by decide +kernel
theorem eX7_floorsDown_1 : decode rX7_floorsDown.2.1 1 = .ok (.aload_n 0, 1) := by decide +kernel
theorem eX7_floorsDown_2 : decode rX7_floorsDown.2.1 2 = .ok (.getfield 7, 3) := by decide +kernel
theorem eX7_floorsDown_5 : decode rX7_floorsDown.2.1 5 = .ok (.bipush 6, 2) := by decide +kernel
theorem eX7_floorsDown_7 : decode rX7_floorsDown.2.1 7 = .ok (.iaload, 1) := by decide +kernel
theorem eX7_floorsDown_8 : decode rX7_floorsDown.2.1 8 = .ok (.invokevirtual 97, 3) := by decide +kernel
theorem eX7_floorsDown_11 : decode rX7_floorsDown.2.1 11 = .ok (.ireturn, 1) := by decide +kernel
theorem eX7_doorOpenings_0 : decode rX7_doorOpenings.2.1 0 = .ok (.aload_n 0, 1) := by decide +kernel
theorem eX7_doorOpenings_1 : decode rX7_doorOpenings.2.1 1 = .ok (.aload_n 0, 1) := by decide +kernel
theorem eX7_doorOpenings_2 : decode rX7_doorOpenings.2.1 2 = .ok (.getfield 7, 3) := by decide +kernel
theorem eX7_doorOpenings_5 : decode rX7_doorOpenings.2.1 5 = .ok (.bipush 7, 2) := by decide +kernel
theorem eX7_doorOpenings_7 : decode rX7_doorOpenings.2.1 7 = .ok (.iaload, 1) := by decide +kernel
theorem eX7_doorOpenings_8 : decode rX7_doorOpenings.2.1 8 = .ok (.invokevirtual 97, 3) := by decide +kernel
theorem eX7_doorOpenings_11 : decode rX7_doorOpenings.2.1 11 = .ok (.ireturn, 1) := by decide +kernel
theorem eX7_meanWaiting_0 : decode rX7_meanWaiting.2.1 0 = .ok (.aload_n 0, 1) := by decide +kernel
theorem eX7_meanWaiting_1 : decode rX7_meanWaiting.2.1 1 = .ok (.aload_n 0, 1) := by decide +kernel
theorem eX7_meanWaiting_2 : decode rX7_meanWaiting.2.1 2 = .ok (.getfield 7, 3) := by decide +kernel
theorem eX7_meanWaiting_5 : decode rX7_meanWaiting.2.1 5 = .ok (.iconst 3, 1) := by decide +kernel
theorem eX7_meanWaiting_6 : decode rX7_meanWaiting.2.1 6 = .ok (.iaload, 1) := by decide +kernel
theorem eX7_meanWaiting_7 : decode rX7_meanWaiting.2.1 7 = .ok (.ifCond .ne 7, 3) := by decide +kernel
theorem eX7_meanWaiting_10 : decode rX7_meanWaiting.2.1 10 = .ok (.iconst 1, 1) := by decide +kernel
theorem eX7_meanWaiting_11 : decode rX7_meanWaiting.2.1 11 = .ok (.goto 4, 3) := by decide +kernel
theorem eX7_meanWaiting_14 : decode rX7_meanWaiting.2.1 14 = .ok (.iconst 0, 1) := by decide +kernel
theorem eX7_meanWaiting_15 : decode rX7_meanWaiting.2.1 15 = .ok (.putfield 42, 3) := by decide +kernel
theorem eX7_meanWaiting_18 : decode rX7_meanWaiting.2.1 18 = .ok (.aload_n 0, 1) := by decide +kernel
theorem eX7_meanWaiting_19 : decode rX7_meanWaiting.2.1 19 = .ok (.getfield 42, 3) := by decide +kernel
theorem eX7_meanWaiting_22 : decode rX7_meanWaiting.2.1 22 = .ok (.ifCond .ne 21, 3) := by decide +kernel
theorem eX7_meanWaiting_25 : decode rX7_meanWaiting.2.1 25 = .ok (.aload_n 0, 1) := by decide +kernel
theorem eX7_meanWaiting_26 : decode rX7_meanWaiting.2.1 26 = .ok (.getfield 7, 3) := by decide +kernel
theorem eX7_meanWaiting_29 : decode rX7_meanWaiting.2.1 29 = .ok (.iconst 4, 1) := by decide +kernel
theorem eX7_meanWaiting_30 : decode rX7_meanWaiting.2.1 30 = .ok (.iaload, 1) := by decide +kernel
theorem eX7_meanWaiting_31 : decode rX7_meanWaiting.2.1 31 = .ok (.i2d, 1) := by decide +kernel
theorem eX7_meanWaiting_32 : decode rX7_meanWaiting.2.1 32 = .ok (.aload_n 0, 1) := by decide +kernel
theorem eX7_meanWaiting_33 : decode rX7_meanWaiting.2.1 33 = .ok (.getfield 7, 3) := by decide +kernel
theorem eX7_meanWaiting_36 : decode rX7_meanWaiting.2.1 36 = .ok (.iconst 3, 1) := by decide +kernel
theorem eX7_meanWaiting_37 : decode rX7_meanWaiting.2.1 37 = .ok (.iaload, 1) := by decide +kernel
theorem eX7_meanWaiting_38 : decode rX7_meanWaiting.2.1 38 = .ok (.i2d, 1) := by decide +kernel
theorem eX7_meanWaiting_39 : decode rX7_meanWaiting.2.1 39 = .ok (.ddiv, 1) := by decide +kernel
theorem eX7_meanWaiting_40 : decode rX7_meanWaiting.2.1 40 = .ok (.goto 4, 3) := by decide +kernel
theorem eX7_meanWaiting_43 : decode rX7_meanWaiting.2.1 43 = .ok (.dconst 0, 1) := by decide +kernel
theorem eX7_meanWaiting_44 : decode rX7_meanWaiting.2.1 44 = .ok (.dreturn, 1) := by decide +kernel
theorem eX7_loadShare_0 : decode rX7_loadShare.2.1 0 = .ok (.aload_n 0, 1) := by decide +kernel
theorem eX7_loadShare_1 : decode rX7_loadShare.2.1 1 = .ok (.iload_n 1, 1) := by decide +kernel
theorem eX7_loadShare_2 : decode rX7_loadShare.2.1 2 = .ok (.invokestatic 119, 3) := by decide +kernel
theorem eX7_loadShare_5 : decode rX7_loadShare.2.1 5 = .ok (.ifCond .eq 7, 3) := by decide +kernel
theorem eX7_loadShare_8 : decode rX7_loadShare.2.1 8 = .ok (.iconst 0, 1) := by decide +kernel
theorem eX7_loadShare_9 : decode rX7_loadShare.2.1 9 = .ok (.goto 4, 3) := by decide +kernel
theorem eX7_loadShare_12 : decode rX7_loadShare.2.1 12 = .ok (.iconst 1, 1) := by decide +kernel
theorem eX7_loadShare_13 : decode rX7_loadShare.2.1 13 = .ok (.putfield 42, 3) := by decide +kernel
theorem eX7_loadShare_16 : decode rX7_loadShare.2.1 16 = .ok (.aload_n 0, 1) := by decide +kernel
theorem eX7_loadShare_17 : decode rX7_loadShare.2.1 17 = .ok (.getfield 42, 3) := by decide +kernel
theorem eX7_loadShare_20 : decode rX7_loadShare.2.1 20 = .ok (.ifCond .ne 23, 3) := by decide +kernel
theorem eX7_loadShare_23 : decode rX7_loadShare.2.1 23 = .ok (.aload_n 0, 1) := by decide +kernel
theorem eX7_loadShare_24 : decode rX7_loadShare.2.1 24 = .ok (.iload_n 1, 1) := by decide +kernel
theorem eX7_loadShare_25 : decode rX7_loadShare.2.1 25 = .ok (.invokevirtual 81, 3) := by decide +kernel
theorem eX7_loadShare_28 : decode rX7_loadShare.2.1 28 = .ok (.i2f, 1) := by decide +kernel
theorem eX7_loadShare_29 : decode rX7_loadShare.2.1 29 = .ok (.aload_n 0, 1) := by decide +kernel
theorem eX7_loadShare_30 : decode rX7_loadShare.2.1 30 = .ok (.getfield 7, 3) := by decide +kernel
theorem eX7_loadShare_33 : decode rX7_loadShare.2.1 33 = .ok (.bipush 15, 2) := by decide +kernel
theorem eX7_loadShare_35 : decode rX7_loadShare.2.1 35 = .ok (.iload_n 1, 1) := by decide +kernel
theorem eX7_loadShare_36 : decode rX7_loadShare.2.1 36 = .ok (.iadd, 1) := by decide +kernel
theorem eX7_loadShare_37 : decode rX7_loadShare.2.1 37 = .ok (.iaload, 1) := by decide +kernel
theorem eX7_loadShare_38 : decode rX7_loadShare.2.1 38 = .ok (.i2f, 1) := by decide +kernel
theorem eX7_loadShare_39 : decode rX7_loadShare.2.1 39 = .ok (.fdiv, 1) := by decide +kernel
theorem eX7_loadShare_40 : decode rX7_loadShare.2.1 40 = .ok (.goto 4, 3) := by decide +kernel
theorem eX7_loadShare_43 : decode rX7_loadShare.2.1 43 = .ok (.fconst 0, 1) := by decide +kernel
theorem eX7_loadShare_44 : decode rX7_loadShare.2.1 44 = .ok (.freturn, 1) := by decide +kernel
theorem eX7_isConsistent_0 : decode rX7_isConsistent.2.1 0 = .ok (.aload_n 0, 1) := by decide +kernel
theorem eX7_isConsistent_1 : decode rX7_isConsistent.2.1 1 = .ok (.iconst 0, 1) := by decide +kernel
theorem eX7_isConsistent_2 : decode rX7_isConsistent.2.1 2 = .ok (.putfield 42, 3) := by decide +kernel
theorem eX7_isConsistent_5 : decode rX7_isConsistent.2.1 5 = .ok (.iconst 1, 1) := by decide +kernel
theorem eX7_isConsistent_6 : decode rX7_isConsistent.2.1 6 = .ok (.ireturn, 1) := by decide +kernel
theorem eX7_writes_0 : decode rX7_writes.2.1 0 = .ok (.aload_n 0, 1) := by decide +kernel
theorem eX7_writes_1 : decode rX7_writes.2.1 1 = .ok (.getfield 36, 3) := by decide +kernel
theorem eX7_writes_4 : decode rX7_writes.2.1 4 = .ok (.aload_n 0, 1) := by decide +kernel
theorem eX7_writes_5 : decode rX7_writes.2.1 5 = .ok (.getfield 202, 3) := by decide +kernel
theorem eX7_writes_8 : decode rX7_writes.2.1 8 = .ok (.iload_n 1, 1) := by decide +kernel
theorem eX7_writes_9 : decode rX7_writes.2.1 9 = .ok (.i2c, 1) := by decide +kernel
theorem eX7_writes_10 : decode rX7_writes.2.1 10 = .ok (.castore, 1) := by decide +kernel
theorem eX7_writes_11 : decode rX7_writes.2.1 11 = .ok (.aload_n 0, 1) := by decide +kernel
theorem eX7_writes_12 : decode rX7_writes.2.1 12 = .ok (.dup, 1) := by decide +kernel
theorem eX7_writes_13 : decode rX7_writes.2.1 13 = .ok (.getfield 202, 3) := by decide +kernel
theorem eX7_writes_16 : decode rX7_writes.2.1 16 = .ok (.iconst 1, 1) := by decide +kernel
theorem eX7_writes_17 : decode rX7_writes.2.1 17 = .ok (.iadd, 1) := by decide +kernel
theorem eX7_writes_18 : decode rX7_writes.2.1 18 = .ok (.putfield 202, 3) := by decide +kernel
theorem eX7_writes_21 : decode rX7_writes.2.1 21 = .ok (.return_, 1) := by decide +kernel
theorem eX7_writesNumber_0 : decode rX7_writesNumber.2.1 0 = .ok (.bipush 100, 2) := by decide +kernel
theorem eX7_writesNumber_2 : decode rX7_writesNumber.2.1 2 = .ok (.istore_n 2, 1) := by decide +kernel
theorem eX7_writesNumber_3 : decode rX7_writesNumber.2.1 3 = .ok (.iload_n 2, 1) := by decide +kernel
theorem eX7_writesNumber_4 : decode rX7_writesNumber.2.1 4 = .ok (.iconst 1, 1) := by decide +kernel
theorem eX7_writesNumber_5 : decode rX7_writesNumber.2.1 5 = .ok (.if_icmp .le 16, 3) := by decide +kernel
theorem eX7_writesNumber_8 : decode rX7_writesNumber.2.1 8 = .ok (.iload_n 1, 1) := by decide +kernel
theorem eX7_writesNumber_9 : decode rX7_writesNumber.2.1 9 = .ok (.iload_n 2, 1) := by decide +kernel
theorem eX7_writesNumber_10 : decode rX7_writesNumber.2.1 10 = .ok (.if_icmp .ge 11, 3) := by decide +kernel
theorem eX7_writesNumber_13 : decode rX7_writesNumber.2.1 13 = .ok (.iload_n 2, 1) := by decide +kernel
theorem eX7_writesNumber_14 : decode rX7_writesNumber.2.1 14 = .ok (.bipush 10, 2) := by decide +kernel
theorem eX7_writesNumber_16 : decode rX7_writesNumber.2.1 16 = .ok (.idiv, 1) := by decide +kernel
theorem eX7_writesNumber_17 : decode rX7_writesNumber.2.1 17 = .ok (.istore_n 2, 1) := by decide +kernel
theorem eX7_writesNumber_18 : decode rX7_writesNumber.2.1 18 = .ok (.goto (-15), 3) := by decide +kernel
theorem eX7_writesNumber_21 : decode rX7_writesNumber.2.1 21 = .ok (.iload_n 2, 1) := by decide +kernel
theorem eX7_writesNumber_22 : decode rX7_writesNumber.2.1 22 = .ok (.ifCond .le 24, 3) := by decide +kernel
theorem eX7_writesNumber_25 : decode rX7_writesNumber.2.1 25 = .ok (.aload_n 0, 1) := by decide +kernel
theorem eX7_writesNumber_26 : decode rX7_writesNumber.2.1 26 = .ok (.bipush 48, 2) := by decide +kernel
theorem eX7_writesNumber_28 : decode rX7_writesNumber.2.1 28 = .ok (.iload_n 1, 1) := by decide +kernel
theorem eX7_writesNumber_29 : decode rX7_writesNumber.2.1 29 = .ok (.iload_n 2, 1) := by decide +kernel
theorem eX7_writesNumber_30 : decode rX7_writesNumber.2.1 30 = .ok (.idiv, 1) := by decide +kernel
theorem eX7_writesNumber_31 : decode rX7_writesNumber.2.1 31 = .ok (.bipush 10, 2) := by decide +kernel
theorem eX7_writesNumber_33 : decode rX7_writesNumber.2.1 33 = .ok (.irem, 1) := by decide +kernel
theorem eX7_writesNumber_34 : decode rX7_writesNumber.2.1 34 = .ok (.iadd, 1) := by decide +kernel
theorem eX7_writesNumber_35 : decode rX7_writesNumber.2.1 35 = .ok (.invokevirtual 205, 3) := by decide +kernel
theorem eX7_writesNumber_38 : decode rX7_writesNumber.2.1 38 = .ok (.iload_n 2, 1) := by decide +kernel
theorem eX7_writesNumber_39 : decode rX7_writesNumber.2.1 39 = .ok (.bipush 10, 2) := by decide +kernel
theorem eX7_writesNumber_41 : decode rX7_writesNumber.2.1 41 = .ok (.idiv, 1) := by decide +kernel
theorem eX7_writesNumber_42 : decode rX7_writesNumber.2.1 42 = .ok (.istore_n 2, 1) := by decide +kernel
theorem eX7_writesNumber_43 : decode rX7_writesNumber.2.1 43 = .ok (.goto (-22), 3) := by decide +kernel
theorem eX7_writesNumber_46 : decode rX7_writesNumber.2.1 46 = .ok (.return_, 1) := by decide +kernel
theorem eX7_renderCar_0 : decode rX7_renderCar.2.1 0 = .ok (.iload_n 1, 1) := by decide +kernel
theorem eX7_renderCar_1 : decode rX7_renderCar.2.1 1 = .ok (.invokestatic 119, 3) := by decide +kernel
theorem eX7_renderCar_4 : decode rX7_renderCar.2.1 4 = .ok (.ifCond .ne 9, 3) := by decide +kernel
theorem eX7_renderCar_7 : decode rX7_renderCar.2.1 7 = .ok (.aload_n 0, 1) := by decide +kernel
theorem eX7_renderCar_8 : decode rX7_renderCar.2.1 8 = .ok (.iconst 1, 1) := by decide +kernel
theorem eX7_renderCar_9 : decode rX7_renderCar.2.1 9 = .ok (.invokevirtual 90, 3) := by decide +kernel
theorem eX7_renderCar_12 : decode rX7_renderCar.2.1 12 = .ok (.ireturn, 1) := by decide +kernel
theorem eX7_renderCar_13 : decode rX7_renderCar.2.1 13 = .ok (.aload_n 0, 1) := by decide +kernel
theorem eX7_renderCar_14 : decode rX7_renderCar.2.1 14 = .ok (.iconst 0, 1) := by decide +kernel
theorem eX7_renderCar_15 : decode rX7_renderCar.2.1 15 = .ok (.putfield 202, 3) := by decide +kernel
theorem eX7_renderCar_18 : decode rX7_renderCar.2.1 18 = .ok (.aload_n 0, 1) := by decide +kernel
theorem eX7_renderCar_19 : decode rX7_renderCar.2.1 19 = .ok (.iload_n 1, 1) := by decide +kernel
theorem eX7_renderCar_20 : decode rX7_renderCar.2.1 20 = .ok (.invokevirtual 208, 3) := by decide +kernel
theorem eX7_renderCar_23 : decode rX7_renderCar.2.1 23 = .ok (.aload_n 0, 1) := by decide +kernel
theorem eX7_renderCar_24 : decode rX7_renderCar.2.1 24 = .ok (.bipush 64, 2) := by decide +kernel
theorem eX7_renderCar_26 : decode rX7_renderCar.2.1 26 = .ok (.invokevirtual 205, 3) := by decide +kernel
theorem eX7_renderCar_29 : decode rX7_renderCar.2.1 29 = .ok (.aload_n 0, 1) := by decide +kernel
theorem eX7_renderCar_30 : decode rX7_renderCar.2.1 30 = .ok (.aload_n 0, 1) := by decide +kernel
theorem eX7_renderCar_31 : decode rX7_renderCar.2.1 31 = .ok (.getfield 7, 3) := by decide +kernel
theorem eX7_renderCar_34 : decode rX7_renderCar.2.1 34 = .ok (.bipush 9, 2) := by decide +kernel
theorem eX7_renderCar_36 : decode rX7_renderCar.2.1 36 = .ok (.iload_n 1, 1) := by decide +kernel
theorem eX7_renderCar_37 : decode rX7_renderCar.2.1 37 = .ok (.iadd, 1) := by decide +kernel
theorem eX7_renderCar_38 : decode rX7_renderCar.2.1 38 = .ok (.iaload, 1) := by decide +kernel
theorem eX7_renderCar_39 : decode rX7_renderCar.2.1 39 = .ok (.invokevirtual 208, 3) := by decide +kernel
theorem eX7_renderCar_42 : decode rX7_renderCar.2.1 42 = .ok (.aload_n 0, 1) := by decide +kernel
theorem eX7_renderCar_43 : decode rX7_renderCar.2.1 43 = .ok (.aload_n 0, 1) := by decide +kernel
theorem eX7_renderCar_44 : decode rX7_renderCar.2.1 44 = .ok (.getfield 7, 3) := by decide +kernel
theorem eX7_renderCar_47 : decode rX7_renderCar.2.1 47 = .ok (.bipush 12, 2) := by decide +kernel
theorem eX7_renderCar_49 : decode rX7_renderCar.2.1 49 = .ok (.iload_n 1, 1) := by decide +kernel
theorem eX7_renderCar_50 : decode rX7_renderCar.2.1 50 = .ok (.iadd, 1) := by decide +kernel
theorem eX7_renderCar_51 : decode rX7_renderCar.2.1 51 = .ok (.iaload, 1) := by decide +kernel
theorem eX7_renderCar_52 : decode rX7_renderCar.2.1 52 = .ok (.ifCond .le 8, 3) := by decide +kernel
theorem eX7_renderCar_55 : decode rX7_renderCar.2.1 55 = .ok (.bipush 94, 2) := by decide +kernel
theorem eX7_renderCar_57 : decode rX7_renderCar.2.1 57 = .ok (.goto 22, 3) := by decide +kernel
theorem eX7_renderCar_60 : decode rX7_renderCar.2.1 60 = .ok (.aload_n 0, 1) := by decide +kernel
theorem eX7_renderCar_61 : decode rX7_renderCar.2.1 61 = .ok (.getfield 7, 3) := by decide +kernel
theorem eX7_renderCar_64 : decode rX7_renderCar.2.1 64 = .ok (.bipush 12, 2) := by decide +kernel
theorem eX7_renderCar_66 : decode rX7_renderCar.2.1 66 = .ok (.iload_n 1, 1) := by decide +kernel
theorem eX7_renderCar_67 : decode rX7_renderCar.2.1 67 = .ok (.iadd, 1) := by decide +kernel
theorem eX7_renderCar_68 : decode rX7_renderCar.2.1 68 = .ok (.iaload, 1) := by decide +kernel
theorem eX7_renderCar_69 : decode rX7_renderCar.2.1 69 = .ok (.ifCond .ge 8, 3) := by decide +kernel
theorem eX7_renderCar_72 : decode rX7_renderCar.2.1 72 = .ok (.bipush 118, 2) := by decide +kernel
theorem eX7_renderCar_74 : decode rX7_renderCar.2.1 74 = .ok (.goto 5, 3) := by decide +kernel
theorem eX7_renderCar_77 : decode rX7_renderCar.2.1 77 = .ok (.bipush 45, 2) := by decide +kernel
theorem eX7_renderCar_79 : decode rX7_renderCar.2.1 79 = .ok (.invokevirtual 205, 3) := by decide +kernel
theorem eX7_renderCar_82 : decode rX7_renderCar.2.1 82 = .ok (.aload_n 0, 1) := by decide +kernel
theorem eX7_renderCar_83 : decode rX7_renderCar.2.1 83 = .ok (.aload_n 0, 1) := by decide +kernel
theorem eX7_renderCar_84 : decode rX7_renderCar.2.1 84 = .ok (.iload_n 1, 1) := by decide +kernel
theorem eX7_renderCar_85 : decode rX7_renderCar.2.1 85 = .ok (.invokevirtual 74, 3) := by decide +kernel
theorem eX7_renderCar_88 : decode rX7_renderCar.2.1 88 = .ok (.invokevirtual 208, 3) := by decide +kernel
theorem eX7_renderCar_91 : decode rX7_renderCar.2.1 91 = .ok (.aload_n 0, 1) := by decide +kernel
theorem eX7_renderCar_92 : decode rX7_renderCar.2.1 92 = .ok (.bipush 47, 2) := by decide +kernel
theorem eX7_renderCar_94 : decode rX7_renderCar.2.1 94 = .ok (.invokevirtual 205, 3) := by decide +kernel
theorem eX7_renderCar_97 : decode rX7_renderCar.2.1 97 = .ok (.aload_n 0, 1) := by decide +kernel
theorem eX7_renderCar_98 : decode rX7_renderCar.2.1 98 = .ok (.aload_n 0, 1) := by decide +kernel
theorem eX7_renderCar_99 : decode rX7_renderCar.2.1 99 = .ok (.iload_n 1, 1) := by decide +kernel
theorem eX7_renderCar_100 : decode rX7_renderCar.2.1 100 = .ok (.invokevirtual 81, 3) := by decide +kernel
theorem eX7_renderCar_103 : decode rX7_renderCar.2.1 103 = .ok (.invokevirtual 208, 3) := by decide +kernel
theorem eX7_renderCar_106 : decode rX7_renderCar.2.1 106 = .ok (.aload_n 0, 1) := by decide +kernel
theorem eX7_renderCar_107 : decode rX7_renderCar.2.1 107 = .ok (.aload_n 0, 1) := by decide +kernel
theorem eX7_renderCar_108 : decode rX7_renderCar.2.1 108 = .ok (.getfield 7, 3) := by decide +kernel
theorem eX7_renderCar_111 : decode rX7_renderCar.2.1 111 = .ok (.bipush 18, 2) := by decide +kernel
theorem eX7_renderCar_113 : decode rX7_renderCar.2.1 113 = .ok (.iload_n 1, 1) := by decide +kernel
theorem eX7_renderCar_114 : decode rX7_renderCar.2.1 114 = .ok (.iadd, 1) := by decide +kernel
theorem eX7_renderCar_115 : decode rX7_renderCar.2.1 115 = .ok (.iaload, 1) := by decide +kernel
theorem eX7_renderCar_116 : decode rX7_renderCar.2.1 116 = .ok (.ifCond .le 8, 3) := by decide +kernel
theorem eX7_renderCar_119 : decode rX7_renderCar.2.1 119 = .ok (.bipush 111, 2) := by decide +kernel
theorem eX7_renderCar_121 : decode rX7_renderCar.2.1 121 = .ok (.goto 5, 3) := by decide +kernel
theorem eX7_renderCar_124 : decode rX7_renderCar.2.1 124 = .ok (.bipush 124, 2) := by decide +kernel
theorem eX7_renderCar_126 : decode rX7_renderCar.2.1 126 = .ok (.invokevirtual 205, 3) := by decide +kernel
theorem eX7_renderCar_129 : decode rX7_renderCar.2.1 129 = .ok (.aload_n 0, 1) := by decide +kernel
theorem eX7_renderCar_130 : decode rX7_renderCar.2.1 130 = .ok (.getfield 7, 3) := by decide +kernel
theorem eX7_renderCar_133 : decode rX7_renderCar.2.1 133 = .ok (.bipush 21, 2) := by decide +kernel
theorem eX7_renderCar_135 : decode rX7_renderCar.2.1 135 = .ok (.iload_n 1, 1) := by decide +kernel
theorem eX7_renderCar_136 : decode rX7_renderCar.2.1 136 = .ok (.iadd, 1) := by decide +kernel
theorem eX7_renderCar_137 : decode rX7_renderCar.2.1 137 = .ok (.iaload, 1) := by decide +kernel
theorem eX7_renderCar_138 : decode rX7_renderCar.2.1 138 = .ok (.iconst 1, 1) := by decide +kernel
theorem eX7_renderCar_139 : decode rX7_renderCar.2.1 139 = .ok (.if_icmp .ne 9, 3) := by decide +kernel
theorem eX7_renderCar_142 : decode rX7_renderCar.2.1 142 = .ok (.aload_n 0, 1) := by decide +kernel
theorem eX7_renderCar_143 : decode rX7_renderCar.2.1 143 = .ok (.bipush 120, 2) := by decide +kernel
theorem eX7_renderCar_145 : decode rX7_renderCar.2.1 145 = .ok (.invokevirtual 205, 3) := by decide +kernel
theorem eX7_renderCar_148 : decode rX7_renderCar.2.1 148 = .ok (.aload_n 0, 1) := by decide +kernel
theorem eX7_renderCar_149 : decode rX7_renderCar.2.1 149 = .ok (.aload_n 0, 1) := by decide +kernel
theorem eX7_renderCar_150 : decode rX7_renderCar.2.1 150 = .ok (.getfield 202, 3) := by decide +kernel
theorem eX7_renderCar_153 : decode rX7_renderCar.2.1 153 = .ok (.invokevirtual 97, 3) := by decide +kernel
theorem eX7_renderCar_156 : decode rX7_renderCar.2.1 156 = .ok (.ireturn, 1) := by decide +kernel
theorem eX7_renderFloors_0 : decode rX7_renderFloors.2.1 0 = .ok (.aload_n 0, 1) := by decide +kernel
theorem eX7_renderFloors_1 : decode rX7_renderFloors.2.1 1 = .ok (.iconst 0, 1) := by decide +kernel
theorem eX7_renderFloors_2 : decode rX7_renderFloors.2.1 2 = .ok (.putfield 202, 3) := by decide +kernel
theorem eX7_renderFloors_5 : decode rX7_renderFloors.2.1 5 = .ok (.iconst 0, 1) := by decide +kernel
theorem eX7_renderFloors_6 : decode rX7_renderFloors.2.1 6 = .ok (.istore_n 1, 1) := by decide +kernel
theorem eX7_renderFloors_7 : decode rX7_renderFloors.2.1 7 = .ok (.iload_n 1, 1) := by decide +kernel
theorem eX7_renderFloors_8 : decode rX7_renderFloors.2.1 8 = .ok (.bipush 10, 2) := by decide +kernel
theorem eX7_renderFloors_10 : decode rX7_renderFloors.2.1 10 = .ok (.if_icmp .ge 28, 3) := by decide +kernel
theorem eX7_renderFloors_13 : decode rX7_renderFloors.2.1 13 = .ok (.iload_n 1, 1) := by decide +kernel
theorem eX7_renderFloors_14 : decode rX7_renderFloors.2.1 14 = .ok (.ifCond .le 9, 3) := by decide +kernel
theorem eX7_renderFloors_17 : decode rX7_renderFloors.2.1 17 = .ok (.aload_n 0, 1) := by decide +kernel
theorem eX7_renderFloors_18 : decode rX7_renderFloors.2.1 18 = .ok (.bipush 44, 2) := by decide +kernel
theorem eX7_renderFloors_20 : decode rX7_renderFloors.2.1 20 = .ok (.invokevirtual 205, 3) := by decide +kernel
theorem eX7_renderFloors_23 : decode rX7_renderFloors.2.1 23 = .ok (.aload_n 0, 1) := by decide +kernel
theorem eX7_renderFloors_24 : decode rX7_renderFloors.2.1 24 = .ok (.aload_n 0, 1) := by decide +kernel
theorem eX7_renderFloors_25 : decode rX7_renderFloors.2.1 25 = .ok (.iload_n 1, 1) := by decide +kernel
theorem eX7_renderFloors_26 : decode rX7_renderFloors.2.1 26 = .ok (.invokevirtual 171, 3) := by decide +kernel
theorem eX7_renderFloors_29 : decode rX7_renderFloors.2.1 29 = .ok (.invokevirtual 208, 3) := by decide +kernel
theorem eX7_renderFloors_32 : decode rX7_renderFloors.2.1 32 = .ok (.iinc 1 1, 3) := by decide +kernel
theorem eX7_renderFloors_35 : decode rX7_renderFloors.2.1 35 = .ok (.goto (-28), 3) := by decide +kernel
theorem eX7_renderFloors_38 : decode rX7_renderFloors.2.1 38 = .ok (.aload_n 0, 1) := by decide +kernel
theorem eX7_renderFloors_39 : decode rX7_renderFloors.2.1 39 = .ok (.aload_n 0, 1) := by decide +kernel
theorem eX7_renderFloors_40 : decode rX7_renderFloors.2.1 40 = .ok (.getfield 202, 3) := by decide +kernel
theorem eX7_renderFloors_43 : decode rX7_renderFloors.2.1 43 = .ok (.invokevirtual 97, 3) := by decide +kernel
theorem eX7_renderFloors_46 : decode rX7_renderFloors.2.1 46 = .ok (.ireturn, 1) := by decide +kernel
theorem eX7_outputAt_0 : decode rX7_outputAt.2.1 0 = .ok (.aload_n 0, 1) := by decide +kernel
theorem eX7_outputAt_1 : decode rX7_outputAt.2.1 1 = .ok (.iload_n 1, 1) := by decide +kernel
theorem eX7_outputAt_2 : decode rX7_outputAt.2.1 2 = .ok (.iconst 0, 1) := by decide +kernel
theorem eX7_outputAt_3 : decode rX7_outputAt.2.1 3 = .ok (.aload_n 0, 1) := by decide +kernel
theorem eX7_outputAt_4 : decode rX7_outputAt.2.1 4 = .ok (.getfield 202, 3) := by decide +kernel
theorem eX7_outputAt_7 : decode rX7_outputAt.2.1 7 = .ok (.iconst 1, 1) := by decide +kernel
theorem eX7_outputAt_8 : decode rX7_outputAt.2.1 8 = .ok (.isub, 1) := by decide +kernel
theorem eX7_outputAt_9 : decode rX7_outputAt.2.1 9 = .ok (.invokestatic 52, 3) := by decide +kernel
theorem eX7_outputAt_12 : decode rX7_outputAt.2.1 12 = .ok (.ifCond .eq 7, 3) := by decide +kernel
theorem eX7_outputAt_15 : decode rX7_outputAt.2.1 15 = .ok (.iconst 0, 1) := by decide +kernel
theorem eX7_outputAt_16 : decode rX7_outputAt.2.1 16 = .ok (.goto 4, 3) := by decide +kernel
theorem eX7_outputAt_19 : decode rX7_outputAt.2.1 19 = .ok (.iconst 1, 1) := by decide +kernel
theorem eX7_outputAt_20 : decode rX7_outputAt.2.1 20 = .ok (.putfield 42, 3) := by decide +kernel
theorem eX7_outputAt_23 : decode rX7_outputAt.2.1 23 = .ok (.aload_n 0, 1) := by decide +kernel
theorem eX7_outputAt_24 : decode rX7_outputAt.2.1 24 = .ok (.getfield 42, 3) := by decide +kernel
theorem eX7_outputAt_27 : decode rX7_outputAt.2.1 27 = .ok (.ifCond .ne 12, 3) := by decide +kernel
theorem eX7_outputAt_30 : decode rX7_outputAt.2.1 30 = .ok (.aload_n 0, 1) := by decide +kernel
theorem eX7_outputAt_31 : decode rX7_outputAt.2.1 31 = .ok (.getfield 36, 3) := by decide +kernel
theorem eX7_outputAt_34 : decode rX7_outputAt.2.1 34 = .ok (.iload_n 1, 1) := by decide +kernel
theorem eX7_outputAt_35 : decode rX7_outputAt.2.1 35 = .ok (.caload, 1) := by decide +kernel
theorem eX7_outputAt_36 : decode rX7_outputAt.2.1 36 = .ok (.goto 4, 3) := by decide +kernel
theorem eX7_outputAt_39 : decode rX7_outputAt.2.1 39 = .ok (.iconst 0, 1) := by decide +kernel
theorem eX7_outputAt_40 : decode rX7_outputAt.2.1 40 = .ok (.ireturn, 1) := by decide +kernel
theorem eX7_type_0 : decode rX7_type.2.1 0 = .ok (.iload_n 1, 1) := by decide +kernel
theorem eX7_type_1 : decode rX7_type.2.1 1 = .ok (.bipush 32, 2) := by decide +kernel
theorem eX7_type_3 : decode rX7_type.2.1 3 = .ok (.bipush 126, 2) := by decide +kernel
theorem eX7_type_5 : decode rX7_type.2.1 5 = .ok (.invokestatic 52, 3) := by decide +kernel
theorem eX7_type_8 : decode rX7_type.2.1 8 = .ok (.ifCond .ne 9, 3) := by decide +kernel
theorem eX7_type_11 : decode rX7_type.2.1 11 = .ok (.aload_n 0, 1) := by decide +kernel
theorem eX7_type_12 : decode rX7_type.2.1 12 = .ok (.iconst 1, 1) := by decide +kernel
theorem eX7_type_13 : decode rX7_type.2.1 13 = .ok (.invokevirtual 90, 3) := by decide +kernel
theorem eX7_type_16 : decode rX7_type.2.1 16 = .ok (.ireturn, 1) := by decide +kernel
theorem eX7_type_17 : decode rX7_type.2.1 17 = .ok (.aload_n 0, 1) := by decide +kernel
theorem eX7_type_18 : decode rX7_type.2.1 18 = .ok (.getfield 211, 3) := by decide +kernel
theorem eX7_type_21 : decode rX7_type.2.1 21 = .ok (.bipush 60, 2) := by decide +kernel
theorem eX7_type_23 : decode rX7_type.2.1 23 = .ok (.if_icmp .ne 9, 3) := by decide +kernel
theorem eX7_type_26 : decode rX7_type.2.1 26 = .ok (.aload_n 0, 1) := by decide +kernel
theorem eX7_type_27 : decode rX7_type.2.1 27 = .ok (.iconst 2, 1) := by decide +kernel
theorem eX7_type_28 : decode rX7_type.2.1 28 = .ok (.invokevirtual 90, 3) := by decide +kernel
theorem eX7_type_31 : decode rX7_type.2.1 31 = .ok (.ireturn, 1) := by decide +kernel
theorem eX7_type_32 : decode rX7_type.2.1 32 = .ok (.aload_n 0, 1) := by decide +kernel
theorem eX7_type_33 : decode rX7_type.2.1 33 = .ok (.getfield 25, 3) := by decide +kernel
theorem eX7_type_36 : decode rX7_type.2.1 36 = .ok (.aload_n 0, 1) := by decide +kernel
theorem eX7_type_37 : decode rX7_type.2.1 37 = .ok (.getfield 211, 3) := by decide +kernel
theorem eX7_type_40 : decode rX7_type.2.1 40 = .ok (.iload_n 1, 1) := by decide +kernel
theorem eX7_type_41 : decode rX7_type.2.1 41 = .ok (.castore, 1) := by decide +kernel
theorem eX7_type_42 : decode rX7_type.2.1 42 = .ok (.aload_n 0, 1) := by decide +kernel
theorem eX7_type_43 : decode rX7_type.2.1 43 = .ok (.dup, 1) := by decide +kernel
theorem eX7_type_44 : decode rX7_type.2.1 44 = .ok (.getfield 211, 3) := by decide +kernel
theorem eX7_type_47 : decode rX7_type.2.1 47 = .ok (.iconst 1, 1) := by decide +kernel
theorem eX7_type_48 : decode rX7_type.2.1 48 = .ok (.iadd, 1) := by decide +kernel
theorem eX7_type_49 : decode rX7_type.2.1 49 = .ok (.putfield 211, 3) := by decide +kernel
theorem eX7_type_52 : decode rX7_type.2.1 52 = .ok (.aload_n 0, 1) := by decide +kernel
theorem eX7_type_53 : decode rX7_type.2.1 53 = .ok (.aload_n 0, 1) := by decide +kernel
theorem eX7_type_54 : decode rX7_type.2.1 54 = .ok (.getfield 211, 3) := by decide +kernel
theorem eX7_type_57 : decode rX7_type.2.1 57 = .ok (.invokevirtual 97, 3) := by decide +kernel
theorem eX7_type_60 : decode rX7_type.2.1 60 = .ok (.ireturn, 1) := by decide +kernel
theorem eX7_here_0 : decode rX7_here.2.1 0 = .ok (.aload_n 0, 1) := by decide +kernel
theorem eX7_here_1 : decode rX7_here.2.1 1 = .ok (.getfield 214, 3) := by decide +kernel
theorem eX7_here_4 : decode rX7_here.2.1 4 = .ok (.aload_n 0, 1) := by decide +kernel
theorem eX7_here_5 : decode rX7_here.2.1 5 = .ok (.getfield 211, 3) := by decide +kernel
theorem eX7_here_8 : decode rX7_here.2.1 8 = .ok (.if_icmp .ge 15, 3) := by decide +kernel
theorem eX7_here_11 : decode rX7_here.2.1 11 = .ok (.aload_n 0, 1) := by decide +kernel
theorem eX7_here_12 : decode rX7_here.2.1 12 = .ok (.getfield 25, 3) := by decide +kernel
theorem eX7_here_15 : decode rX7_here.2.1 15 = .ok (.aload_n 0, 1) := by decide +kernel
theorem eX7_here_16 : decode rX7_here.2.1 16 = .ok (.getfield 214, 3) := by decide +kernel
theorem eX7_here_19 : decode rX7_here.2.1 19 = .ok (.caload, 1) := by decide +kernel
theorem eX7_here_20 : decode rX7_here.2.1 20 = .ok (.goto 4, 3) := by decide +kernel
theorem eX7_here_23 : decode rX7_here.2.1 23 = .ok (.iconst (-1), 1) := by decide +kernel
theorem eX7_here_24 : decode rX7_here.2.1 24 = .ok (.ireturn, 1) := by decide +kernel
theorem eX7_needs_0 : decode rX7_needs.2.1 0 = .ok (.aload_n 0, 1) := by decide +kernel
theorem eX7_needs_1 : decode rX7_needs.2.1 1 = .ok (.aload_n 0, 1) := by decide +kernel
theorem eX7_needs_2 : decode rX7_needs.2.1 2 = .ok (.getfield 217, 3) := by decide +kernel
theorem eX7_needs_5 : decode rX7_needs.2.1 5 = .ok (.ifCond .ne 11, 3) := by decide +kernel
theorem eX7_needs_8 : decode rX7_needs.2.1 8 = .ok (.aload_n 0, 1) := by decide +kernel
theorem eX7_needs_9 : decode rX7_needs.2.1 9 = .ok (.invokevirtual 221, 3) := by decide +kernel
theorem eX7_needs_12 : decode rX7_needs.2.1 12 = .ok (.iload_n 1, 1) := by decide +kernel
theorem eX7_needs_13 : decode rX7_needs.2.1 13 = .ok (.if_icmp .eq 7, 3) := by decide +kernel
theorem eX7_needs_16 : decode rX7_needs.2.1 16 = .ok (.iconst 1, 1) := by decide +kernel
theorem eX7_needs_17 : decode rX7_needs.2.1 17 = .ok (.goto 4, 3) := by decide +kernel
theorem eX7_needs_20 : decode rX7_needs.2.1 20 = .ok (.iconst 0, 1) := by decide +kernel
theorem eX7_needs_21 : decode rX7_needs.2.1 21 = .ok (.putfield 217, 3) := by decide +kernel
theorem eX7_needs_24 : decode rX7_needs.2.1 24 = .ok (.aload_n 0, 1) := by decide +kernel
theorem eX7_needs_25 : decode rX7_needs.2.1 25 = .ok (.dup, 1) := by decide +kernel
theorem eX7_needs_26 : decode rX7_needs.2.1 26 = .ok (.getfield 214, 3) := by decide +kernel
theorem eX7_needs_29 : decode rX7_needs.2.1 29 = .ok (.aload_n 0, 1) := by decide +kernel
theorem eX7_needs_30 : decode rX7_needs.2.1 30 = .ok (.getfield 217, 3) := by decide +kernel
theorem eX7_needs_33 : decode rX7_needs.2.1 33 = .ok (.ifCond .eq 7, 3) := by decide +kernel
theorem eX7_needs_36 : decode rX7_needs.2.1 36 = .ok (.iconst 0, 1) := by decide +kernel
theorem eX7_needs_37 : decode rX7_needs.2.1 37 = .ok (.goto 4, 3) := by decide +kernel
theorem eX7_needs_40 : decode rX7_needs.2.1 40 = .ok (.iconst 1, 1) := by decide +kernel
theorem eX7_needs_41 : decode rX7_needs.2.1 41 = .ok (.iadd, 1) := by decide +kernel
theorem eX7_needs_42 : decode rX7_needs.2.1 42 = .ok (.putfield 214, 3) := by decide +kernel
theorem eX7_needs_45 : decode rX7_needs.2.1 45 = .ok (.return_, 1) := by decide +kernel
theorem eX7_needsThree_0 : decode rX7_needsThree.2.1 0 = .ok (.aload_n 0, 1) := by decide +kernel
theorem eX7_needsThree_1 : decode rX7_needsThree.2.1 1 = .ok (.iload_n 1, 1) := by decide +kernel
theorem eX7_needsThree_2 : decode rX7_needsThree.2.1 2 = .ok (.invokevirtual 225, 3) := by decide +kernel
theorem eX7_needsThree_5 : decode rX7_needsThree.2.1 5 = .ok (.aload_n 0, 1) := by decide +kernel
theorem eX7_needsThree_6 : decode rX7_needsThree.2.1 6 = .ok (.iload_n 2, 1) := by decide +kernel
theorem eX7_needsThree_7 : decode rX7_needsThree.2.1 7 = .ok (.invokevirtual 225, 3) := by decide +kernel
theorem eX7_needsThree_10 : decode rX7_needsThree.2.1 10 = .ok (.aload_n 0, 1) := by decide +kernel
theorem eX7_needsThree_11 : decode rX7_needsThree.2.1 11 = .ok (.iload_n 3, 1) := by decide +kernel
theorem eX7_needsThree_12 : decode rX7_needsThree.2.1 12 = .ok (.invokevirtual 225, 3) := by decide +kernel
theorem eX7_needsThree_15 : decode rX7_needsThree.2.1 15 = .ok (.return_, 1) := by decide +kernel
theorem eX7_digits_0 : decode rX7_digits.2.1 0 = .ok (.aload_n 0, 1) := by decide +kernel
theorem eX7_digits_1 : decode rX7_digits.2.1 1 = .ok (.bipush 32, 2) := by decide +kernel
theorem eX7_digits_3 : decode rX7_digits.2.1 3 = .ok (.invokevirtual 225, 3) := by decide +kernel
theorem eX7_digits_6 : decode rX7_digits.2.1 6 = .ok (.aload_n 0, 1) := by decide +kernel
theorem eX7_digits_7 : decode rX7_digits.2.1 7 = .ok (.aload_n 0, 1) := by decide +kernel
theorem eX7_digits_8 : decode rX7_digits.2.1 8 = .ok (.getfield 217, 3) := by decide +kernel
theorem eX7_digits_11 : decode rX7_digits.2.1 11 = .ok (.ifCond .ne 17, 3) := by decide +kernel
theorem eX7_digits_14 : decode rX7_digits.2.1 14 = .ok (.aload_n 0, 1) := by decide +kernel
theorem eX7_digits_15 : decode rX7_digits.2.1 15 = .ok (.invokevirtual 221, 3) := by decide +kernel
theorem eX7_digits_18 : decode rX7_digits.2.1 18 = .ok (.bipush 48, 2) := by decide +kernel
theorem eX7_digits_20 : decode rX7_digits.2.1 20 = .ok (.bipush 57, 2) := by decide +kernel
theorem eX7_digits_22 : decode rX7_digits.2.1 22 = .ok (.invokestatic 52, 3) := by decide +kernel
theorem eX7_digits_25 : decode rX7_digits.2.1 25 = .ok (.ifCond .ne 7, 3) := by decide +kernel
theorem eX7_digits_28 : decode rX7_digits.2.1 28 = .ok (.iconst 1, 1) := by decide +kernel
theorem eX7_digits_29 : decode rX7_digits.2.1 29 = .ok (.goto 4, 3) := by decide +kernel
theorem eX7_digits_32 : decode rX7_digits.2.1 32 = .ok (.iconst 0, 1) := by decide +kernel
theorem eX7_digits_33 : decode rX7_digits.2.1 33 = .ok (.putfield 217, 3) := by decide +kernel
theorem eX7_digits_36 : decode rX7_digits.2.1 36 = .ok (.iconst 0, 1) := by decide +kernel
theorem eX7_digits_37 : decode rX7_digits.2.1 37 = .ok (.istore_n 2, 1) := by decide +kernel
theorem eX7_digits_38 : decode rX7_digits.2.1 38 = .ok (.iconst 0, 1) := by decide +kernel
theorem eX7_digits_39 : decode rX7_digits.2.1 39 = .ok (.istore_n 3, 1) := by decide +kernel
theorem eX7_digits_40 : decode rX7_digits.2.1 40 = .ok (.aload_n 0, 1) := by decide +kernel
theorem eX7_digits_41 : decode rX7_digits.2.1 41 = .ok (.getfield 217, 3) := by decide +kernel
theorem eX7_digits_44 : decode rX7_digits.2.1 44 = .ok (.ifCond .ne 51, 3) := by decide +kernel
theorem eX7_digits_47 : decode rX7_digits.2.1 47 = .ok (.iload_n 3, 1) := by decide +kernel
theorem eX7_digits_48 : decode rX7_digits.2.1 48 = .ok (.iload_n 1, 1) := by decide +kernel
theorem eX7_digits_49 : decode rX7_digits.2.1 49 = .ok (.if_icmp .ge 46, 3) := by decide +kernel
theorem eX7_digits_52 : decode rX7_digits.2.1 52 = .ok (.aload_n 0, 1) := by decide +kernel
theorem eX7_digits_53 : decode rX7_digits.2.1 53 = .ok (.invokevirtual 221, 3) := by decide +kernel
theorem eX7_digits_56 : decode rX7_digits.2.1 56 = .ok (.bipush 48, 2) := by decide +kernel
theorem eX7_digits_58 : decode rX7_digits.2.1 58 = .ok (.bipush 57, 2) := by decide +kernel
theorem eX7_digits_60 : decode rX7_digits.2.1 60 = .ok (.invokestatic 52, 3) := by decide +kernel
theorem eX7_digits_63 : decode rX7_digits.2.1 63 = .ok (.ifCond .eq 32, 3) := by decide +kernel
theorem eX7_digits_66 : decode rX7_digits.2.1 66 = .ok (.bipush 10, 2) := by decide +kernel
theorem eX7_digits_68 : decode rX7_digits.2.1 68 = .ok (.iload_n 2, 1) := by decide +kernel
theorem eX7_digits_69 : decode rX7_digits.2.1 69 = .ok (.imul, 1) := by decide +kernel
theorem eX7_digits_70 : decode rX7_digits.2.1 70 = .ok (.aload_n 0, 1) := by decide +kernel
theorem eX7_digits_71 : decode rX7_digits.2.1 71 = .ok (.invokevirtual 221, 3) := by decide +kernel
theorem eX7_digits_74 : decode rX7_digits.2.1 74 = .ok (.iadd, 1) := by decide +kernel
theorem eX7_digits_75 : decode rX7_digits.2.1 75 = .ok (.bipush 48, 2) := by decide +kernel
theorem eX7_digits_77 : decode rX7_digits.2.1 77 = .ok (.isub, 1) := by decide +kernel
theorem eX7_digits_78 : decode rX7_digits.2.1 78 = .ok (.istore_n 2, 1) := by decide +kernel
theorem eX7_digits_79 : decode rX7_digits.2.1 79 = .ok (.aload_n 0, 1) := by decide +kernel
theorem eX7_digits_80 : decode rX7_digits.2.1 80 = .ok (.dup, 1) := by decide +kernel
theorem eX7_digits_81 : decode rX7_digits.2.1 81 = .ok (.getfield 214, 3) := by decide +kernel
theorem eX7_digits_84 : decode rX7_digits.2.1 84 = .ok (.iconst 1, 1) := by decide +kernel
theorem eX7_digits_85 : decode rX7_digits.2.1 85 = .ok (.iadd, 1) := by decide +kernel
theorem eX7_digits_86 : decode rX7_digits.2.1 86 = .ok (.putfield 214, 3) := by decide +kernel
theorem eX7_digits_89 : decode rX7_digits.2.1 89 = .ok (.iinc 3 1, 3) := by decide +kernel
theorem eX7_digits_92 : decode rX7_digits.2.1 92 = .ok (.goto (-52), 3) := by decide +kernel
theorem eX7_digits_95 : decode rX7_digits.2.1 95 = .ok (.iload_n 2, 1) := by decide +kernel
theorem eX7_digits_96 : decode rX7_digits.2.1 96 = .ok (.ireturn, 1) := by decide +kernel
theorem eX7_parsesS_0 : decode rX7_parsesS.2.1 0 = .ok (.aload_n 0, 1) := by decide +kernel
theorem eX7_parsesS_1 : decode rX7_parsesS.2.1 1 = .ok (.bipush 116, 2) := by decide +kernel
theorem eX7_parsesS_3 : decode rX7_parsesS.2.1 3 = .ok (.invokevirtual 225, 3) := by decide +kernel
theorem eX7_parsesS_6 : decode rX7_parsesS.2.1 6 = .ok (.aload_n 0, 1) := by decide +kernel
theorem eX7_parsesS_7 : decode rX7_parsesS.2.1 7 = .ok (.getfield 217, 3) := by decide +kernel
theorem eX7_parsesS_10 : decode rX7_parsesS.2.1 10 = .ok (.ifCond .eq 7, 3) := by decide +kernel
theorem eX7_parsesS_13 : decode rX7_parsesS.2.1 13 = .ok (.iconst (-1), 1) := by decide +kernel
theorem eX7_parsesS_14 : decode rX7_parsesS.2.1 14 = .ok (.goto 7, 3) := by decide +kernel
theorem eX7_parsesS_17 : decode rX7_parsesS.2.1 17 = .ok (.aload_n 0, 1) := by decide +kernel
theorem eX7_parsesS_18 : decode rX7_parsesS.2.1 18 = .ok (.invokevirtual 221, 3) := by decide +kernel
theorem eX7_parsesS_21 : decode rX7_parsesS.2.1 21 = .ok (.istore_n 2, 1) := by decide +kernel
theorem eX7_parsesS_22 : decode rX7_parsesS.2.1 22 = .ok (.iload_n 2, 1) := by decide +kernel
theorem eX7_parsesS_23 : decode rX7_parsesS.2.1 23 = .ok (.bipush 111, 2) := by decide +kernel
theorem eX7_parsesS_25 : decode rX7_parsesS.2.1 25 = .ok (.if_icmp .ne 39, 3) := by decide +kernel
theorem eX7_parsesS_28 : decode rX7_parsesS.2.1 28 = .ok (.aload_n 0, 1) := by decide +kernel
theorem eX7_parsesS_29 : decode rX7_parsesS.2.1 29 = .ok (.getfield 39, 3) := by decide +kernel
theorem eX7_parsesS_32 : decode rX7_parsesS.2.1 32 = .ok (.iload_n 1, 1) := by decide +kernel
theorem eX7_parsesS_33 : decode rX7_parsesS.2.1 33 = .ok (.bipush 111, 2) := by decide +kernel
theorem eX7_parsesS_35 : decode rX7_parsesS.2.1 35 = .ok (.iastore, 1) := by decide +kernel
theorem eX7_parsesS_36 : decode rX7_parsesS.2.1 36 = .ok (.aload_n 0, 1) := by decide +kernel
theorem eX7_parsesS_37 : decode rX7_parsesS.2.1 37 = .ok (.bipush 111, 2) := by decide +kernel
theorem eX7_parsesS_39 : decode rX7_parsesS.2.1 39 = .ok (.invokevirtual 225, 3) := by decide +kernel
theorem eX7_parsesS_42 : decode rX7_parsesS.2.1 42 = .ok (.aload_n 0, 1) := by decide +kernel
theorem eX7_parsesS_43 : decode rX7_parsesS.2.1 43 = .ok (.bipush 112, 2) := by decide +kernel
theorem eX7_parsesS_45 : decode rX7_parsesS.2.1 45 = .ok (.invokevirtual 225, 3) := by decide +kernel
theorem eX7_parsesS_48 : decode rX7_parsesS.2.1 48 = .ok (.aload_n 0, 1) := by decide +kernel
theorem eX7_parsesS_49 : decode rX7_parsesS.2.1 49 = .ok (.getfield 39, 3) := by decide +kernel
theorem eX7_parsesS_52 : decode rX7_parsesS.2.1 52 = .ok (.iload_n 1, 1) := by decide +kernel
theorem eX7_parsesS_53 : decode rX7_parsesS.2.1 53 = .ok (.iconst 1, 1) := by decide +kernel
theorem eX7_parsesS_54 : decode rX7_parsesS.2.1 54 = .ok (.iadd, 1) := by decide +kernel
theorem eX7_parsesS_55 : decode rX7_parsesS.2.1 55 = .ok (.aload_n 0, 1) := by decide +kernel
theorem eX7_parsesS_56 : decode rX7_parsesS.2.1 56 = .ok (.iconst 1, 1) := by decide +kernel
theorem eX7_parsesS_57 : decode rX7_parsesS.2.1 57 = .ok (.invokevirtual 228, 3) := by decide +kernel
theorem eX7_parsesS_60 : decode rX7_parsesS.2.1 60 = .ok (.iastore, 1) := by decide +kernel
theorem eX7_parsesS_61 : decode rX7_parsesS.2.1 61 = .ok (.goto 88, 3) := by decide +kernel
theorem eX7_parsesS_64 : decode rX7_parsesS.2.1 64 = .ok (.iload_n 2, 1) := by decide +kernel
theorem eX7_parsesS_65 : decode rX7_parsesS.2.1 65 = .ok (.bipush 97, 2) := by decide +kernel
theorem eX7_parsesS_67 : decode rX7_parsesS.2.1 67 = .ok (.if_icmp .ne 37, 3) := by decide +kernel
theorem eX7_parsesS_70 : decode rX7_parsesS.2.1 70 = .ok (.aload_n 0, 1) := by decide +kernel
theorem eX7_parsesS_71 : decode rX7_parsesS.2.1 71 = .ok (.getfield 39, 3) := by decide +kernel
theorem eX7_parsesS_74 : decode rX7_parsesS.2.1 74 = .ok (.iload_n 1, 1) := by decide +kernel
theorem eX7_parsesS_75 : decode rX7_parsesS.2.1 75 = .ok (.bipush 97, 2) := by decide +kernel
theorem eX7_parsesS_77 : decode rX7_parsesS.2.1 77 = .ok (.iastore, 1) := by decide +kernel
theorem eX7_parsesS_78 : decode rX7_parsesS.2.1 78 = .ok (.aload_n 0, 1) := by decide +kernel
theorem eX7_parsesS_79 : decode rX7_parsesS.2.1 79 = .ok (.bipush 97, 2) := by decide +kernel
theorem eX7_parsesS_81 : decode rX7_parsesS.2.1 81 = .ok (.bipush 114, 2) := by decide +kernel
theorem eX7_parsesS_83 : decode rX7_parsesS.2.1 83 = .ok (.bipush 116, 2) := by decide +kernel
theorem eX7_parsesS_85 : decode rX7_parsesS.2.1 85 = .ok (.invokevirtual 231, 3) := by decide +kernel
theorem eX7_parsesS_88 : decode rX7_parsesS.2.1 88 = .ok (.aload_n 0, 1) := by decide +kernel
theorem eX7_parsesS_89 : decode rX7_parsesS.2.1 89 = .ok (.getfield 39, 3) := by decide +kernel
theorem eX7_parsesS_92 : decode rX7_parsesS.2.1 92 = .ok (.iload_n 1, 1) := by decide +kernel
theorem eX7_parsesS_93 : decode rX7_parsesS.2.1 93 = .ok (.iconst 1, 1) := by decide +kernel
theorem eX7_parsesS_94 : decode rX7_parsesS.2.1 94 = .ok (.iadd, 1) := by decide +kernel
theorem eX7_parsesS_95 : decode rX7_parsesS.2.1 95 = .ok (.aload_n 0, 1) := by decide +kernel
theorem eX7_parsesS_96 : decode rX7_parsesS.2.1 96 = .ok (.iconst 1, 1) := by decide +kernel
theorem eX7_parsesS_97 : decode rX7_parsesS.2.1 97 = .ok (.invokevirtual 228, 3) := by decide +kernel
theorem eX7_parsesS_100 : decode rX7_parsesS.2.1 100 = .ok (.iastore, 1) := by decide +kernel
theorem eX7_parsesS_101 : decode rX7_parsesS.2.1 101 = .ok (.goto 48, 3) := by decide +kernel
theorem eX7_parsesS_104 : decode rX7_parsesS.2.1 104 = .ok (.aload_n 0, 1) := by decide +kernel
theorem eX7_parsesS_105 : decode rX7_parsesS.2.1 105 = .ok (.bipush 101, 2) := by decide +kernel
theorem eX7_parsesS_107 : decode rX7_parsesS.2.1 107 = .ok (.invokevirtual 225, 3) := by decide +kernel
theorem eX7_parsesS_110 : decode rX7_parsesS.2.1 110 = .ok (.aload_n 0, 1) := by decide +kernel
theorem eX7_parsesS_111 : decode rX7_parsesS.2.1 111 = .ok (.bipush 112, 2) := by decide +kernel
theorem eX7_parsesS_113 : decode rX7_parsesS.2.1 113 = .ok (.invokevirtual 225, 3) := by decide +kernel
theorem eX7_parsesS_116 : decode rX7_parsesS.2.1 116 = .ok (.aload_n 0, 1) := by decide +kernel
theorem eX7_parsesS_117 : decode rX7_parsesS.2.1 117 = .ok (.getfield 39, 3) := by decide +kernel
theorem eX7_parsesS_120 : decode rX7_parsesS.2.1 120 = .ok (.iload_n 1, 1) := by decide +kernel
theorem eX7_parsesS_121 : decode rX7_parsesS.2.1 121 = .ok (.iconst 1, 1) := by decide +kernel
theorem eX7_parsesS_122 : decode rX7_parsesS.2.1 122 = .ok (.iadd, 1) := by decide +kernel
theorem eX7_parsesS_123 : decode rX7_parsesS.2.1 123 = .ok (.aload_n 0, 1) := by decide +kernel
theorem eX7_parsesS_124 : decode rX7_parsesS.2.1 124 = .ok (.getfield 217, 3) := by decide +kernel
theorem eX7_parsesS_127 : decode rX7_parsesS.2.1 127 = .ok (.ifCond .ne 20, 3) := by decide +kernel
theorem eX7_parsesS_130 : decode rX7_parsesS.2.1 130 = .ok (.aload_n 0, 1) := by decide +kernel
theorem eX7_parsesS_131 : decode rX7_parsesS.2.1 131 = .ok (.invokevirtual 221, 3) := by decide +kernel
theorem eX7_parsesS_134 : decode rX7_parsesS.2.1 134 = .ok (.bipush 32, 2) := by decide +kernel
theorem eX7_parsesS_136 : decode rX7_parsesS.2.1 136 = .ok (.if_icmp .ne 11, 3) := by decide +kernel
theorem eX7_parsesS_139 : decode rX7_parsesS.2.1 139 = .ok (.aload_n 0, 1) := by decide +kernel
theorem eX7_parsesS_140 : decode rX7_parsesS.2.1 140 = .ok (.iconst 3, 1) := by decide +kernel
theorem eX7_parsesS_141 : decode rX7_parsesS.2.1 141 = .ok (.invokevirtual 228, 3) := by decide +kernel
theorem eX7_parsesS_144 : decode rX7_parsesS.2.1 144 = .ok (.goto 4, 3) := by decide +kernel
theorem eX7_parsesS_147 : decode rX7_parsesS.2.1 147 = .ok (.iconst 1, 1) := by decide +kernel
theorem eX7_parsesS_148 : decode rX7_parsesS.2.1 148 = .ok (.iastore, 1) := by decide +kernel
theorem eX7_parsesS_149 : decode rX7_parsesS.2.1 149 = .ok (.return_, 1) := by decide +kernel
theorem eX7_parsesCommand_0 : decode rX7_parsesCommand.2.1 0 = .ok (.aload_n 0, 1) := by decide +kernel
theorem eX7_parsesCommand_1 : decode rX7_parsesCommand.2.1 1 = .ok (.invokevirtual 221, 3) := by decide +kernel
theorem eX7_parsesCommand_4 : decode rX7_parsesCommand.2.1 4 = .ok (.istore_n 2, 1) := by decide +kernel
theorem eX7_parsesCommand_5 : decode rX7_parsesCommand.2.1 5 = .ok (.aload_n 0, 1) := by decide +kernel
theorem eX7_parsesCommand_6 : decode rX7_parsesCommand.2.1 6 = .ok (.dup, 1) := by decide +kernel
theorem eX7_parsesCommand_7 : decode rX7_parsesCommand.2.1 7 = .ok (.getfield 214, 3) := by decide +kernel
theorem eX7_parsesCommand_10 : decode rX7_parsesCommand.2.1 10 = .ok (.iconst 1, 1) := by decide +kernel
theorem eX7_parsesCommand_11 : decode rX7_parsesCommand.2.1 11 = .ok (.iadd, 1) := by decide +kernel
theorem eX7_parsesCommand_12 : decode rX7_parsesCommand.2.1 12 = .ok (.putfield 214, 3) := by decide +kernel
theorem eX7_parsesCommand_15 : decode rX7_parsesCommand.2.1 15 = .ok (.aload_n 0, 1) := by decide +kernel
theorem eX7_parsesCommand_16 : decode rX7_parsesCommand.2.1 16 = .ok (.getfield 39, 3) := by decide +kernel
theorem eX7_parsesCommand_19 : decode rX7_parsesCommand.2.1 19 = .ok (.iload_n 1, 1) := by decide +kernel
theorem eX7_parsesCommand_20 : decode rX7_parsesCommand.2.1 20 = .ok (.iload_n 2, 1) := by decide +kernel
theorem eX7_parsesCommand_21 : decode rX7_parsesCommand.2.1 21 = .ok (.iastore, 1) := by decide +kernel
theorem eX7_parsesCommand_22 : decode rX7_parsesCommand.2.1 22 = .ok (.iload_n 2, 1) := by decide +kernel
theorem eX7_parsesCommand_23 : decode rX7_parsesCommand.2.1 23 = .ok (.lookupswitch 234 #[(99, 41), (104, 187), (108, 93), (115, 226)], 41) := by decide +kernel
theorem eX7_parsesCommand_64 : decode rX7_parsesCommand.2.1 64 = .ok (.aload_n 0, 1) := by decide +kernel
theorem eX7_parsesCommand_65 : decode rX7_parsesCommand.2.1 65 = .ok (.bipush 97, 2) := by decide +kernel
theorem eX7_parsesCommand_67 : decode rX7_parsesCommand.2.1 67 = .ok (.bipush 108, 2) := by decide +kernel
theorem eX7_parsesCommand_69 : decode rX7_parsesCommand.2.1 69 = .ok (.bipush 108, 2) := by decide +kernel
theorem eX7_parsesCommand_71 : decode rX7_parsesCommand.2.1 71 = .ok (.invokevirtual 231, 3) := by decide +kernel
theorem eX7_parsesCommand_74 : decode rX7_parsesCommand.2.1 74 = .ok (.aload_n 0, 1) := by decide +kernel
theorem eX7_parsesCommand_75 : decode rX7_parsesCommand.2.1 75 = .ok (.getfield 39, 3) := by decide +kernel
theorem eX7_parsesCommand_78 : decode rX7_parsesCommand.2.1 78 = .ok (.iload_n 1, 1) := by decide +kernel
theorem eX7_parsesCommand_79 : decode rX7_parsesCommand.2.1 79 = .ok (.iconst 1, 1) := by decide +kernel
theorem eX7_parsesCommand_80 : decode rX7_parsesCommand.2.1 80 = .ok (.iadd, 1) := by decide +kernel
theorem eX7_parsesCommand_81 : decode rX7_parsesCommand.2.1 81 = .ok (.aload_n 0, 1) := by decide +kernel
theorem eX7_parsesCommand_82 : decode rX7_parsesCommand.2.1 82 = .ok (.iconst 1, 1) := by decide +kernel
theorem eX7_parsesCommand_83 : decode rX7_parsesCommand.2.1 83 = .ok (.invokevirtual 228, 3) := by decide +kernel
theorem eX7_parsesCommand_86 : decode rX7_parsesCommand.2.1 86 = .ok (.iastore, 1) := by decide +kernel
theorem eX7_parsesCommand_87 : decode rX7_parsesCommand.2.1 87 = .ok (.aload_n 0, 1) := by decide +kernel
theorem eX7_parsesCommand_88 : decode rX7_parsesCommand.2.1 88 = .ok (.getfield 39, 3) := by decide +kernel
theorem eX7_parsesCommand_91 : decode rX7_parsesCommand.2.1 91 = .ok (.iload_n 1, 1) := by decide +kernel
theorem eX7_parsesCommand_92 : decode rX7_parsesCommand.2.1 92 = .ok (.iconst 2, 1) := by decide +kernel
theorem eX7_parsesCommand_93 : decode rX7_parsesCommand.2.1 93 = .ok (.iadd, 1) := by decide +kernel
theorem eX7_parsesCommand_94 : decode rX7_parsesCommand.2.1 94 = .ok (.aload_n 0, 1) := by decide +kernel
theorem eX7_parsesCommand_95 : decode rX7_parsesCommand.2.1 95 = .ok (.iconst 1, 1) := by decide +kernel
theorem eX7_parsesCommand_96 : decode rX7_parsesCommand.2.1 96 = .ok (.invokevirtual 228, 3) := by decide +kernel
theorem eX7_parsesCommand_99 : decode rX7_parsesCommand.2.1 99 = .ok (.iastore, 1) := by decide +kernel
theorem eX7_parsesCommand_100 : decode rX7_parsesCommand.2.1 100 = .ok (.aload_n 0, 1) := by decide +kernel
theorem eX7_parsesCommand_101 : decode rX7_parsesCommand.2.1 101 = .ok (.getfield 39, 3) := by decide +kernel
theorem eX7_parsesCommand_104 : decode rX7_parsesCommand.2.1 104 = .ok (.iload_n 1, 1) := by decide +kernel
theorem eX7_parsesCommand_105 : decode rX7_parsesCommand.2.1 105 = .ok (.iconst 3, 1) := by decide +kernel
theorem eX7_parsesCommand_106 : decode rX7_parsesCommand.2.1 106 = .ok (.iadd, 1) := by decide +kernel
theorem eX7_parsesCommand_107 : decode rX7_parsesCommand.2.1 107 = .ok (.aload_n 0, 1) := by decide +kernel
theorem eX7_parsesCommand_108 : decode rX7_parsesCommand.2.1 108 = .ok (.iconst 3, 1) := by decide +kernel
theorem eX7_parsesCommand_109 : decode rX7_parsesCommand.2.1 109 = .ok (.invokevirtual 228, 3) := by decide +kernel
theorem eX7_parsesCommand_112 : decode rX7_parsesCommand.2.1 112 = .ok (.iastore, 1) := by decide +kernel
theorem eX7_parsesCommand_113 : decode rX7_parsesCommand.2.1 113 = .ok (.goto 159, 3) := by decide +kernel
theorem eX7_parsesCommand_116 : decode rX7_parsesCommand.2.1 116 = .ok (.aload_n 0, 1) := by decide +kernel
theorem eX7_parsesCommand_117 : decode rX7_parsesCommand.2.1 117 = .ok (.invokevirtual 221, 3) := by decide +kernel
theorem eX7_parsesCommand_120 : decode rX7_parsesCommand.2.1 120 = .ok (.bipush 105, 2) := by decide +kernel
theorem eX7_parsesCommand_122 : decode rX7_parsesCommand.2.1 122 = .ok (.if_icmp .ne 56, 3) := by decide +kernel
theorem eX7_parsesCommand_125 : decode rX7_parsesCommand.2.1 125 = .ok (.aload_n 0, 1) := by decide +kernel
theorem eX7_parsesCommand_126 : decode rX7_parsesCommand.2.1 126 = .ok (.getfield 39, 3) := by decide +kernel
theorem eX7_parsesCommand_129 : decode rX7_parsesCommand.2.1 129 = .ok (.iload_n 1, 1) := by decide +kernel
theorem eX7_parsesCommand_130 : decode rX7_parsesCommand.2.1 130 = .ok (.bipush 105, 2) := by decide +kernel
theorem eX7_parsesCommand_132 : decode rX7_parsesCommand.2.1 132 = .ok (.iastore, 1) := by decide +kernel
theorem eX7_parsesCommand_133 : decode rX7_parsesCommand.2.1 133 = .ok (.aload_n 0, 1) := by decide +kernel
theorem eX7_parsesCommand_134 : decode rX7_parsesCommand.2.1 134 = .ok (.bipush 105, 2) := by decide +kernel
theorem eX7_parsesCommand_136 : decode rX7_parsesCommand.2.1 136 = .ok (.bipush 109, 2) := by decide +kernel
theorem eX7_parsesCommand_138 : decode rX7_parsesCommand.2.1 138 = .ok (.bipush 105, 2) := by decide +kernel
theorem eX7_parsesCommand_140 : decode rX7_parsesCommand.2.1 140 = .ok (.invokevirtual 231, 3) := by decide +kernel
theorem eX7_parsesCommand_143 : decode rX7_parsesCommand.2.1 143 = .ok (.aload_n 0, 1) := by decide +kernel
theorem eX7_parsesCommand_144 : decode rX7_parsesCommand.2.1 144 = .ok (.bipush 116, 2) := by decide +kernel
theorem eX7_parsesCommand_146 : decode rX7_parsesCommand.2.1 146 = .ok (.invokevirtual 225, 3) := by decide +kernel
theorem eX7_parsesCommand_149 : decode rX7_parsesCommand.2.1 149 = .ok (.aload_n 0, 1) := by decide +kernel
theorem eX7_parsesCommand_150 : decode rX7_parsesCommand.2.1 150 = .ok (.getfield 39, 3) := by decide +kernel
theorem eX7_parsesCommand_153 : decode rX7_parsesCommand.2.1 153 = .ok (.iload_n 1, 1) := by decide +kernel
theorem eX7_parsesCommand_154 : decode rX7_parsesCommand.2.1 154 = .ok (.iconst 1, 1) := by decide +kernel
theorem eX7_parsesCommand_155 : decode rX7_parsesCommand.2.1 155 = .ok (.iadd, 1) := by decide +kernel
theorem eX7_parsesCommand_156 : decode rX7_parsesCommand.2.1 156 = .ok (.aload_n 0, 1) := by decide +kernel
theorem eX7_parsesCommand_157 : decode rX7_parsesCommand.2.1 157 = .ok (.iconst 1, 1) := by decide +kernel
theorem eX7_parsesCommand_158 : decode rX7_parsesCommand.2.1 158 = .ok (.invokevirtual 228, 3) := by decide +kernel
theorem eX7_parsesCommand_161 : decode rX7_parsesCommand.2.1 161 = .ok (.iastore, 1) := by decide +kernel
theorem eX7_parsesCommand_162 : decode rX7_parsesCommand.2.1 162 = .ok (.aload_n 0, 1) := by decide +kernel
theorem eX7_parsesCommand_163 : decode rX7_parsesCommand.2.1 163 = .ok (.getfield 39, 3) := by decide +kernel
theorem eX7_parsesCommand_166 : decode rX7_parsesCommand.2.1 166 = .ok (.iload_n 1, 1) := by decide +kernel
theorem eX7_parsesCommand_167 : decode rX7_parsesCommand.2.1 167 = .ok (.iconst 2, 1) := by decide +kernel
theorem eX7_parsesCommand_168 : decode rX7_parsesCommand.2.1 168 = .ok (.iadd, 1) := by decide +kernel
theorem eX7_parsesCommand_169 : decode rX7_parsesCommand.2.1 169 = .ok (.aload_n 0, 1) := by decide +kernel
theorem eX7_parsesCommand_170 : decode rX7_parsesCommand.2.1 170 = .ok (.iconst 3, 1) := by decide +kernel
theorem eX7_parsesCommand_171 : decode rX7_parsesCommand.2.1 171 = .ok (.invokevirtual 228, 3) := by decide +kernel
theorem eX7_parsesCommand_174 : decode rX7_parsesCommand.2.1 174 = .ok (.iastore, 1) := by decide +kernel
theorem eX7_parsesCommand_175 : decode rX7_parsesCommand.2.1 175 = .ok (.goto 97, 3) := by decide +kernel
theorem eX7_parsesCommand_178 : decode rX7_parsesCommand.2.1 178 = .ok (.aload_n 0, 1) := by decide +kernel
theorem eX7_parsesCommand_179 : decode rX7_parsesCommand.2.1 179 = .ok (.bipush 101, 2) := by decide +kernel
theorem eX7_parsesCommand_181 : decode rX7_parsesCommand.2.1 181 = .ok (.bipush 97, 2) := by decide +kernel
theorem eX7_parsesCommand_183 : decode rX7_parsesCommand.2.1 183 = .ok (.bipush 118, 2) := by decide +kernel
theorem eX7_parsesCommand_185 : decode rX7_parsesCommand.2.1 185 = .ok (.invokevirtual 231, 3) := by decide +kernel
theorem eX7_parsesCommand_188 : decode rX7_parsesCommand.2.1 188 = .ok (.aload_n 0, 1) := by decide +kernel
theorem eX7_parsesCommand_189 : decode rX7_parsesCommand.2.1 189 = .ok (.bipush 101, 2) := by decide +kernel
theorem eX7_parsesCommand_191 : decode rX7_parsesCommand.2.1 191 = .ok (.invokevirtual 225, 3) := by decide +kernel
theorem eX7_parsesCommand_194 : decode rX7_parsesCommand.2.1 194 = .ok (.aload_n 0, 1) := by decide +kernel
theorem eX7_parsesCommand_195 : decode rX7_parsesCommand.2.1 195 = .ok (.getfield 39, 3) := by decide +kernel
theorem eX7_parsesCommand_198 : decode rX7_parsesCommand.2.1 198 = .ok (.iload_n 1, 1) := by decide +kernel
theorem eX7_parsesCommand_199 : decode rX7_parsesCommand.2.1 199 = .ok (.iconst 1, 1) := by decide +kernel
theorem eX7_parsesCommand_200 : decode rX7_parsesCommand.2.1 200 = .ok (.iadd, 1) := by decide +kernel
theorem eX7_parsesCommand_201 : decode rX7_parsesCommand.2.1 201 = .ok (.aload_n 0, 1) := by decide +kernel
theorem eX7_parsesCommand_202 : decode rX7_parsesCommand.2.1 202 = .ok (.iconst 3, 1) := by decide +kernel
theorem eX7_parsesCommand_203 : decode rX7_parsesCommand.2.1 203 = .ok (.invokevirtual 228, 3) := by decide +kernel
theorem eX7_parsesCommand_206 : decode rX7_parsesCommand.2.1 206 = .ok (.iastore, 1) := by decide +kernel
theorem eX7_parsesCommand_207 : decode rX7_parsesCommand.2.1 207 = .ok (.goto 65, 3) := by decide +kernel
theorem eX7_parsesCommand_210 : decode rX7_parsesCommand.2.1 210 = .ok (.aload_n 0, 1) := by decide +kernel
theorem eX7_parsesCommand_211 : decode rX7_parsesCommand.2.1 211 = .ok (.bipush 111, 2) := by decide +kernel
theorem eX7_parsesCommand_213 : decode rX7_parsesCommand.2.1 213 = .ok (.bipush 108, 2) := by decide +kernel
theorem eX7_parsesCommand_215 : decode rX7_parsesCommand.2.1 215 = .ok (.bipush 100, 2) := by decide +kernel
theorem eX7_parsesCommand_217 : decode rX7_parsesCommand.2.1 217 = .ok (.invokevirtual 231, 3) := by decide +kernel
theorem eX7_parsesCommand_220 : decode rX7_parsesCommand.2.1 220 = .ok (.aload_n 0, 1) := by decide +kernel
theorem eX7_parsesCommand_221 : decode rX7_parsesCommand.2.1 221 = .ok (.getfield 39, 3) := by decide +kernel
theorem eX7_parsesCommand_224 : decode rX7_parsesCommand.2.1 224 = .ok (.iload_n 1, 1) := by decide +kernel
theorem eX7_parsesCommand_225 : decode rX7_parsesCommand.2.1 225 = .ok (.iconst 1, 1) := by decide +kernel
theorem eX7_parsesCommand_226 : decode rX7_parsesCommand.2.1 226 = .ok (.iadd, 1) := by decide +kernel
theorem eX7_parsesCommand_227 : decode rX7_parsesCommand.2.1 227 = .ok (.aload_n 0, 1) := by decide +kernel
theorem eX7_parsesCommand_228 : decode rX7_parsesCommand.2.1 228 = .ok (.iconst 1, 1) := by decide +kernel
theorem eX7_parsesCommand_229 : decode rX7_parsesCommand.2.1 229 = .ok (.invokevirtual 228, 3) := by decide +kernel
theorem eX7_parsesCommand_232 : decode rX7_parsesCommand.2.1 232 = .ok (.iastore, 1) := by decide +kernel
theorem eX7_parsesCommand_233 : decode rX7_parsesCommand.2.1 233 = .ok (.aload_n 0, 1) := by decide +kernel
theorem eX7_parsesCommand_234 : decode rX7_parsesCommand.2.1 234 = .ok (.getfield 39, 3) := by decide +kernel
theorem eX7_parsesCommand_237 : decode rX7_parsesCommand.2.1 237 = .ok (.iload_n 1, 1) := by decide +kernel
theorem eX7_parsesCommand_238 : decode rX7_parsesCommand.2.1 238 = .ok (.iconst 2, 1) := by decide +kernel
theorem eX7_parsesCommand_239 : decode rX7_parsesCommand.2.1 239 = .ok (.iadd, 1) := by decide +kernel
theorem eX7_parsesCommand_240 : decode rX7_parsesCommand.2.1 240 = .ok (.aload_n 0, 1) := by decide +kernel
theorem eX7_parsesCommand_241 : decode rX7_parsesCommand.2.1 241 = .ok (.iconst 1, 1) := by decide +kernel
theorem eX7_parsesCommand_242 : decode rX7_parsesCommand.2.1 242 = .ok (.invokevirtual 228, 3) := by decide +kernel
theorem eX7_parsesCommand_245 : decode rX7_parsesCommand.2.1 245 = .ok (.iastore, 1) := by decide +kernel
theorem eX7_parsesCommand_246 : decode rX7_parsesCommand.2.1 246 = .ok (.goto 26, 3) := by decide +kernel
theorem eX7_parsesCommand_249 : decode rX7_parsesCommand.2.1 249 = .ok (.aload_n 0, 1) := by decide +kernel
theorem eX7_parsesCommand_250 : decode rX7_parsesCommand.2.1 250 = .ok (.iload_n 1, 1) := by decide +kernel
theorem eX7_parsesCommand_251 : decode rX7_parsesCommand.2.1 251 = .ok (.invokevirtual 235, 3) := by decide +kernel
theorem eX7_parsesCommand_254 : decode rX7_parsesCommand.2.1 254 = .ok (.goto 18, 3) := by decide +kernel
theorem eX7_parsesCommand_257 : decode rX7_parsesCommand.2.1 257 = .ok (.aload_n 0, 1) := by decide +kernel
theorem eX7_parsesCommand_258 : decode rX7_parsesCommand.2.1 258 = .ok (.iconst 1, 1) := by decide +kernel
theorem eX7_parsesCommand_259 : decode rX7_parsesCommand.2.1 259 = .ok (.putfield 217, 3) := by decide +kernel
theorem eX7_parsesCommand_262 : decode rX7_parsesCommand.2.1 262 = .ok (.aload_n 0, 1) := by decide +kernel
theorem eX7_parsesCommand_263 : decode rX7_parsesCommand.2.1 263 = .ok (.dup, 1) := by decide +kernel
theorem eX7_parsesCommand_264 : decode rX7_parsesCommand.2.1 264 = .ok (.getfield 214, 3) := by decide +kernel
theorem eX7_parsesCommand_267 : decode rX7_parsesCommand.2.1 267 = .ok (.iconst 1, 1) := by decide +kernel
theorem eX7_parsesCommand_268 : decode rX7_parsesCommand.2.1 268 = .ok (.isub, 1) := by decide +kernel
theorem eX7_parsesCommand_269 : decode rX7_parsesCommand.2.1 269 = .ok (.putfield 214, 3) := by decide +kernel
theorem eX7_parsesCommand_272 : decode rX7_parsesCommand.2.1 272 = .ok (.return_, 1) := by decide +kernel
theorem eX7_carriesOut_0 : decode rX7_carriesOut.2.1 0 = .ok (.aload_n 0, 1) := by decide +kernel
theorem eX7_carriesOut_1 : decode rX7_carriesOut.2.1 1 = .ok (.getfield 39, 3) := by decide +kernel
theorem eX7_carriesOut_4 : decode rX7_carriesOut.2.1 4 = .ok (.iload_n 1, 1) := by decide +kernel
theorem eX7_carriesOut_5 : decode rX7_carriesOut.2.1 5 = .ok (.iconst 1, 1) := by decide +kernel
theorem eX7_carriesOut_6 : decode rX7_carriesOut.2.1 6 = .ok (.iadd, 1) := by decide +kernel
theorem eX7_carriesOut_7 : decode rX7_carriesOut.2.1 7 = .ok (.iaload, 1) := by decide +kernel
theorem eX7_carriesOut_8 : decode rX7_carriesOut.2.1 8 = .ok (.istore_n 2, 1) := by decide +kernel
theorem eX7_carriesOut_9 : decode rX7_carriesOut.2.1 9 = .ok (.aload_n 0, 1) := by decide +kernel
theorem eX7_carriesOut_10 : decode rX7_carriesOut.2.1 10 = .ok (.getfield 39, 3) := by decide +kernel
theorem eX7_carriesOut_13 : decode rX7_carriesOut.2.1 13 = .ok (.iload_n 1, 1) := by decide +kernel
theorem eX7_carriesOut_14 : decode rX7_carriesOut.2.1 14 = .ok (.iconst 2, 1) := by decide +kernel
theorem eX7_carriesOut_15 : decode rX7_carriesOut.2.1 15 = .ok (.iadd, 1) := by decide +kernel
theorem eX7_carriesOut_16 : decode rX7_carriesOut.2.1 16 = .ok (.iaload, 1) := by decide +kernel
theorem eX7_carriesOut_17 : decode rX7_carriesOut.2.1 17 = .ok (.istore_n 3, 1) := by decide +kernel
theorem eX7_carriesOut_18 : decode rX7_carriesOut.2.1 18 = .ok (.aload_n 0, 1) := by decide +kernel
theorem eX7_carriesOut_19 : decode rX7_carriesOut.2.1 19 = .ok (.getfield 39, 3) := by decide +kernel
theorem eX7_carriesOut_22 : decode rX7_carriesOut.2.1 22 = .ok (.iload_n 1, 1) := by decide +kernel
theorem eX7_carriesOut_23 : decode rX7_carriesOut.2.1 23 = .ok (.iaload, 1) := by decide +kernel
theorem eX7_carriesOut_24 : decode rX7_carriesOut.2.1 24 = .ok (.tableswitch 123 97 111 #[110, 123, 76, 123, 123, 123, 123, 97, 116, 123, 123, 91, 123, 123, 104], 76) := by decide +kernel
theorem eX7_carriesOut_100 : decode rX7_carriesOut.2.1 100 = .ok (.aload_n 0, 1) := by decide +kernel
theorem eX7_carriesOut_101 : decode rX7_carriesOut.2.1 101 = .ok (.iload_n 2, 1) := by decide +kernel
theorem eX7_carriesOut_102 : decode rX7_carriesOut.2.1 102 = .ok (.iload_n 3, 1) := by decide +kernel
theorem eX7_carriesOut_103 : decode rX7_carriesOut.2.1 103 = .ok (.aload_n 0, 1) := by decide +kernel
theorem eX7_carriesOut_104 : decode rX7_carriesOut.2.1 104 = .ok (.getfield 39, 3) := by decide +kernel
theorem eX7_carriesOut_107 : decode rX7_carriesOut.2.1 107 = .ok (.iload_n 1, 1) := by decide +kernel
theorem eX7_carriesOut_108 : decode rX7_carriesOut.2.1 108 = .ok (.iconst 3, 1) := by decide +kernel
theorem eX7_carriesOut_109 : decode rX7_carriesOut.2.1 109 = .ok (.iadd, 1) := by decide +kernel
theorem eX7_carriesOut_110 : decode rX7_carriesOut.2.1 110 = .ok (.iaload, 1) := by decide +kernel
theorem eX7_carriesOut_111 : decode rX7_carriesOut.2.1 111 = .ok (.invokevirtual 103, 3) := by decide +kernel
theorem eX7_carriesOut_114 : decode rX7_carriesOut.2.1 114 = .ok (.ireturn, 1) := by decide +kernel
theorem eX7_carriesOut_115 : decode rX7_carriesOut.2.1 115 = .ok (.aload_n 0, 1) := by decide +kernel
theorem eX7_carriesOut_116 : decode rX7_carriesOut.2.1 116 = .ok (.iload_n 2, 1) := by decide +kernel
theorem eX7_carriesOut_117 : decode rX7_carriesOut.2.1 117 = .ok (.invokevirtual 116, 3) := by decide +kernel
theorem eX7_carriesOut_120 : decode rX7_carriesOut.2.1 120 = .ok (.ireturn, 1) := by decide +kernel
theorem eX7_carriesOut_121 : decode rX7_carriesOut.2.1 121 = .ok (.aload_n 0, 1) := by decide +kernel
theorem eX7_carriesOut_122 : decode rX7_carriesOut.2.1 122 = .ok (.iload_n 2, 1) := by decide +kernel
theorem eX7_carriesOut_123 : decode rX7_carriesOut.2.1 123 = .ok (.iload_n 3, 1) := by decide +kernel
theorem eX7_carriesOut_124 : decode rX7_carriesOut.2.1 124 = .ok (.invokevirtual 122, 3) := by decide +kernel
theorem eX7_carriesOut_127 : decode rX7_carriesOut.2.1 127 = .ok (.ireturn, 1) := by decide +kernel
theorem eX7_carriesOut_128 : decode rX7_carriesOut.2.1 128 = .ok (.aload_n 0, 1) := by decide +kernel
theorem eX7_carriesOut_129 : decode rX7_carriesOut.2.1 129 = .ok (.iload_n 2, 1) := by decide +kernel
theorem eX7_carriesOut_130 : decode rX7_carriesOut.2.1 130 = .ok (.invokevirtual 125, 3) := by decide +kernel
theorem eX7_carriesOut_133 : decode rX7_carriesOut.2.1 133 = .ok (.ireturn, 1) := by decide +kernel
theorem eX7_carriesOut_134 : decode rX7_carriesOut.2.1 134 = .ok (.aload_n 0, 1) := by decide +kernel
theorem eX7_carriesOut_135 : decode rX7_carriesOut.2.1 135 = .ok (.iload_n 2, 1) := by decide +kernel
theorem eX7_carriesOut_136 : decode rX7_carriesOut.2.1 136 = .ok (.invokevirtual 128, 3) := by decide +kernel
theorem eX7_carriesOut_139 : decode rX7_carriesOut.2.1 139 = .ok (.ireturn, 1) := by decide +kernel
theorem eX7_carriesOut_140 : decode rX7_carriesOut.2.1 140 = .ok (.aload_n 0, 1) := by decide +kernel
theorem eX7_carriesOut_141 : decode rX7_carriesOut.2.1 141 = .ok (.iload_n 2, 1) := by decide +kernel
theorem eX7_carriesOut_142 : decode rX7_carriesOut.2.1 142 = .ok (.iload_n 3, 1) := by decide +kernel
theorem eX7_carriesOut_143 : decode rX7_carriesOut.2.1 143 = .ok (.invokevirtual 131, 3) := by decide +kernel
theorem eX7_carriesOut_146 : decode rX7_carriesOut.2.1 146 = .ok (.ireturn, 1) := by decide +kernel
theorem eX7_carriesOut_147 : decode rX7_carriesOut.2.1 147 = .ok (.aload_n 0, 1) := by decide +kernel
theorem eX7_carriesOut_148 : decode rX7_carriesOut.2.1 148 = .ok (.iload_n 2, 1) := by decide +kernel
theorem eX7_carriesOut_149 : decode rX7_carriesOut.2.1 149 = .ok (.invokevirtual 159, 3) := by decide +kernel
theorem eX7_carriesOut_152 : decode rX7_carriesOut.2.1 152 = .ok (.ireturn, 1) := by decide +kernel
theorem eX7_runScript_0 : decode rX7_runScript.2.1 0 = .ok (.aload_n 0, 1) := by decide +kernel
theorem eX7_runScript_1 : decode rX7_runScript.2.1 1 = .ok (.iconst 0, 1) := by decide +kernel
theorem eX7_runScript_2 : decode rX7_runScript.2.1 2 = .ok (.putfield 214, 3) := by decide +kernel
theorem eX7_runScript_5 : decode rX7_runScript.2.1 5 = .ok (.aload_n 0, 1) := by decide +kernel
theorem eX7_runScript_6 : decode rX7_runScript.2.1 6 = .ok (.iconst 0, 1) := by decide +kernel
theorem eX7_runScript_7 : decode rX7_runScript.2.1 7 = .ok (.putfield 217, 3) := by decide +kernel
theorem eX7_runScript_10 : decode rX7_runScript.2.1 10 = .ok (.iconst 0, 1) := by decide +kernel
theorem eX7_runScript_11 : decode rX7_runScript.2.1 11 = .ok (.istore_n 1, 1) := by decide +kernel
theorem eX7_runScript_12 : decode rX7_runScript.2.1 12 = .ok (.iconst 1, 1) := by decide +kernel
theorem eX7_runScript_13 : decode rX7_runScript.2.1 13 = .ok (.istore_n 2, 1) := by decide +kernel
theorem eX7_runScript_14 : decode rX7_runScript.2.1 14 = .ok (.iload_n 2, 1) := by decide +kernel
theorem eX7_runScript_15 : decode rX7_runScript.2.1 15 = .ok (.ifCond .eq 56, 3) := by decide +kernel
theorem eX7_runScript_18 : decode rX7_runScript.2.1 18 = .ok (.aload_n 0, 1) := by decide +kernel
theorem eX7_runScript_19 : decode rX7_runScript.2.1 19 = .ok (.iconst 4, 1) := by decide +kernel
theorem eX7_runScript_20 : decode rX7_runScript.2.1 20 = .ok (.iload_n 1, 1) := by decide +kernel
theorem eX7_runScript_21 : decode rX7_runScript.2.1 21 = .ok (.imul, 1) := by decide +kernel
theorem eX7_runScript_22 : decode rX7_runScript.2.1 22 = .ok (.invokevirtual 238, 3) := by decide +kernel
theorem eX7_runScript_25 : decode rX7_runScript.2.1 25 = .ok (.iinc 1 1, 3) := by decide +kernel
theorem eX7_runScript_28 : decode rX7_runScript.2.1 28 = .ok (.aload_n 0, 1) := by decide +kernel
theorem eX7_runScript_29 : decode rX7_runScript.2.1 29 = .ok (.getfield 217, 3) := by decide +kernel
theorem eX7_runScript_32 : decode rX7_runScript.2.1 32 = .ok (.ifCond .ne 16, 3) := by decide +kernel
theorem eX7_runScript_35 : decode rX7_runScript.2.1 35 = .ok (.aload_n 0, 1) := by decide +kernel
theorem eX7_runScript_36 : decode rX7_runScript.2.1 36 = .ok (.invokevirtual 221, 3) := by decide +kernel
theorem eX7_runScript_39 : decode rX7_runScript.2.1 39 = .ok (.bipush 59, 2) := by decide +kernel
theorem eX7_runScript_41 : decode rX7_runScript.2.1 41 = .ok (.if_icmp .ne 7, 3) := by decide +kernel
theorem eX7_runScript_44 : decode rX7_runScript.2.1 44 = .ok (.iconst 1, 1) := by decide +kernel
theorem eX7_runScript_45 : decode rX7_runScript.2.1 45 = .ok (.goto 4, 3) := by decide +kernel
theorem eX7_runScript_48 : decode rX7_runScript.2.1 48 = .ok (.iconst 0, 1) := by decide +kernel
theorem eX7_runScript_49 : decode rX7_runScript.2.1 49 = .ok (.istore_n 2, 1) := by decide +kernel
theorem eX7_runScript_50 : decode rX7_runScript.2.1 50 = .ok (.aload_n 0, 1) := by decide +kernel
theorem eX7_runScript_51 : decode rX7_runScript.2.1 51 = .ok (.dup, 1) := by decide +kernel
theorem eX7_runScript_52 : decode rX7_runScript.2.1 52 = .ok (.getfield 214, 3) := by decide +kernel
theorem eX7_runScript_55 : decode rX7_runScript.2.1 55 = .ok (.iload_n 2, 1) := by decide +kernel
theorem eX7_runScript_56 : decode rX7_runScript.2.1 56 = .ok (.ifCond .eq 7, 3) := by decide +kernel
theorem eX7_runScript_59 : decode rX7_runScript.2.1 59 = .ok (.iconst 1, 1) := by decide +kernel
theorem eX7_runScript_60 : decode rX7_runScript.2.1 60 = .ok (.goto 4, 3) := by decide +kernel
theorem eX7_runScript_63 : decode rX7_runScript.2.1 63 = .ok (.iconst 0, 1) := by decide +kernel
theorem eX7_runScript_64 : decode rX7_runScript.2.1 64 = .ok (.iadd, 1) := by decide +kernel
theorem eX7_runScript_65 : decode rX7_runScript.2.1 65 = .ok (.putfield 214, 3) := by decide +kernel
theorem eX7_runScript_68 : decode rX7_runScript.2.1 68 = .ok (.goto (-54), 3) := by decide +kernel
theorem eX7_runScript_71 : decode rX7_runScript.2.1 71 = .ok (.aload_n 0, 1) := by decide +kernel
theorem eX7_runScript_72 : decode rX7_runScript.2.1 72 = .ok (.aload_n 0, 1) := by decide +kernel
theorem eX7_runScript_73 : decode rX7_runScript.2.1 73 = .ok (.getfield 217, 3) := by decide +kernel
theorem eX7_runScript_76 : decode rX7_runScript.2.1 76 = .ok (.ifCond .ne 14, 3) := by decide +kernel
theorem eX7_runScript_79 : decode rX7_runScript.2.1 79 = .ok (.aload_n 0, 1) := by decide +kernel
theorem eX7_runScript_80 : decode rX7_runScript.2.1 80 = .ok (.getfield 214, 3) := by decide +kernel
theorem eX7_runScript_83 : decode rX7_runScript.2.1 83 = .ok (.aload_n 0, 1) := by decide +kernel
theorem eX7_runScript_84 : decode rX7_runScript.2.1 84 = .ok (.getfield 211, 3) := by decide +kernel
theorem eX7_runScript_87 : decode rX7_runScript.2.1 87 = .ok (.if_icmp .ge 7, 3) := by decide +kernel
theorem eX7_runScript_90 : decode rX7_runScript.2.1 90 = .ok (.iconst 1, 1) := by decide +kernel
theorem eX7_runScript_91 : decode rX7_runScript.2.1 91 = .ok (.goto 4, 3) := by decide +kernel
theorem eX7_runScript_94 : decode rX7_runScript.2.1 94 = .ok (.iconst 0, 1) := by decide +kernel
theorem eX7_runScript_95 : decode rX7_runScript.2.1 95 = .ok (.putfield 217, 3) := by decide +kernel
theorem eX7_runScript_98 : decode rX7_runScript.2.1 98 = .ok (.aload_n 0, 1) := by decide +kernel
theorem eX7_runScript_99 : decode rX7_runScript.2.1 99 = .ok (.iconst 0, 1) := by decide +kernel
theorem eX7_runScript_100 : decode rX7_runScript.2.1 100 = .ok (.putfield 211, 3) := by decide +kernel
theorem eX7_runScript_103 : decode rX7_runScript.2.1 103 = .ok (.aload_n 0, 1) := by decide +kernel
theorem eX7_runScript_104 : decode rX7_runScript.2.1 104 = .ok (.getfield 217, 3) := by decide +kernel
theorem eX7_runScript_107 : decode rX7_runScript.2.1 107 = .ok (.ifCond .eq 17, 3) := by decide +kernel
theorem eX7_runScript_110 : decode rX7_runScript.2.1 110 = .ok (.aload_n 0, 1) := by decide +kernel
theorem eX7_runScript_111 : decode rX7_runScript.2.1 111 = .ok (.aload_n 0, 1) := by decide +kernel
theorem eX7_runScript_112 : decode rX7_runScript.2.1 112 = .ok (.getfield 214, 3) := by decide +kernel
theorem eX7_runScript_115 : decode rX7_runScript.2.1 115 = .ok (.putfield 29, 3) := by decide +kernel
theorem eX7_runScript_118 : decode rX7_runScript.2.1 118 = .ok (.aload_n 0, 1) := by decide +kernel
theorem eX7_runScript_119 : decode rX7_runScript.2.1 119 = .ok (.iconst 1, 1) := by decide +kernel
theorem eX7_runScript_120 : decode rX7_runScript.2.1 120 = .ok (.invokevirtual 90, 3) := by decide +kernel
theorem eX7_runScript_123 : decode rX7_runScript.2.1 123 = .ok (.ireturn, 1) := by decide +kernel
theorem eX7_runScript_124 : decode rX7_runScript.2.1 124 = .ok (.aload_n 0, 1) := by decide +kernel
theorem eX7_runScript_125 : decode rX7_runScript.2.1 125 = .ok (.invokevirtual 100, 3) := by decide +kernel
theorem eX7_runScript_128 : decode rX7_runScript.2.1 128 = .ok (.iconst 0, 1) := by decide +kernel
theorem eX7_runScript_129 : decode rX7_runScript.2.1 129 = .ok (.istore_n 3, 1) := by decide +kernel
theorem eX7_runScript_130 : decode rX7_runScript.2.1 130 = .ok (.iload_n 3, 1) := by decide +kernel
theorem eX7_runScript_131 : decode rX7_runScript.2.1 131 = .ok (.iload_n 1, 1) := by decide +kernel
theorem eX7_runScript_132 : decode rX7_runScript.2.1 132 = .ok (.if_icmp .ge 42, 3) := by decide +kernel
theorem eX7_runScript_135 : decode rX7_runScript.2.1 135 = .ok (.aload_n 0, 1) := by decide +kernel
theorem eX7_runScript_136 : decode rX7_runScript.2.1 136 = .ok (.iconst 4, 1) := by decide +kernel
theorem eX7_runScript_137 : decode rX7_runScript.2.1 137 = .ok (.iload_n 3, 1) := by decide +kernel
theorem eX7_runScript_138 : decode rX7_runScript.2.1 138 = .ok (.imul, 1) := by decide +kernel
theorem eX7_runScript_139 : decode rX7_runScript.2.1 139 = .ok (.invokevirtual 241, 3) := by decide +kernel
theorem eX7_runScript_142 : decode rX7_runScript.2.1 142 = .ok (.istore 4, 2) := by decide +kernel
theorem eX7_runScript_144 : decode rX7_runScript.2.1 144 = .ok (.aload_n 0, 1) := by decide +kernel
theorem eX7_runScript_145 : decode rX7_runScript.2.1 145 = .ok (.getfield 42, 3) := by decide +kernel
theorem eX7_runScript_148 : decode rX7_runScript.2.1 148 = .ok (.ifCond .eq 20, 3) := by decide +kernel
theorem eX7_runScript_151 : decode rX7_runScript.2.1 151 = .ok (.aload_n 0, 1) := by decide +kernel
theorem eX7_runScript_152 : decode rX7_runScript.2.1 152 = .ok (.iload_n 3, 1) := by decide +kernel
theorem eX7_runScript_153 : decode rX7_runScript.2.1 153 = .ok (.putfield 33, 3) := by decide +kernel
theorem eX7_runScript_156 : decode rX7_runScript.2.1 156 = .ok (.aload_n 0, 1) := by decide +kernel
theorem eX7_runScript_157 : decode rX7_runScript.2.1 157 = .ok (.iconst 2, 1) := by decide +kernel
theorem eX7_runScript_158 : decode rX7_runScript.2.1 158 = .ok (.putfield 42, 3) := by decide +kernel
theorem eX7_runScript_161 : decode rX7_runScript.2.1 161 = .ok (.aload_n 0, 1) := by decide +kernel
theorem eX7_runScript_162 : decode rX7_runScript.2.1 162 = .ok (.iload 4, 2) := by decide +kernel
theorem eX7_runScript_164 : decode rX7_runScript.2.1 164 = .ok (.invokevirtual 107, 3) := by decide +kernel
theorem eX7_runScript_167 : decode rX7_runScript.2.1 167 = .ok (.ireturn, 1) := by decide +kernel
theorem eX7_runScript_168 : decode rX7_runScript.2.1 168 = .ok (.iinc 3 1, 3) := by decide +kernel
theorem eX7_runScript_171 : decode rX7_runScript.2.1 171 = .ok (.goto (-41), 3) := by decide +kernel
theorem eX7_runScript_174 : decode rX7_runScript.2.1 174 = .ok (.aload_n 0, 1) := by decide +kernel
theorem eX7_runScript_175 : decode rX7_runScript.2.1 175 = .ok (.aload_n 0, 1) := by decide +kernel
theorem eX7_runScript_176 : decode rX7_runScript.2.1 176 = .ok (.iload_n 1, 1) := by decide +kernel
theorem eX7_runScript_177 : decode rX7_runScript.2.1 177 = .ok (.invokevirtual 97, 3) := by decide +kernel
theorem eX7_runScript_180 : decode rX7_runScript.2.1 180 = .ok (.invokevirtual 107, 3) := by decide +kernel
theorem eX7_runScript_183 : decode rX7_runScript.2.1 183 = .ok (.ireturn, 1) := by decide +kernel
theorem eX7_errorPosition_0 : decode rX7_errorPosition.2.1 0 = .ok (.aload_n 0, 1) := by decide +kernel
theorem eX7_errorPosition_1 : decode rX7_errorPosition.2.1 1 = .ok (.getfield 29, 3) := by decide +kernel
theorem eX7_errorPosition_4 : decode rX7_errorPosition.2.1 4 = .ok (.iconst (-1), 1) := by decide +kernel
theorem eX7_errorPosition_5 : decode rX7_errorPosition.2.1 5 = .ok (.if_icmp .ne 11, 3) := by decide +kernel
theorem eX7_errorPosition_8 : decode rX7_errorPosition.2.1 8 = .ok (.aload_n 0, 1) := by decide +kernel
theorem eX7_errorPosition_9 : decode rX7_errorPosition.2.1 9 = .ok (.iconst 1, 1) := by decide +kernel
theorem eX7_errorPosition_10 : decode rX7_errorPosition.2.1 10 = .ok (.invokevirtual 90, 3) := by decide +kernel
theorem eX7_errorPosition_13 : decode rX7_errorPosition.2.1 13 = .ok (.goto 11, 3) := by decide +kernel
theorem eX7_errorPosition_16 : decode rX7_errorPosition.2.1 16 = .ok (.aload_n 0, 1) := by decide +kernel
theorem eX7_errorPosition_17 : decode rX7_errorPosition.2.1 17 = .ok (.aload_n 0, 1) := by decide +kernel
theorem eX7_errorPosition_18 : decode rX7_errorPosition.2.1 18 = .ok (.getfield 29, 3) := by decide +kernel
theorem eX7_errorPosition_21 : decode rX7_errorPosition.2.1 21 = .ok (.invokevirtual 97, 3) := by decide +kernel
theorem eX7_errorPosition_24 : decode rX7_errorPosition.2.1 24 = .ok (.ireturn, 1) := by decide +kernel
theorem eX7_failedCommand_0 : decode rX7_failedCommand.2.1 0 = .ok (.aload_n 0, 1) := by decide +kernel
theorem eX7_failedCommand_1 : decode rX7_failedCommand.2.1 1 = .ok (.getfield 33, 3) := by decide +kernel
theorem eX7_failedCommand_4 : decode rX7_failedCommand.2.1 4 = .ok (.iconst (-1), 1) := by decide +kernel
theorem eX7_failedCommand_5 : decode rX7_failedCommand.2.1 5 = .ok (.if_icmp .ne 11, 3) := by decide +kernel
theorem eX7_failedCommand_8 : decode rX7_failedCommand.2.1 8 = .ok (.aload_n 0, 1) := by decide +kernel
theorem eX7_failedCommand_9 : decode rX7_failedCommand.2.1 9 = .ok (.iconst 1, 1) := by decide +kernel
theorem eX7_failedCommand_10 : decode rX7_failedCommand.2.1 10 = .ok (.invokevirtual 90, 3) := by decide +kernel
theorem eX7_failedCommand_13 : decode rX7_failedCommand.2.1 13 = .ok (.goto 11, 3) := by decide +kernel
theorem eX7_failedCommand_16 : decode rX7_failedCommand.2.1 16 = .ok (.aload_n 0, 1) := by decide +kernel
theorem eX7_failedCommand_17 : decode rX7_failedCommand.2.1 17 = .ok (.aload_n 0, 1) := by decide +kernel
theorem eX7_failedCommand_18 : decode rX7_failedCommand.2.1 18 = .ok (.getfield 33, 3) := by decide +kernel
theorem eX7_failedCommand_21 : decode rX7_failedCommand.2.1 21 = .ok (.invokevirtual 97, 3) := by decide +kernel
theorem eX7_failedCommand_24 : decode rX7_failedCommand.2.1 24 = .ok (.ireturn, 1) := by decide +kernel
theorem eX7_undo_0 : decode rX7_undo.2.1 0 = .ok (.aload_n 0, 1) := by decide +kernel
theorem eX7_undo_1 : decode rX7_undo.2.1 1 = .ok (.getfield 49, 3) := by decide +kernel
theorem eX7_undo_4 : decode rX7_undo.2.1 4 = .ok (.ifCond .ne 9, 3) := by decide +kernel
theorem eX7_undo_7 : decode rX7_undo.2.1 7 = .ok (.aload_n 0, 1) := by decide +kernel
theorem eX7_undo_8 : decode rX7_undo.2.1 8 = .ok (.iconst 1, 1) := by decide +kernel
theorem eX7_undo_9 : decode rX7_undo.2.1 9 = .ok (.invokevirtual 90, 3) := by decide +kernel
theorem eX7_undo_12 : decode rX7_undo.2.1 12 = .ok (.ireturn, 1) := by decide +kernel
theorem eX7_undo_13 : decode rX7_undo.2.1 13 = .ok (.aload_n 0, 1) := by decide +kernel
theorem eX7_undo_14 : decode rX7_undo.2.1 14 = .ok (.dup, 1) := by decide +kernel
theorem eX7_undo_15 : decode rX7_undo.2.1 15 = .ok (.getfield 49, 3) := by decide +kernel
theorem eX7_undo_18 : decode rX7_undo.2.1 18 = .ok (.iconst 1, 1) := by decide +kernel
theorem eX7_undo_19 : decode rX7_undo.2.1 19 = .ok (.isub, 1) := by decide +kernel
theorem eX7_undo_20 : decode rX7_undo.2.1 20 = .ok (.putfield 49, 3) := by decide +kernel
theorem eX7_undo_23 : decode rX7_undo.2.1 23 = .ok (.aload_n 0, 1) := by decide +kernel
theorem eX7_undo_24 : decode rX7_undo.2.1 24 = .ok (.getfield 19, 3) := by decide +kernel
theorem eX7_undo_27 : decode rX7_undo.2.1 27 = .ok (.aload_n 0, 1) := by decide +kernel
theorem eX7_undo_28 : decode rX7_undo.2.1 28 = .ok (.getfield 49, 3) := by decide +kernel
theorem eX7_undo_31 : decode rX7_undo.2.1 31 = .ok (.sipush 141, 3) := by decide +kernel
theorem eX7_undo_34 : decode rX7_undo.2.1 34 = .ok (.imul, 1) := by decide +kernel
theorem eX7_undo_35 : decode rX7_undo.2.1 35 = .ok (.aload_n 0, 1) := by decide +kernel
theorem eX7_undo_36 : decode rX7_undo.2.1 36 = .ok (.getfield 7, 3) := by decide +kernel
theorem eX7_undo_39 : decode rX7_undo.2.1 39 = .ok (.iconst 0, 1) := by decide +kernel
theorem eX7_undo_40 : decode rX7_undo.2.1 40 = .ok (.invokestatic 45, 3) := by decide +kernel
theorem eX7_undo_43 : decode rX7_undo.2.1 43 = .ok (.aload_n 0, 1) := by decide +kernel
theorem eX7_undo_44 : decode rX7_undo.2.1 44 = .ok (.aload_n 0, 1) := by decide +kernel
theorem eX7_undo_45 : decode rX7_undo.2.1 45 = .ok (.getfield 49, 3) := by decide +kernel
theorem eX7_undo_48 : decode rX7_undo.2.1 48 = .ok (.invokevirtual 97, 3) := by decide +kernel
theorem eX7_undo_51 : decode rX7_undo.2.1 51 = .ok (.ireturn, 1) := by decide +kernel
theorem eX7_save_0 : decode rX7_save.2.1 0 = .ok (.aload_n 0, 1) := by decide +kernel
theorem eX7_save_1 : decode rX7_save.2.1 1 = .ok (.getfield 7, 3) := by decide +kernel
theorem eX7_save_4 : decode rX7_save.2.1 4 = .ok (.iconst 0, 1) := by decide +kernel
theorem eX7_save_5 : decode rX7_save.2.1 5 = .ok (.aload_n 0, 1) := by decide +kernel
theorem eX7_save_6 : decode rX7_save.2.1 6 = .ok (.getfield 22, 3) := by decide +kernel
theorem eX7_save_9 : decode rX7_save.2.1 9 = .ok (.iconst 0, 1) := by decide +kernel
theorem eX7_save_10 : decode rX7_save.2.1 10 = .ok (.invokestatic 45, 3) := by decide +kernel
theorem eX7_save_13 : decode rX7_save.2.1 13 = .ok (.aload_n 0, 1) := by decide +kernel
theorem eX7_save_14 : decode rX7_save.2.1 14 = .ok (.iconst 1, 1) := by decide +kernel
theorem eX7_save_15 : decode rX7_save.2.1 15 = .ok (.putfield 244, 3) := by decide +kernel
theorem eX7_save_18 : decode rX7_save.2.1 18 = .ok (.aload_n 0, 1) := by decide +kernel
theorem eX7_save_19 : decode rX7_save.2.1 19 = .ok (.aload_n 0, 1) := by decide +kernel
theorem eX7_save_20 : decode rX7_save.2.1 20 = .ok (.getfield 7, 3) := by decide +kernel
theorem eX7_save_23 : decode rX7_save.2.1 23 = .ok (.iconst 1, 1) := by decide +kernel
theorem eX7_save_24 : decode rX7_save.2.1 24 = .ok (.iaload, 1) := by decide +kernel
theorem eX7_save_25 : decode rX7_save.2.1 25 = .ok (.invokevirtual 97, 3) := by decide +kernel
theorem eX7_save_28 : decode rX7_save.2.1 28 = .ok (.ireturn, 1) := by decide +kernel
theorem eX7_restore_0 : decode rX7_restore.2.1 0 = .ok (.aload_n 0, 1) := by decide +kernel
theorem eX7_restore_1 : decode rX7_restore.2.1 1 = .ok (.getfield 244, 3) := by decide +kernel
theorem eX7_restore_4 : decode rX7_restore.2.1 4 = .ok (.ifCond .ne 9, 3) := by decide +kernel
theorem eX7_restore_7 : decode rX7_restore.2.1 7 = .ok (.aload_n 0, 1) := by decide +kernel
theorem eX7_restore_8 : decode rX7_restore.2.1 8 = .ok (.iconst 1, 1) := by decide +kernel
theorem eX7_restore_9 : decode rX7_restore.2.1 9 = .ok (.invokevirtual 90, 3) := by decide +kernel
theorem eX7_restore_12 : decode rX7_restore.2.1 12 = .ok (.ireturn, 1) := by decide +kernel
theorem eX7_restore_13 : decode rX7_restore.2.1 13 = .ok (.aload_n 0, 1) := by decide +kernel
theorem eX7_restore_14 : decode rX7_restore.2.1 14 = .ok (.getfield 22, 3) := by decide +kernel
theorem eX7_restore_17 : decode rX7_restore.2.1 17 = .ok (.iconst 0, 1) := by decide +kernel
theorem eX7_restore_18 : decode rX7_restore.2.1 18 = .ok (.aload_n 0, 1) := by decide +kernel
theorem eX7_restore_19 : decode rX7_restore.2.1 19 = .ok (.getfield 7, 3) := by decide +kernel
theorem eX7_restore_22 : decode rX7_restore.2.1 22 = .ok (.iconst 0, 1) := by decide +kernel
theorem eX7_restore_23 : decode rX7_restore.2.1 23 = .ok (.invokestatic 45, 3) := by decide +kernel
theorem eX7_restore_26 : decode rX7_restore.2.1 26 = .ok (.aload_n 0, 1) := by decide +kernel
theorem eX7_restore_27 : decode rX7_restore.2.1 27 = .ok (.iconst 0, 1) := by decide +kernel
theorem eX7_restore_28 : decode rX7_restore.2.1 28 = .ok (.putfield 49, 3) := by decide +kernel
theorem eX7_restore_31 : decode rX7_restore.2.1 31 = .ok (.aload_n 0, 1) := by decide +kernel
theorem eX7_restore_32 : decode rX7_restore.2.1 32 = .ok (.aload_n 0, 1) := by decide +kernel
theorem eX7_restore_33 : decode rX7_restore.2.1 33 = .ok (.getfield 7, 3) := by decide +kernel
theorem eX7_restore_36 : decode rX7_restore.2.1 36 = .ok (.iconst 1, 1) := by decide +kernel
theorem eX7_restore_37 : decode rX7_restore.2.1 37 = .ok (.iaload, 1) := by decide +kernel
theorem eX7_restore_38 : decode rX7_restore.2.1 38 = .ok (.invokevirtual 97, 3) := by decide +kernel
theorem eX7_restore_41 : decode rX7_restore.2.1 41 = .ok (.ireturn, 1) := by decide +kernel
