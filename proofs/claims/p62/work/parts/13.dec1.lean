theorem eX0_init_0 : decode rX0_init.2.1 0 = .ok (.aload_n 0, 1) := by decide +kernel
theorem eX0_init_1 : decode rX0_init.2.1 1 = .ok (.invokespecial 3, 3) := by decide +kernel
theorem eX0_init_4 : decode rX0_init.2.1 4 = .ok (.aload_n 0, 1) := by decide +kernel
theorem eX0_init_5 : decode rX0_init.2.1 5 = .ok (.iconst 3, 1) := by decide +kernel
theorem eX0_init_6 : decode rX0_init.2.1 6 = .ok (.anewarray 9, 3) := by decide +kernel
theorem eX0_init_9 : decode rX0_init.2.1 9 = .ok (.putfield 11, 3) := by decide +kernel
theorem eX0_init_12 : decode rX0_init.2.1 12 = .ok (.aload_n 0, 1) := by decide +kernel
theorem eX0_init_13 : decode rX0_init.2.1 13 = .ok (.bipush 12, 2) := by decide +kernel
theorem eX0_init_15 : decode rX0_init.2.1 15 = .ok (.anewarray 17, 3) := by decide +kernel
theorem eX0_init_18 : decode rX0_init.2.1 18 = .ok (.putfield 19, 3) := by decide +kernel
theorem eX0_init_21 : decode rX0_init.2.1 21 = .ok (.aload_n 0, 1) := by decide +kernel
theorem eX0_init_22 : decode rX0_init.2.1 22 = .ok (.new 23, 3) := by decide +kernel
theorem eX0_init_25 : decode rX0_init.2.1 25 = .ok (.dup, 1) := by decide +kernel
theorem eX0_init_26 : decode rX0_init.2.1 26 = .ok (.invokespecial 25, 3) := by decide +kernel
theorem eX0_init_29 : decode rX0_init.2.1 29 = .ok (.putfield 26, 3) := by decide +kernel
theorem eX0_init_32 : decode rX0_init.2.1 32 = .ok (.aload_n 0, 1) := by decide +kernel
theorem eX0_init_33 : decode rX0_init.2.1 33 = .ok (.iconst 0, 1) := by decide +kernel
theorem eX0_init_34 : decode rX0_init.2.1 34 = .ok (.putfield 30, 3) := by decide +kernel
theorem eX0_init_37 : decode rX0_init.2.1 37 = .ok (.aload_n 0, 1) := by decide +kernel
theorem eX0_init_38 : decode rX0_init.2.1 38 = .ok (.iconst 0, 1) := by decide +kernel
theorem eX0_init_39 : decode rX0_init.2.1 39 = .ok (.putfield 34, 3) := by decide +kernel
theorem eX0_init_42 : decode rX0_init.2.1 42 = .ok (.aload_n 0, 1) := by decide +kernel
theorem eX0_init_43 : decode rX0_init.2.1 43 = .ok (.iconst 0, 1) := by decide +kernel
theorem eX0_init_44 : decode rX0_init.2.1 44 = .ok (.putfield 37, 3) := by decide +kernel
theorem eX0_init_47 : decode rX0_init.2.1 47 = .ok (.aload_n 0, 1) := by decide +kernel
theorem eX0_init_48 : decode rX0_init.2.1 48 = .ok (.iconst 0, 1) := by decide +kernel
theorem eX0_init_49 : decode rX0_init.2.1 49 = .ok (.putfield 40, 3) := by decide +kernel
theorem eX0_init_52 : decode rX0_init.2.1 52 = .ok (.aload_n 0, 1) := by decide +kernel
theorem eX0_init_53 : decode rX0_init.2.1 53 = .ok (.iconst 0, 1) := by decide +kernel
theorem eX0_init_54 : decode rX0_init.2.1 54 = .ok (.putfield 43, 3) := by decide +kernel
theorem eX0_init_57 : decode rX0_init.2.1 57 = .ok (.aload_n 0, 1) := by decide +kernel
theorem eX0_init_58 : decode rX0_init.2.1 58 = .ok (.iconst 0, 1) := by decide +kernel
theorem eX0_init_59 : decode rX0_init.2.1 59 = .ok (.putfield 46, 3) := by decide +kernel
theorem eX0_init_62 : decode rX0_init.2.1 62 = .ok (.aload_n 0, 1) := by decide +kernel
theorem eX0_init_63 : decode rX0_init.2.1 63 = .ok (.iconst 0, 1) := by decide +kernel
theorem eX0_init_64 : decode rX0_init.2.1 64 = .ok (.putfield 49, 3) := by decide +kernel
theorem eX0_init_67 : decode rX0_init.2.1 67 = .ok (.iconst 0, 1) := by decide +kernel
theorem eX0_init_68 : decode rX0_init.2.1 68 = .ok (.istore_n 1, 1) := by decide +kernel
theorem eX0_init_69 : decode rX0_init.2.1 69 = .ok (.iload_n 1, 1) := by decide +kernel
theorem eX0_init_70 : decode rX0_init.2.1 70 = .ok (.iconst 3, 1) := by decide +kernel
theorem eX0_init_71 : decode rX0_init.2.1 71 = .ok (.if_icmp .ge 22, 3) := by decide +kernel
theorem eX0_init_74 : decode rX0_init.2.1 74 = .ok (.aload_n 0, 1) := by decide +kernel
theorem eX0_init_75 : decode rX0_init.2.1 75 = .ok (.getfield 11, 3) := by decide +kernel
theorem eX0_init_78 : decode rX0_init.2.1 78 = .ok (.iload_n 1, 1) := by decide +kernel
theorem eX0_init_79 : decode rX0_init.2.1 79 = .ok (.new 9, 3) := by decide +kernel
theorem eX0_init_82 : decode rX0_init.2.1 82 = .ok (.dup, 1) := by decide +kernel
theorem eX0_init_83 : decode rX0_init.2.1 83 = .ok (.invokespecial 52, 3) := by decide +kernel
theorem eX0_init_86 : decode rX0_init.2.1 86 = .ok (.aastore, 1) := by decide +kernel
theorem eX0_init_87 : decode rX0_init.2.1 87 = .ok (.iinc 1 1, 3) := by decide +kernel
theorem eX0_init_90 : decode rX0_init.2.1 90 = .ok (.goto (-21), 3) := by decide +kernel
theorem eX0_init_93 : decode rX0_init.2.1 93 = .ok (.iconst 0, 1) := by decide +kernel
theorem eX0_init_94 : decode rX0_init.2.1 94 = .ok (.istore_n 1, 1) := by decide +kernel
theorem eX0_init_95 : decode rX0_init.2.1 95 = .ok (.iload_n 1, 1) := by decide +kernel
theorem eX0_init_96 : decode rX0_init.2.1 96 = .ok (.bipush 12, 2) := by decide +kernel
theorem eX0_init_98 : decode rX0_init.2.1 98 = .ok (.if_icmp .ge 22, 3) := by decide +kernel
theorem eX0_init_101 : decode rX0_init.2.1 101 = .ok (.aload_n 0, 1) := by decide +kernel
theorem eX0_init_102 : decode rX0_init.2.1 102 = .ok (.getfield 19, 3) := by decide +kernel
theorem eX0_init_105 : decode rX0_init.2.1 105 = .ok (.iload_n 1, 1) := by decide +kernel
theorem eX0_init_106 : decode rX0_init.2.1 106 = .ok (.new 17, 3) := by decide +kernel
theorem eX0_init_109 : decode rX0_init.2.1 109 = .ok (.dup, 1) := by decide +kernel
theorem eX0_init_110 : decode rX0_init.2.1 110 = .ok (.invokespecial 53, 3) := by decide +kernel
theorem eX0_init_113 : decode rX0_init.2.1 113 = .ok (.aastore, 1) := by decide +kernel
theorem eX0_init_114 : decode rX0_init.2.1 114 = .ok (.iinc 1 1, 3) := by decide +kernel
theorem eX0_init_117 : decode rX0_init.2.1 117 = .ok (.goto (-22), 3) := by decide +kernel
theorem eX0_init_120 : decode rX0_init.2.1 120 = .ok (.return_, 1) := by decide +kernel
theorem eX0_copyFrom_0 : decode rX0_copyFrom.2.1 0 = .ok (.iconst 0, 1) := by decide +kernel
theorem eX0_copyFrom_1 : decode rX0_copyFrom.2.1 1 = .ok (.istore_n 2, 1) := by decide +kernel
theorem eX0_copyFrom_2 : decode rX0_copyFrom.2.1 2 = .ok (.iload_n 2, 1) := by decide +kernel
theorem eX0_copyFrom_3 : decode rX0_copyFrom.2.1 3 = .ok (.iconst 3, 1) := by decide +kernel
theorem eX0_copyFrom_4 : decode rX0_copyFrom.2.1 4 = .ok (.if_icmp .ge 24, 3) := by decide +kernel
theorem eX0_copyFrom_7 : decode rX0_copyFrom.2.1 7 = .ok (.aload_n 0, 1) := by decide +kernel
theorem eX0_copyFrom_8 : decode rX0_copyFrom.2.1 8 = .ok (.getfield 11, 3) := by decide +kernel
theorem eX0_copyFrom_11 : decode rX0_copyFrom.2.1 11 = .ok (.iload_n 2, 1) := by decide +kernel
theorem eX0_copyFrom_12 : decode rX0_copyFrom.2.1 12 = .ok (.aaload, 1) := by decide +kernel
theorem eX0_copyFrom_13 : decode rX0_copyFrom.2.1 13 = .ok (.aload_n 1, 1) := by decide +kernel
theorem eX0_copyFrom_14 : decode rX0_copyFrom.2.1 14 = .ok (.getfield 11, 3) := by decide +kernel
theorem eX0_copyFrom_17 : decode rX0_copyFrom.2.1 17 = .ok (.iload_n 2, 1) := by decide +kernel
theorem eX0_copyFrom_18 : decode rX0_copyFrom.2.1 18 = .ok (.aaload, 1) := by decide +kernel
theorem eX0_copyFrom_19 : decode rX0_copyFrom.2.1 19 = .ok (.invokevirtual 54, 3) := by decide +kernel
theorem eX0_copyFrom_22 : decode rX0_copyFrom.2.1 22 = .ok (.iinc 2 1, 3) := by decide +kernel
theorem eX0_copyFrom_25 : decode rX0_copyFrom.2.1 25 = .ok (.goto (-23), 3) := by decide +kernel
theorem eX0_copyFrom_28 : decode rX0_copyFrom.2.1 28 = .ok (.iconst 0, 1) := by decide +kernel
theorem eX0_copyFrom_29 : decode rX0_copyFrom.2.1 29 = .ok (.istore_n 2, 1) := by decide +kernel
theorem eX0_copyFrom_30 : decode rX0_copyFrom.2.1 30 = .ok (.iload_n 2, 1) := by decide +kernel
theorem eX0_copyFrom_31 : decode rX0_copyFrom.2.1 31 = .ok (.aload_n 1, 1) := by decide +kernel
theorem eX0_copyFrom_32 : decode rX0_copyFrom.2.1 32 = .ok (.getfield 30, 3) := by decide +kernel
theorem eX0_copyFrom_35 : decode rX0_copyFrom.2.1 35 = .ok (.if_icmp .ge 24, 3) := by decide +kernel
theorem eX0_copyFrom_38 : decode rX0_copyFrom.2.1 38 = .ok (.aload_n 0, 1) := by decide +kernel
theorem eX0_copyFrom_39 : decode rX0_copyFrom.2.1 39 = .ok (.getfield 19, 3) := by decide +kernel
theorem eX0_copyFrom_42 : decode rX0_copyFrom.2.1 42 = .ok (.iload_n 2, 1) := by decide +kernel
theorem eX0_copyFrom_43 : decode rX0_copyFrom.2.1 43 = .ok (.aaload, 1) := by decide +kernel
theorem eX0_copyFrom_44 : decode rX0_copyFrom.2.1 44 = .ok (.aload_n 1, 1) := by decide +kernel
theorem eX0_copyFrom_45 : decode rX0_copyFrom.2.1 45 = .ok (.getfield 19, 3) := by decide +kernel
theorem eX0_copyFrom_48 : decode rX0_copyFrom.2.1 48 = .ok (.iload_n 2, 1) := by decide +kernel
theorem eX0_copyFrom_49 : decode rX0_copyFrom.2.1 49 = .ok (.aaload, 1) := by decide +kernel
theorem eX0_copyFrom_50 : decode rX0_copyFrom.2.1 50 = .ok (.invokevirtual 58, 3) := by decide +kernel
theorem eX0_copyFrom_53 : decode rX0_copyFrom.2.1 53 = .ok (.iinc 2 1, 3) := by decide +kernel
theorem eX0_copyFrom_56 : decode rX0_copyFrom.2.1 56 = .ok (.goto (-26), 3) := by decide +kernel
theorem eX0_copyFrom_59 : decode rX0_copyFrom.2.1 59 = .ok (.aload_n 0, 1) := by decide +kernel
theorem eX0_copyFrom_60 : decode rX0_copyFrom.2.1 60 = .ok (.getfield 26, 3) := by decide +kernel
theorem eX0_copyFrom_63 : decode rX0_copyFrom.2.1 63 = .ok (.aload_n 1, 1) := by decide +kernel
theorem eX0_copyFrom_64 : decode rX0_copyFrom.2.1 64 = .ok (.getfield 26, 3) := by decide +kernel
theorem eX0_copyFrom_67 : decode rX0_copyFrom.2.1 67 = .ok (.invokevirtual 61, 3) := by decide +kernel
theorem eX0_copyFrom_70 : decode rX0_copyFrom.2.1 70 = .ok (.aload_n 0, 1) := by decide +kernel
theorem eX0_copyFrom_71 : decode rX0_copyFrom.2.1 71 = .ok (.aload_n 1, 1) := by decide +kernel
theorem eX0_copyFrom_72 : decode rX0_copyFrom.2.1 72 = .ok (.getfield 30, 3) := by decide +kernel
theorem eX0_copyFrom_75 : decode rX0_copyFrom.2.1 75 = .ok (.putfield 30, 3) := by decide +kernel
theorem eX0_copyFrom_78 : decode rX0_copyFrom.2.1 78 = .ok (.aload_n 0, 1) := by decide +kernel
theorem eX0_copyFrom_79 : decode rX0_copyFrom.2.1 79 = .ok (.aload_n 1, 1) := by decide +kernel
theorem eX0_copyFrom_80 : decode rX0_copyFrom.2.1 80 = .ok (.getfield 34, 3) := by decide +kernel
theorem eX0_copyFrom_83 : decode rX0_copyFrom.2.1 83 = .ok (.putfield 34, 3) := by decide +kernel
theorem eX0_copyFrom_86 : decode rX0_copyFrom.2.1 86 = .ok (.aload_n 0, 1) := by decide +kernel
theorem eX0_copyFrom_87 : decode rX0_copyFrom.2.1 87 = .ok (.aload_n 1, 1) := by decide +kernel
theorem eX0_copyFrom_88 : decode rX0_copyFrom.2.1 88 = .ok (.getfield 37, 3) := by decide +kernel
theorem eX0_copyFrom_91 : decode rX0_copyFrom.2.1 91 = .ok (.putfield 37, 3) := by decide +kernel
theorem eX0_copyFrom_94 : decode rX0_copyFrom.2.1 94 = .ok (.aload_n 0, 1) := by decide +kernel
theorem eX0_copyFrom_95 : decode rX0_copyFrom.2.1 95 = .ok (.aload_n 1, 1) := by decide +kernel
theorem eX0_copyFrom_96 : decode rX0_copyFrom.2.1 96 = .ok (.getfield 40, 3) := by decide +kernel
theorem eX0_copyFrom_99 : decode rX0_copyFrom.2.1 99 = .ok (.putfield 40, 3) := by decide +kernel
theorem eX0_copyFrom_102 : decode rX0_copyFrom.2.1 102 = .ok (.aload_n 0, 1) := by decide +kernel
theorem eX0_copyFrom_103 : decode rX0_copyFrom.2.1 103 = .ok (.aload_n 1, 1) := by decide +kernel
theorem eX0_copyFrom_104 : decode rX0_copyFrom.2.1 104 = .ok (.getfield 43, 3) := by decide +kernel
theorem eX0_copyFrom_107 : decode rX0_copyFrom.2.1 107 = .ok (.putfield 43, 3) := by decide +kernel
theorem eX0_copyFrom_110 : decode rX0_copyFrom.2.1 110 = .ok (.aload_n 0, 1) := by decide +kernel
theorem eX0_copyFrom_111 : decode rX0_copyFrom.2.1 111 = .ok (.aload_n 1, 1) := by decide +kernel
theorem eX0_copyFrom_112 : decode rX0_copyFrom.2.1 112 = .ok (.getfield 46, 3) := by decide +kernel
theorem eX0_copyFrom_115 : decode rX0_copyFrom.2.1 115 = .ok (.putfield 46, 3) := by decide +kernel
theorem eX0_copyFrom_118 : decode rX0_copyFrom.2.1 118 = .ok (.aload_n 0, 1) := by decide +kernel
theorem eX0_copyFrom_119 : decode rX0_copyFrom.2.1 119 = .ok (.aload_n 1, 1) := by decide +kernel
theorem eX0_copyFrom_120 : decode rX0_copyFrom.2.1 120 = .ok (.getfield 49, 3) := by decide +kernel
theorem eX0_copyFrom_123 : decode rX0_copyFrom.2.1 123 = .ok (.putfield 49, 3) := by decide +kernel
theorem eX0_copyFrom_126 : decode rX0_copyFrom.2.1 126 = .ok (.return_, 1) := by decide +kernel
theorem eX0_refusalToAdd_0 : decode rX0_refusalToAdd.2.1 0 = .ok (.iload_n 1, 1) := by decide +kernel
theorem eX0_refusalToAdd_1 : decode rX0_refusalToAdd.2.1 1 = .ok (.invokestatic 64, 3) := by decide +kernel
theorem eX0_refusalToAdd_4 : decode rX0_refusalToAdd.2.1 4 = .ok (.ifCond .eq 22, 3) := by decide +kernel
theorem eX0_refusalToAdd_7 : decode rX0_refusalToAdd.2.1 7 = .ok (.iload_n 2, 1) := by decide +kernel
theorem eX0_refusalToAdd_8 : decode rX0_refusalToAdd.2.1 8 = .ok (.invokestatic 64, 3) := by decide +kernel
theorem eX0_refusalToAdd_11 : decode rX0_refusalToAdd.2.1 11 = .ok (.ifCond .eq 15, 3) := by decide +kernel
theorem eX0_refusalToAdd_14 : decode rX0_refusalToAdd.2.1 14 = .ok (.iload_n 1, 1) := by decide +kernel
theorem eX0_refusalToAdd_15 : decode rX0_refusalToAdd.2.1 15 = .ok (.iload_n 2, 1) := by decide +kernel
theorem eX0_refusalToAdd_16 : decode rX0_refusalToAdd.2.1 16 = .ok (.if_icmp .eq 10, 3) := by decide +kernel
theorem eX0_refusalToAdd_19 : decode rX0_refusalToAdd.2.1 19 = .ok (.iload_n 3, 1) := by decide +kernel
theorem eX0_refusalToAdd_20 : decode rX0_refusalToAdd.2.1 20 = .ok (.invokestatic 68, 3) := by decide +kernel
theorem eX0_refusalToAdd_23 : decode rX0_refusalToAdd.2.1 23 = .ok (.ifCond .ne 5, 3) := by decide +kernel
theorem eX0_refusalToAdd_26 : decode rX0_refusalToAdd.2.1 26 = .ok (.iconst 2, 1) := by decide +kernel
theorem eX0_refusalToAdd_27 : decode rX0_refusalToAdd.2.1 27 = .ok (.ireturn, 1) := by decide +kernel
theorem eX0_refusalToAdd_28 : decode rX0_refusalToAdd.2.1 28 = .ok (.aload_n 0, 1) := by decide +kernel
theorem eX0_refusalToAdd_29 : decode rX0_refusalToAdd.2.1 29 = .ok (.getfield 30, 3) := by decide +kernel
theorem eX0_refusalToAdd_32 : decode rX0_refusalToAdd.2.1 32 = .ok (.bipush 12, 2) := by decide +kernel
theorem eX0_refusalToAdd_34 : decode rX0_refusalToAdd.2.1 34 = .ok (.if_icmp .ge 7, 3) := by decide +kernel
theorem eX0_refusalToAdd_37 : decode rX0_refusalToAdd.2.1 37 = .ok (.iconst 0, 1) := by decide +kernel
theorem eX0_refusalToAdd_38 : decode rX0_refusalToAdd.2.1 38 = .ok (.goto 4, 3) := by decide +kernel
theorem eX0_refusalToAdd_41 : decode rX0_refusalToAdd.2.1 41 = .ok (.iconst 3, 1) := by decide +kernel
theorem eX0_refusalToAdd_42 : decode rX0_refusalToAdd.2.1 42 = .ok (.ireturn, 1) := by decide +kernel
theorem eX0_add_0 : decode rX0_add.2.1 0 = .ok (.aload_n 0, 1) := by decide +kernel
theorem eX0_add_1 : decode rX0_add.2.1 1 = .ok (.getfield 19, 3) := by decide +kernel
theorem eX0_add_4 : decode rX0_add.2.1 4 = .ok (.aload_n 0, 1) := by decide +kernel
theorem eX0_add_5 : decode rX0_add.2.1 5 = .ok (.getfield 30, 3) := by decide +kernel
theorem eX0_add_8 : decode rX0_add.2.1 8 = .ok (.aaload, 1) := by decide +kernel
theorem eX0_add_9 : decode rX0_add.2.1 9 = .ok (.astore 4, 2) := by decide +kernel
theorem eX0_add_11 : decode rX0_add.2.1 11 = .ok (.aload_n 0, 1) := by decide +kernel
theorem eX0_add_12 : decode rX0_add.2.1 12 = .ok (.dup, 1) := by decide +kernel
theorem eX0_add_13 : decode rX0_add.2.1 13 = .ok (.getfield 34, 3) := by decide +kernel
theorem eX0_add_16 : decode rX0_add.2.1 16 = .ok (.iconst 1, 1) := by decide +kernel
theorem eX0_add_17 : decode rX0_add.2.1 17 = .ok (.iadd, 1) := by decide +kernel
theorem eX0_add_18 : decode rX0_add.2.1 18 = .ok (.putfield 34, 3) := by decide +kernel
theorem eX0_add_21 : decode rX0_add.2.1 21 = .ok (.aload 4, 2) := by decide +kernel
theorem eX0_add_23 : decode rX0_add.2.1 23 = .ok (.aload_n 0, 1) := by decide +kernel
theorem eX0_add_24 : decode rX0_add.2.1 24 = .ok (.getfield 34, 3) := by decide +kernel
theorem eX0_add_27 : decode rX0_add.2.1 27 = .ok (.putfield 71, 3) := by decide +kernel
theorem eX0_add_30 : decode rX0_add.2.1 30 = .ok (.aload 4, 2) := by decide +kernel
theorem eX0_add_32 : decode rX0_add.2.1 32 = .ok (.iload_n 1, 1) := by decide +kernel
theorem eX0_add_33 : decode rX0_add.2.1 33 = .ok (.putfield 74, 3) := by decide +kernel
theorem eX0_add_36 : decode rX0_add.2.1 36 = .ok (.aload 4, 2) := by decide +kernel
theorem eX0_add_38 : decode rX0_add.2.1 38 = .ok (.iload_n 2, 1) := by decide +kernel
theorem eX0_add_39 : decode rX0_add.2.1 39 = .ok (.putfield 77, 3) := by decide +kernel
theorem eX0_add_42 : decode rX0_add.2.1 42 = .ok (.aload 4, 2) := by decide +kernel
theorem eX0_add_44 : decode rX0_add.2.1 44 = .ok (.iload_n 3, 1) := by decide +kernel
theorem eX0_add_45 : decode rX0_add.2.1 45 = .ok (.putfield 80, 3) := by decide +kernel
theorem eX0_add_48 : decode rX0_add.2.1 48 = .ok (.aload 4, 2) := by decide +kernel
theorem eX0_add_50 : decode rX0_add.2.1 50 = .ok (.iconst 0, 1) := by decide +kernel
theorem eX0_add_51 : decode rX0_add.2.1 51 = .ok (.putfield 83, 3) := by decide +kernel
theorem eX0_add_54 : decode rX0_add.2.1 54 = .ok (.aload 4, 2) := by decide +kernel
theorem eX0_add_56 : decode rX0_add.2.1 56 = .ok (.iconst 0, 1) := by decide +kernel
theorem eX0_add_57 : decode rX0_add.2.1 57 = .ok (.putfield 86, 3) := by decide +kernel
theorem eX0_add_60 : decode rX0_add.2.1 60 = .ok (.aload 4, 2) := by decide +kernel
theorem eX0_add_62 : decode rX0_add.2.1 62 = .ok (.aload_n 0, 1) := by decide +kernel
theorem eX0_add_63 : decode rX0_add.2.1 63 = .ok (.iload_n 1, 1) := by decide +kernel
theorem eX0_add_64 : decode rX0_add.2.1 64 = .ok (.iload_n 3, 1) := by decide +kernel
theorem eX0_add_65 : decode rX0_add.2.1 65 = .ok (.invokevirtual 90, 3) := by decide +kernel
theorem eX0_add_68 : decode rX0_add.2.1 68 = .ok (.putfield 94, 3) := by decide +kernel
theorem eX0_add_71 : decode rX0_add.2.1 71 = .ok (.aload_n 0, 1) := by decide +kernel
theorem eX0_add_72 : decode rX0_add.2.1 72 = .ok (.dup, 1) := by decide +kernel
theorem eX0_add_73 : decode rX0_add.2.1 73 = .ok (.getfield 30, 3) := by decide +kernel
theorem eX0_add_76 : decode rX0_add.2.1 76 = .ok (.iconst 1, 1) := by decide +kernel
theorem eX0_add_77 : decode rX0_add.2.1 77 = .ok (.iadd, 1) := by decide +kernel
theorem eX0_add_78 : decode rX0_add.2.1 78 = .ok (.putfield 30, 3) := by decide +kernel
theorem eX0_add_81 : decode rX0_add.2.1 81 = .ok (.aload_n 0, 1) := by decide +kernel
theorem eX0_add_82 : decode rX0_add.2.1 82 = .ok (.getfield 30, 3) := by decide +kernel
theorem eX0_add_85 : decode rX0_add.2.1 85 = .ok (.iconst 1, 1) := by decide +kernel
theorem eX0_add_86 : decode rX0_add.2.1 86 = .ok (.isub, 1) := by decide +kernel
theorem eX0_add_87 : decode rX0_add.2.1 87 = .ok (.ireturn, 1) := by decide +kernel
theorem eX0_refusalToRemove_0 : decode rX0_refusalToRemove.2.1 0 = .ok (.aload_n 0, 1) := by decide +kernel
theorem eX0_refusalToRemove_1 : decode rX0_refusalToRemove.2.1 1 = .ok (.iload_n 1, 1) := by decide +kernel
theorem eX0_refusalToRemove_2 : decode rX0_refusalToRemove.2.1 2 = .ok (.invokevirtual 97, 3) := by decide +kernel
theorem eX0_refusalToRemove_5 : decode rX0_refusalToRemove.2.1 5 = .ok (.ifCond .ne 5, 3) := by decide +kernel
theorem eX0_refusalToRemove_8 : decode rX0_refusalToRemove.2.1 8 = .ok (.iconst 1, 1) := by decide +kernel
theorem eX0_refusalToRemove_9 : decode rX0_refusalToRemove.2.1 9 = .ok (.ireturn, 1) := by decide +kernel
theorem eX0_refusalToRemove_10 : decode rX0_refusalToRemove.2.1 10 = .ok (.aload_n 0, 1) := by decide +kernel
theorem eX0_refusalToRemove_11 : decode rX0_refusalToRemove.2.1 11 = .ok (.getfield 19, 3) := by decide +kernel
theorem eX0_refusalToRemove_14 : decode rX0_refusalToRemove.2.1 14 = .ok (.iload_n 1, 1) := by decide +kernel
theorem eX0_refusalToRemove_15 : decode rX0_refusalToRemove.2.1 15 = .ok (.aaload, 1) := by decide +kernel
theorem eX0_refusalToRemove_16 : decode rX0_refusalToRemove.2.1 16 = .ok (.getfield 86, 3) := by decide +kernel
theorem eX0_refusalToRemove_19 : decode rX0_refusalToRemove.2.1 19 = .ok (.ifCond .eq 7, 3) := by decide +kernel
theorem eX0_refusalToRemove_22 : decode rX0_refusalToRemove.2.1 22 = .ok (.iconst 3, 1) := by decide +kernel
theorem eX0_refusalToRemove_23 : decode rX0_refusalToRemove.2.1 23 = .ok (.goto 4, 3) := by decide +kernel
theorem eX0_refusalToRemove_26 : decode rX0_refusalToRemove.2.1 26 = .ok (.iconst 0, 1) := by decide +kernel
theorem eX0_refusalToRemove_27 : decode rX0_refusalToRemove.2.1 27 = .ok (.ireturn, 1) := by decide +kernel
theorem eX0_remove_0 : decode rX0_remove.2.1 0 = .ok (.aload_n 0, 1) := by decide +kernel
theorem eX0_remove_1 : decode rX0_remove.2.1 1 = .ok (.getfield 19, 3) := by decide +kernel
theorem eX0_remove_4 : decode rX0_remove.2.1 4 = .ok (.iload_n 1, 1) := by decide +kernel
theorem eX0_remove_5 : decode rX0_remove.2.1 5 = .ok (.aaload, 1) := by decide +kernel
theorem eX0_remove_6 : decode rX0_remove.2.1 6 = .ok (.astore_n 2, 1) := by decide +kernel
theorem eX0_remove_7 : decode rX0_remove.2.1 7 = .ok (.aload_n 0, 1) := by decide +kernel
theorem eX0_remove_8 : decode rX0_remove.2.1 8 = .ok (.dup, 1) := by decide +kernel
theorem eX0_remove_9 : decode rX0_remove.2.1 9 = .ok (.getfield 30, 3) := by decide +kernel
theorem eX0_remove_12 : decode rX0_remove.2.1 12 = .ok (.iconst 1, 1) := by decide +kernel
theorem eX0_remove_13 : decode rX0_remove.2.1 13 = .ok (.isub, 1) := by decide +kernel
theorem eX0_remove_14 : decode rX0_remove.2.1 14 = .ok (.putfield 30, 3) := by decide +kernel
theorem eX0_remove_17 : decode rX0_remove.2.1 17 = .ok (.iload_n 1, 1) := by decide +kernel
theorem eX0_remove_18 : decode rX0_remove.2.1 18 = .ok (.istore_n 3, 1) := by decide +kernel
theorem eX0_remove_19 : decode rX0_remove.2.1 19 = .ok (.iload_n 3, 1) := by decide +kernel
theorem eX0_remove_20 : decode rX0_remove.2.1 20 = .ok (.aload_n 0, 1) := by decide +kernel
theorem eX0_remove_21 : decode rX0_remove.2.1 21 = .ok (.getfield 30, 3) := by decide +kernel
theorem eX0_remove_24 : decode rX0_remove.2.1 24 = .ok (.if_icmp .ge 23, 3) := by decide +kernel
theorem eX0_remove_27 : decode rX0_remove.2.1 27 = .ok (.aload_n 0, 1) := by decide +kernel
theorem eX0_remove_28 : decode rX0_remove.2.1 28 = .ok (.getfield 19, 3) := by decide +kernel
theorem eX0_remove_31 : decode rX0_remove.2.1 31 = .ok (.iload_n 3, 1) := by decide +kernel
theorem eX0_remove_32 : decode rX0_remove.2.1 32 = .ok (.aload_n 0, 1) := by decide +kernel
theorem eX0_remove_33 : decode rX0_remove.2.1 33 = .ok (.getfield 19, 3) := by decide +kernel
theorem eX0_remove_36 : decode rX0_remove.2.1 36 = .ok (.iload_n 3, 1) := by decide +kernel
theorem eX0_remove_37 : decode rX0_remove.2.1 37 = .ok (.iconst 1, 1) := by decide +kernel
theorem eX0_remove_38 : decode rX0_remove.2.1 38 = .ok (.iadd, 1) := by decide +kernel
theorem eX0_remove_39 : decode rX0_remove.2.1 39 = .ok (.aaload, 1) := by decide +kernel
theorem eX0_remove_40 : decode rX0_remove.2.1 40 = .ok (.aastore, 1) := by decide +kernel
theorem eX0_remove_41 : decode rX0_remove.2.1 41 = .ok (.iinc 3 1, 3) := by decide +kernel
theorem eX0_remove_44 : decode rX0_remove.2.1 44 = .ok (.goto (-25), 3) := by decide +kernel
theorem eX0_remove_47 : decode rX0_remove.2.1 47 = .ok (.aload_n 0, 1) := by decide +kernel
theorem eX0_remove_48 : decode rX0_remove.2.1 48 = .ok (.getfield 19, 3) := by decide +kernel
theorem eX0_remove_51 : decode rX0_remove.2.1 51 = .ok (.aload_n 0, 1) := by decide +kernel
theorem eX0_remove_52 : decode rX0_remove.2.1 52 = .ok (.getfield 30, 3) := by decide +kernel
theorem eX0_remove_55 : decode rX0_remove.2.1 55 = .ok (.aload_n 2, 1) := by decide +kernel
theorem eX0_remove_56 : decode rX0_remove.2.1 56 = .ok (.aastore, 1) := by decide +kernel
theorem eX0_remove_57 : decode rX0_remove.2.1 57 = .ok (.aload_n 2, 1) := by decide +kernel
theorem eX0_remove_58 : decode rX0_remove.2.1 58 = .ok (.getfield 71, 3) := by decide +kernel
theorem eX0_remove_61 : decode rX0_remove.2.1 61 = .ok (.ireturn, 1) := by decide +kernel
theorem eX0_refusalToHold_0 : decode rX0_refusalToHold.2.1 0 = .ok (.iload_n 1, 1) := by decide +kernel
theorem eX0_refusalToHold_1 : decode rX0_refusalToHold.2.1 1 = .ok (.invokestatic 100, 3) := by decide +kernel
theorem eX0_refusalToHold_4 : decode rX0_refusalToHold.2.1 4 = .ok (.ifCond .ne 5, 3) := by decide +kernel
theorem eX0_refusalToHold_7 : decode rX0_refusalToHold.2.1 7 = .ok (.iconst 1, 1) := by decide +kernel
theorem eX0_refusalToHold_8 : decode rX0_refusalToHold.2.1 8 = .ok (.ireturn, 1) := by decide +kernel
theorem eX0_refusalToHold_9 : decode rX0_refusalToHold.2.1 9 = .ok (.iload_n 2, 1) := by decide +kernel
theorem eX0_refusalToHold_10 : decode rX0_refusalToHold.2.1 10 = .ok (.iconst 1, 1) := by decide +kernel
theorem eX0_refusalToHold_11 : decode rX0_refusalToHold.2.1 11 = .ok (.if_icmp .lt 8, 3) := by decide +kernel
theorem eX0_refusalToHold_14 : decode rX0_refusalToHold.2.1 14 = .ok (.iload_n 2, 1) := by decide +kernel
theorem eX0_refusalToHold_15 : decode rX0_refusalToHold.2.1 15 = .ok (.iconst 3, 1) := by decide +kernel
theorem eX0_refusalToHold_16 : decode rX0_refusalToHold.2.1 16 = .ok (.if_icmp .le 5, 3) := by decide +kernel
theorem eX0_refusalToHold_19 : decode rX0_refusalToHold.2.1 19 = .ok (.iconst 2, 1) := by decide +kernel
theorem eX0_refusalToHold_20 : decode rX0_refusalToHold.2.1 20 = .ok (.ireturn, 1) := by decide +kernel
theorem eX0_refusalToHold_21 : decode rX0_refusalToHold.2.1 21 = .ok (.aload_n 0, 1) := by decide +kernel
theorem eX0_refusalToHold_22 : decode rX0_refusalToHold.2.1 22 = .ok (.getfield 11, 3) := by decide +kernel
theorem eX0_refusalToHold_25 : decode rX0_refusalToHold.2.1 25 = .ok (.iload_n 1, 1) := by decide +kernel
theorem eX0_refusalToHold_26 : decode rX0_refusalToHold.2.1 26 = .ok (.aaload, 1) := by decide +kernel
theorem eX0_refusalToHold_27 : decode rX0_refusalToHold.2.1 27 = .ok (.getfield 103, 3) := by decide +kernel
theorem eX0_refusalToHold_30 : decode rX0_refusalToHold.2.1 30 = .ok (.ifCond .le 7, 3) := by decide +kernel
theorem eX0_refusalToHold_33 : decode rX0_refusalToHold.2.1 33 = .ok (.iconst 0, 1) := by decide +kernel
theorem eX0_refusalToHold_34 : decode rX0_refusalToHold.2.1 34 = .ok (.goto 4, 3) := by decide +kernel
theorem eX0_refusalToHold_37 : decode rX0_refusalToHold.2.1 37 = .ok (.iconst 3, 1) := by decide +kernel
theorem eX0_refusalToHold_38 : decode rX0_refusalToHold.2.1 38 = .ok (.ireturn, 1) := by decide +kernel
theorem eX0_hold_0 : decode rX0_hold.2.1 0 = .ok (.aload_n 0, 1) := by decide +kernel
theorem eX0_hold_1 : decode rX0_hold.2.1 1 = .ok (.getfield 11, 3) := by decide +kernel
theorem eX0_hold_4 : decode rX0_hold.2.1 4 = .ok (.iload_n 1, 1) := by decide +kernel
theorem eX0_hold_5 : decode rX0_hold.2.1 5 = .ok (.aaload, 1) := by decide +kernel
theorem eX0_hold_6 : decode rX0_hold.2.1 6 = .ok (.getfield 103, 3) := by decide +kernel
theorem eX0_hold_9 : decode rX0_hold.2.1 9 = .ok (.istore_n 3, 1) := by decide +kernel
theorem eX0_hold_10 : decode rX0_hold.2.1 10 = .ok (.aload_n 0, 1) := by decide +kernel
theorem eX0_hold_11 : decode rX0_hold.2.1 11 = .ok (.getfield 11, 3) := by decide +kernel
theorem eX0_hold_14 : decode rX0_hold.2.1 14 = .ok (.iload_n 1, 1) := by decide +kernel
theorem eX0_hold_15 : decode rX0_hold.2.1 15 = .ok (.aaload, 1) := by decide +kernel
theorem eX0_hold_16 : decode rX0_hold.2.1 16 = .ok (.iload_n 2, 1) := by decide +kernel
theorem eX0_hold_17 : decode rX0_hold.2.1 17 = .ok (.putfield 103, 3) := by decide +kernel
theorem eX0_hold_20 : decode rX0_hold.2.1 20 = .ok (.iload_n 3, 1) := by decide +kernel
theorem eX0_hold_21 : decode rX0_hold.2.1 21 = .ok (.ireturn, 1) := by decide +kernel
theorem eX0_refusalToStop_0 : decode rX0_refusalToStop.2.1 0 = .ok (.iload_n 1, 1) := by decide +kernel
theorem eX0_refusalToStop_1 : decode rX0_refusalToStop.2.1 1 = .ok (.invokestatic 100, 3) := by decide +kernel
theorem eX0_refusalToStop_4 : decode rX0_refusalToStop.2.1 4 = .ok (.ifCond .ne 5, 3) := by decide +kernel
theorem eX0_refusalToStop_7 : decode rX0_refusalToStop.2.1 7 = .ok (.iconst 1, 1) := by decide +kernel
theorem eX0_refusalToStop_8 : decode rX0_refusalToStop.2.1 8 = .ok (.ireturn, 1) := by decide +kernel
theorem eX0_refusalToStop_9 : decode rX0_refusalToStop.2.1 9 = .ok (.aload_n 0, 1) := by decide +kernel
theorem eX0_refusalToStop_10 : decode rX0_refusalToStop.2.1 10 = .ok (.getfield 11, 3) := by decide +kernel
theorem eX0_refusalToStop_13 : decode rX0_refusalToStop.2.1 13 = .ok (.iload_n 1, 1) := by decide +kernel
theorem eX0_refusalToStop_14 : decode rX0_refusalToStop.2.1 14 = .ok (.aaload, 1) := by decide +kernel
theorem eX0_refusalToStop_15 : decode rX0_refusalToStop.2.1 15 = .ok (.getfield 106, 3) := by decide +kernel
theorem eX0_refusalToStop_18 : decode rX0_refusalToStop.2.1 18 = .ok (.ifCond .eq 7, 3) := by decide +kernel
theorem eX0_refusalToStop_21 : decode rX0_refusalToStop.2.1 21 = .ok (.iconst 0, 1) := by decide +kernel
theorem eX0_refusalToStop_22 : decode rX0_refusalToStop.2.1 22 = .ok (.goto 4, 3) := by decide +kernel
theorem eX0_refusalToStop_25 : decode rX0_refusalToStop.2.1 25 = .ok (.iconst 3, 1) := by decide +kernel
theorem eX0_refusalToStop_26 : decode rX0_refusalToStop.2.1 26 = .ok (.ireturn, 1) := by decide +kernel
theorem eX0_takeOutOfService_0 : decode rX0_takeOutOfService.2.1 0 = .ok (.iconst 0, 1) := by decide +kernel
theorem eX0_takeOutOfService_1 : decode rX0_takeOutOfService.2.1 1 = .ok (.istore_n 2, 1) := by decide +kernel
theorem eX0_takeOutOfService_2 : decode rX0_takeOutOfService.2.1 2 = .ok (.iconst 0, 1) := by decide +kernel
theorem eX0_takeOutOfService_3 : decode rX0_takeOutOfService.2.1 3 = .ok (.istore_n 3, 1) := by decide +kernel
theorem eX0_takeOutOfService_4 : decode rX0_takeOutOfService.2.1 4 = .ok (.iload_n 3, 1) := by decide +kernel
theorem eX0_takeOutOfService_5 : decode rX0_takeOutOfService.2.1 5 = .ok (.aload_n 0, 1) := by decide +kernel
theorem eX0_takeOutOfService_6 : decode rX0_takeOutOfService.2.1 6 = .ok (.getfield 30, 3) := by decide +kernel
theorem eX0_takeOutOfService_9 : decode rX0_takeOutOfService.2.1 9 = .ok (.if_icmp .ge 43, 3) := by decide +kernel
theorem eX0_takeOutOfService_12 : decode rX0_takeOutOfService.2.1 12 = .ok (.aload_n 0, 1) := by decide +kernel
theorem eX0_takeOutOfService_13 : decode rX0_takeOutOfService.2.1 13 = .ok (.getfield 19, 3) := by decide +kernel
theorem eX0_takeOutOfService_16 : decode rX0_takeOutOfService.2.1 16 = .ok (.iload_n 3, 1) := by decide +kernel
theorem eX0_takeOutOfService_17 : decode rX0_takeOutOfService.2.1 17 = .ok (.aaload, 1) := by decide +kernel
theorem eX0_takeOutOfService_18 : decode rX0_takeOutOfService.2.1 18 = .ok (.astore 4, 2) := by decide +kernel
theorem eX0_takeOutOfService_20 : decode rX0_takeOutOfService.2.1 20 = .ok (.aload 4, 2) := by decide +kernel
theorem eX0_takeOutOfService_22 : decode rX0_takeOutOfService.2.1 22 = .ok (.getfield 86, 3) := by decide +kernel
theorem eX0_takeOutOfService_25 : decode rX0_takeOutOfService.2.1 25 = .ok (.ifCond .ne 21, 3) := by decide +kernel
theorem eX0_takeOutOfService_28 : decode rX0_takeOutOfService.2.1 28 = .ok (.aload 4, 2) := by decide +kernel
theorem eX0_takeOutOfService_30 : decode rX0_takeOutOfService.2.1 30 = .ok (.getfield 94, 3) := by decide +kernel
theorem eX0_takeOutOfService_33 : decode rX0_takeOutOfService.2.1 33 = .ok (.iload_n 1, 1) := by decide +kernel
theorem eX0_takeOutOfService_34 : decode rX0_takeOutOfService.2.1 34 = .ok (.if_icmp .ne 12, 3) := by decide +kernel
theorem eX0_takeOutOfService_37 : decode rX0_takeOutOfService.2.1 37 = .ok (.aload 4, 2) := by decide +kernel
theorem eX0_takeOutOfService_39 : decode rX0_takeOutOfService.2.1 39 = .ok (.iconst (-1), 1) := by decide +kernel
theorem eX0_takeOutOfService_40 : decode rX0_takeOutOfService.2.1 40 = .ok (.putfield 94, 3) := by decide +kernel
theorem eX0_takeOutOfService_43 : decode rX0_takeOutOfService.2.1 43 = .ok (.iinc 2 1, 3) := by decide +kernel
theorem eX0_takeOutOfService_46 : decode rX0_takeOutOfService.2.1 46 = .ok (.iinc 3 1, 3) := by decide +kernel
theorem eX0_takeOutOfService_49 : decode rX0_takeOutOfService.2.1 49 = .ok (.goto (-45), 3) := by decide +kernel
theorem eX0_takeOutOfService_52 : decode rX0_takeOutOfService.2.1 52 = .ok (.aload_n 0, 1) := by decide +kernel
theorem eX0_takeOutOfService_53 : decode rX0_takeOutOfService.2.1 53 = .ok (.getfield 11, 3) := by decide +kernel
theorem eX0_takeOutOfService_56 : decode rX0_takeOutOfService.2.1 56 = .ok (.iload_n 1, 1) := by decide +kernel
theorem eX0_takeOutOfService_57 : decode rX0_takeOutOfService.2.1 57 = .ok (.aaload, 1) := by decide +kernel
theorem eX0_takeOutOfService_58 : decode rX0_takeOutOfService.2.1 58 = .ok (.iconst 0, 1) := by decide +kernel
theorem eX0_takeOutOfService_59 : decode rX0_takeOutOfService.2.1 59 = .ok (.putfield 106, 3) := by decide +kernel
theorem eX0_takeOutOfService_62 : decode rX0_takeOutOfService.2.1 62 = .ok (.iload_n 2, 1) := by decide +kernel
theorem eX0_takeOutOfService_63 : decode rX0_takeOutOfService.2.1 63 = .ok (.ireturn, 1) := by decide +kernel
theorem eX0_refusalToStart_0 : decode rX0_refusalToStart.2.1 0 = .ok (.iload_n 1, 1) := by decide +kernel
theorem eX0_refusalToStart_1 : decode rX0_refusalToStart.2.1 1 = .ok (.invokestatic 100, 3) := by decide +kernel
theorem eX0_refusalToStart_4 : decode rX0_refusalToStart.2.1 4 = .ok (.ifCond .ne 5, 3) := by decide +kernel
theorem eX0_refusalToStart_7 : decode rX0_refusalToStart.2.1 7 = .ok (.iconst 1, 1) := by decide +kernel
theorem eX0_refusalToStart_8 : decode rX0_refusalToStart.2.1 8 = .ok (.ireturn, 1) := by decide +kernel
theorem eX0_refusalToStart_9 : decode rX0_refusalToStart.2.1 9 = .ok (.aload_n 0, 1) := by decide +kernel
theorem eX0_refusalToStart_10 : decode rX0_refusalToStart.2.1 10 = .ok (.getfield 11, 3) := by decide +kernel
theorem eX0_refusalToStart_13 : decode rX0_refusalToStart.2.1 13 = .ok (.iload_n 1, 1) := by decide +kernel
theorem eX0_refusalToStart_14 : decode rX0_refusalToStart.2.1 14 = .ok (.aaload, 1) := by decide +kernel
theorem eX0_refusalToStart_15 : decode rX0_refusalToStart.2.1 15 = .ok (.getfield 106, 3) := by decide +kernel
theorem eX0_refusalToStart_18 : decode rX0_refusalToStart.2.1 18 = .ok (.ifCond .eq 7, 3) := by decide +kernel
theorem eX0_refusalToStart_21 : decode rX0_refusalToStart.2.1 21 = .ok (.iconst 3, 1) := by decide +kernel
theorem eX0_refusalToStart_22 : decode rX0_refusalToStart.2.1 22 = .ok (.goto 4, 3) := by decide +kernel
theorem eX0_refusalToStart_25 : decode rX0_refusalToStart.2.1 25 = .ok (.iconst 0, 1) := by decide +kernel
theorem eX0_refusalToStart_26 : decode rX0_refusalToStart.2.1 26 = .ok (.ireturn, 1) := by decide +kernel
theorem eX0_putInService_0 : decode rX0_putInService.2.1 0 = .ok (.aload_n 0, 1) := by decide +kernel
theorem eX0_putInService_1 : decode rX0_putInService.2.1 1 = .ok (.getfield 11, 3) := by decide +kernel
theorem eX0_putInService_4 : decode rX0_putInService.2.1 4 = .ok (.iload_n 1, 1) := by decide +kernel
theorem eX0_putInService_5 : decode rX0_putInService.2.1 5 = .ok (.aaload, 1) := by decide +kernel
theorem eX0_putInService_6 : decode rX0_putInService.2.1 6 = .ok (.iconst 1, 1) := by decide +kernel
theorem eX0_putInService_7 : decode rX0_putInService.2.1 7 = .ok (.putfield 106, 3) := by decide +kernel
theorem eX0_putInService_10 : decode rX0_putInService.2.1 10 = .ok (.iconst 0, 1) := by decide +kernel
theorem eX0_putInService_11 : decode rX0_putInService.2.1 11 = .ok (.istore_n 2, 1) := by decide +kernel
theorem eX0_putInService_12 : decode rX0_putInService.2.1 12 = .ok (.iconst 0, 1) := by decide +kernel
theorem eX0_putInService_13 : decode rX0_putInService.2.1 13 = .ok (.istore_n 3, 1) := by decide +kernel
theorem eX0_putInService_14 : decode rX0_putInService.2.1 14 = .ok (.iload_n 3, 1) := by decide +kernel
theorem eX0_putInService_15 : decode rX0_putInService.2.1 15 = .ok (.iconst 3, 1) := by decide +kernel
theorem eX0_putInService_16 : decode rX0_putInService.2.1 16 = .ok (.if_icmp .ge 24, 3) := by decide +kernel
theorem eX0_putInService_19 : decode rX0_putInService.2.1 19 = .ok (.aload_n 0, 1) := by decide +kernel
theorem eX0_putInService_20 : decode rX0_putInService.2.1 20 = .ok (.getfield 11, 3) := by decide +kernel
theorem eX0_putInService_23 : decode rX0_putInService.2.1 23 = .ok (.iload_n 3, 1) := by decide +kernel
theorem eX0_putInService_24 : decode rX0_putInService.2.1 24 = .ok (.aaload, 1) := by decide +kernel
theorem eX0_putInService_25 : decode rX0_putInService.2.1 25 = .ok (.getfield 106, 3) := by decide +kernel
theorem eX0_putInService_28 : decode rX0_putInService.2.1 28 = .ok (.ifCond .eq 6, 3) := by decide +kernel
theorem eX0_putInService_31 : decode rX0_putInService.2.1 31 = .ok (.iinc 2 1, 3) := by decide +kernel
theorem eX0_putInService_34 : decode rX0_putInService.2.1 34 = .ok (.iinc 3 1, 3) := by decide +kernel
theorem eX0_putInService_37 : decode rX0_putInService.2.1 37 = .ok (.goto (-23), 3) := by decide +kernel
theorem eX0_putInService_40 : decode rX0_putInService.2.1 40 = .ok (.iload_n 2, 1) := by decide +kernel
theorem eX0_putInService_41 : decode rX0_putInService.2.1 41 = .ok (.ireturn, 1) := by decide +kernel
theorem eX0_refusalToLimit_0 : decode rX0_refusalToLimit.2.1 0 = .ok (.iload_n 1, 1) := by decide +kernel
theorem eX0_refusalToLimit_1 : decode rX0_refusalToLimit.2.1 1 = .ok (.invokestatic 100, 3) := by decide +kernel
theorem eX0_refusalToLimit_4 : decode rX0_refusalToLimit.2.1 4 = .ok (.ifCond .ne 5, 3) := by decide +kernel
theorem eX0_refusalToLimit_7 : decode rX0_refusalToLimit.2.1 7 = .ok (.iconst 1, 1) := by decide +kernel
theorem eX0_refusalToLimit_8 : decode rX0_refusalToLimit.2.1 8 = .ok (.ireturn, 1) := by decide +kernel
theorem eX0_refusalToLimit_9 : decode rX0_refusalToLimit.2.1 9 = .ok (.iload_n 2, 1) := by decide +kernel
theorem eX0_refusalToLimit_10 : decode rX0_refusalToLimit.2.1 10 = .ok (.bipush 100, 2) := by decide +kernel
theorem eX0_refusalToLimit_12 : decode rX0_refusalToLimit.2.1 12 = .ok (.if_icmp .lt 10, 3) := by decide +kernel
theorem eX0_refusalToLimit_15 : decode rX0_refusalToLimit.2.1 15 = .ok (.iload_n 2, 1) := by decide +kernel
theorem eX0_refusalToLimit_16 : decode rX0_refusalToLimit.2.1 16 = .ok (.sipush 900, 3) := by decide +kernel
theorem eX0_refusalToLimit_19 : decode rX0_refusalToLimit.2.1 19 = .ok (.if_icmp .le 5, 3) := by decide +kernel
theorem eX0_refusalToLimit_22 : decode rX0_refusalToLimit.2.1 22 = .ok (.iconst 2, 1) := by decide +kernel
theorem eX0_refusalToLimit_23 : decode rX0_refusalToLimit.2.1 23 = .ok (.ireturn, 1) := by decide +kernel
theorem eX0_refusalToLimit_24 : decode rX0_refusalToLimit.2.1 24 = .ok (.aload_n 0, 1) := by decide +kernel
theorem eX0_refusalToLimit_25 : decode rX0_refusalToLimit.2.1 25 = .ok (.getfield 11, 3) := by decide +kernel
theorem eX0_refusalToLimit_28 : decode rX0_refusalToLimit.2.1 28 = .ok (.iload_n 1, 1) := by decide +kernel
theorem eX0_refusalToLimit_29 : decode rX0_refusalToLimit.2.1 29 = .ok (.aaload, 1) := by decide +kernel
theorem eX0_refusalToLimit_30 : decode rX0_refusalToLimit.2.1 30 = .ok (.getfield 109, 3) := by decide +kernel
theorem eX0_refusalToLimit_33 : decode rX0_refusalToLimit.2.1 33 = .ok (.iload_n 2, 1) := by decide +kernel
theorem eX0_refusalToLimit_34 : decode rX0_refusalToLimit.2.1 34 = .ok (.if_icmp .le 7, 3) := by decide +kernel
theorem eX0_refusalToLimit_37 : decode rX0_refusalToLimit.2.1 37 = .ok (.iconst 4, 1) := by decide +kernel
theorem eX0_refusalToLimit_38 : decode rX0_refusalToLimit.2.1 38 = .ok (.goto 4, 3) := by decide +kernel
theorem eX0_refusalToLimit_41 : decode rX0_refusalToLimit.2.1 41 = .ok (.iconst 0, 1) := by decide +kernel
theorem eX0_refusalToLimit_42 : decode rX0_refusalToLimit.2.1 42 = .ok (.ireturn, 1) := by decide +kernel
theorem eX0_limit_0 : decode rX0_limit.2.1 0 = .ok (.aload_n 0, 1) := by decide +kernel
theorem eX0_limit_1 : decode rX0_limit.2.1 1 = .ok (.getfield 11, 3) := by decide +kernel
theorem eX0_limit_4 : decode rX0_limit.2.1 4 = .ok (.iload_n 1, 1) := by decide +kernel
theorem eX0_limit_5 : decode rX0_limit.2.1 5 = .ok (.aaload, 1) := by decide +kernel
theorem eX0_limit_6 : decode rX0_limit.2.1 6 = .ok (.getfield 112, 3) := by decide +kernel
theorem eX0_limit_9 : decode rX0_limit.2.1 9 = .ok (.istore_n 3, 1) := by decide +kernel
theorem eX0_limit_10 : decode rX0_limit.2.1 10 = .ok (.aload_n 0, 1) := by decide +kernel
theorem eX0_limit_11 : decode rX0_limit.2.1 11 = .ok (.getfield 11, 3) := by decide +kernel
theorem eX0_limit_14 : decode rX0_limit.2.1 14 = .ok (.iload_n 1, 1) := by decide +kernel
theorem eX0_limit_15 : decode rX0_limit.2.1 15 = .ok (.aaload, 1) := by decide +kernel
theorem eX0_limit_16 : decode rX0_limit.2.1 16 = .ok (.iload_n 2, 1) := by decide +kernel
theorem eX0_limit_17 : decode rX0_limit.2.1 17 = .ok (.putfield 112, 3) := by decide +kernel
theorem eX0_limit_20 : decode rX0_limit.2.1 20 = .ok (.iload_n 3, 1) := by decide +kernel
theorem eX0_limit_21 : decode rX0_limit.2.1 21 = .ok (.ireturn, 1) := by decide +kernel
theorem eX0_refusalToPass_0 : decode rX0_refusalToPass.2.1 0 = .ok (.iload_n 1, 1) := by decide +kernel
theorem eX0_refusalToPass_1 : decode rX0_refusalToPass.2.1 1 = .ok (.iconst 1, 1) := by decide +kernel
theorem eX0_refusalToPass_2 : decode rX0_refusalToPass.2.1 2 = .ok (.if_icmp .lt 13, 3) := by decide +kernel
theorem eX0_refusalToPass_5 : decode rX0_refusalToPass.2.1 5 = .ok (.iload_n 1, 1) := by decide +kernel
theorem eX0_refusalToPass_6 : decode rX0_refusalToPass.2.1 6 = .ok (.bipush 30, 2) := by decide +kernel
theorem eX0_refusalToPass_8 : decode rX0_refusalToPass.2.1 8 = .ok (.if_icmp .gt 7, 3) := by decide +kernel
theorem eX0_refusalToPass_11 : decode rX0_refusalToPass.2.1 11 = .ok (.iconst 0, 1) := by decide +kernel
theorem eX0_refusalToPass_12 : decode rX0_refusalToPass.2.1 12 = .ok (.goto 4, 3) := by decide +kernel
theorem eX0_refusalToPass_15 : decode rX0_refusalToPass.2.1 15 = .ok (.iconst 2, 1) := by decide +kernel
theorem eX0_refusalToPass_16 : decode rX0_refusalToPass.2.1 16 = .ok (.ireturn, 1) := by decide +kernel
theorem eX0_letPass_0 : decode rX0_letPass.2.1 0 = .ok (.aload_n 0, 1) := by decide +kernel
theorem eX0_letPass_1 : decode rX0_letPass.2.1 1 = .ok (.getfield 26, 3) := by decide +kernel
theorem eX0_letPass_4 : decode rX0_letPass.2.1 4 = .ok (.getfield 115, 3) := by decide +kernel
theorem eX0_letPass_7 : decode rX0_letPass.2.1 7 = .ok (.istore_n 2, 1) := by decide +kernel
theorem eX0_letPass_8 : decode rX0_letPass.2.1 8 = .ok (.iconst 0, 1) := by decide +kernel
theorem eX0_letPass_9 : decode rX0_letPass.2.1 9 = .ok (.istore_n 3, 1) := by decide +kernel
theorem eX0_letPass_10 : decode rX0_letPass.2.1 10 = .ok (.iload_n 3, 1) := by decide +kernel
theorem eX0_letPass_11 : decode rX0_letPass.2.1 11 = .ok (.iload_n 1, 1) := by decide +kernel
theorem eX0_letPass_12 : decode rX0_letPass.2.1 12 = .ok (.if_icmp .ge 13, 3) := by decide +kernel
theorem eX0_letPass_15 : decode rX0_letPass.2.1 15 = .ok (.aload_n 0, 1) := by decide +kernel
theorem eX0_letPass_16 : decode rX0_letPass.2.1 16 = .ok (.invokevirtual 118, 3) := by decide +kernel
theorem eX0_letPass_19 : decode rX0_letPass.2.1 19 = .ok (.iinc 3 1, 3) := by decide +kernel
theorem eX0_letPass_22 : decode rX0_letPass.2.1 22 = .ok (.goto (-12), 3) := by decide +kernel
theorem eX0_letPass_25 : decode rX0_letPass.2.1 25 = .ok (.aload_n 0, 1) := by decide +kernel
theorem eX0_letPass_26 : decode rX0_letPass.2.1 26 = .ok (.getfield 26, 3) := by decide +kernel
theorem eX0_letPass_29 : decode rX0_letPass.2.1 29 = .ok (.getfield 115, 3) := by decide +kernel
theorem eX0_letPass_32 : decode rX0_letPass.2.1 32 = .ok (.iload_n 2, 1) := by decide +kernel
theorem eX0_letPass_33 : decode rX0_letPass.2.1 33 = .ok (.isub, 1) := by decide +kernel
theorem eX0_letPass_34 : decode rX0_letPass.2.1 34 = .ok (.ireturn, 1) := by decide +kernel
theorem eX0_refusalToPerform_0 : decode rX0_refusalToPerform.2.1 0 = .ok (.iload_n 1, 1) := by decide +kernel
theorem eX0_refusalToPerform_1 : decode rX0_refusalToPerform.2.1 1 = .ok (.tableswitch 111 0 6 #[43, 57, 65, 76, 84, 92, 103], 43) := by decide +kernel
theorem eX0_refusalToPerform_44 : decode rX0_refusalToPerform.2.1 44 = .ok (.aload_n 0, 1) := by decide +kernel
theorem eX0_refusalToPerform_45 : decode rX0_refusalToPerform.2.1 45 = .ok (.aload_n 2, 1) := by decide +kernel
theorem eX0_refusalToPerform_46 : decode rX0_refusalToPerform.2.1 46 = .ok (.iconst 0, 1) := by decide +kernel
theorem eX0_refusalToPerform_47 : decode rX0_refusalToPerform.2.1 47 = .ok (.iaload, 1) := by decide +kernel
theorem eX0_refusalToPerform_48 : decode rX0_refusalToPerform.2.1 48 = .ok (.aload_n 2, 1) := by decide +kernel
theorem eX0_refusalToPerform_49 : decode rX0_refusalToPerform.2.1 49 = .ok (.iconst 1, 1) := by decide +kernel
theorem eX0_refusalToPerform_50 : decode rX0_refusalToPerform.2.1 50 = .ok (.iaload, 1) := by decide +kernel
theorem eX0_refusalToPerform_51 : decode rX0_refusalToPerform.2.1 51 = .ok (.aload_n 2, 1) := by decide +kernel
theorem eX0_refusalToPerform_52 : decode rX0_refusalToPerform.2.1 52 = .ok (.iconst 2, 1) := by decide +kernel
theorem eX0_refusalToPerform_53 : decode rX0_refusalToPerform.2.1 53 = .ok (.iaload, 1) := by decide +kernel
theorem eX0_refusalToPerform_54 : decode rX0_refusalToPerform.2.1 54 = .ok (.invokevirtual 121, 3) := by decide +kernel
theorem eX0_refusalToPerform_57 : decode rX0_refusalToPerform.2.1 57 = .ok (.ireturn, 1) := by decide +kernel
theorem eX0_refusalToPerform_58 : decode rX0_refusalToPerform.2.1 58 = .ok (.aload_n 0, 1) := by decide +kernel
theorem eX0_refusalToPerform_59 : decode rX0_refusalToPerform.2.1 59 = .ok (.aload_n 2, 1) := by decide +kernel
theorem eX0_refusalToPerform_60 : decode rX0_refusalToPerform.2.1 60 = .ok (.iconst 0, 1) := by decide +kernel
theorem eX0_refusalToPerform_61 : decode rX0_refusalToPerform.2.1 61 = .ok (.iaload, 1) := by decide +kernel
theorem eX0_refusalToPerform_62 : decode rX0_refusalToPerform.2.1 62 = .ok (.invokevirtual 125, 3) := by decide +kernel
theorem eX0_refusalToPerform_65 : decode rX0_refusalToPerform.2.1 65 = .ok (.ireturn, 1) := by decide +kernel
theorem eX0_refusalToPerform_66 : decode rX0_refusalToPerform.2.1 66 = .ok (.aload_n 0, 1) := by decide +kernel
theorem eX0_refusalToPerform_67 : decode rX0_refusalToPerform.2.1 67 = .ok (.aload_n 2, 1) := by decide +kernel
theorem eX0_refusalToPerform_68 : decode rX0_refusalToPerform.2.1 68 = .ok (.iconst 0, 1) := by decide +kernel
theorem eX0_refusalToPerform_69 : decode rX0_refusalToPerform.2.1 69 = .ok (.iaload, 1) := by decide +kernel
theorem eX0_refusalToPerform_70 : decode rX0_refusalToPerform.2.1 70 = .ok (.aload_n 2, 1) := by decide +kernel
theorem eX0_refusalToPerform_71 : decode rX0_refusalToPerform.2.1 71 = .ok (.iconst 1, 1) := by decide +kernel
theorem eX0_refusalToPerform_72 : decode rX0_refusalToPerform.2.1 72 = .ok (.iaload, 1) := by decide +kernel
theorem eX0_refusalToPerform_73 : decode rX0_refusalToPerform.2.1 73 = .ok (.invokevirtual 129, 3) := by decide +kernel
theorem eX0_refusalToPerform_76 : decode rX0_refusalToPerform.2.1 76 = .ok (.ireturn, 1) := by decide +kernel
theorem eX0_refusalToPerform_77 : decode rX0_refusalToPerform.2.1 77 = .ok (.aload_n 0, 1) := by decide +kernel
theorem eX0_refusalToPerform_78 : decode rX0_refusalToPerform.2.1 78 = .ok (.aload_n 2, 1) := by decide +kernel
theorem eX0_refusalToPerform_79 : decode rX0_refusalToPerform.2.1 79 = .ok (.iconst 0, 1) := by decide +kernel
theorem eX0_refusalToPerform_80 : decode rX0_refusalToPerform.2.1 80 = .ok (.iaload, 1) := by decide +kernel
theorem eX0_refusalToPerform_81 : decode rX0_refusalToPerform.2.1 81 = .ok (.invokevirtual 132, 3) := by decide +kernel
theorem eX0_refusalToPerform_84 : decode rX0_refusalToPerform.2.1 84 = .ok (.ireturn, 1) := by decide +kernel
theorem eX0_refusalToPerform_85 : decode rX0_refusalToPerform.2.1 85 = .ok (.aload_n 0, 1) := by decide +kernel
theorem eX0_refusalToPerform_86 : decode rX0_refusalToPerform.2.1 86 = .ok (.aload_n 2, 1) := by decide +kernel
theorem eX0_refusalToPerform_87 : decode rX0_refusalToPerform.2.1 87 = .ok (.iconst 0, 1) := by decide +kernel
theorem eX0_refusalToPerform_88 : decode rX0_refusalToPerform.2.1 88 = .ok (.iaload, 1) := by decide +kernel
theorem eX0_refusalToPerform_89 : decode rX0_refusalToPerform.2.1 89 = .ok (.invokevirtual 135, 3) := by decide +kernel
theorem eX0_refusalToPerform_92 : decode rX0_refusalToPerform.2.1 92 = .ok (.ireturn, 1) := by decide +kernel
theorem eX0_refusalToPerform_93 : decode rX0_refusalToPerform.2.1 93 = .ok (.aload_n 0, 1) := by decide +kernel
theorem eX0_refusalToPerform_94 : decode rX0_refusalToPerform.2.1 94 = .ok (.aload_n 2, 1) := by decide +kernel
theorem eX0_refusalToPerform_95 : decode rX0_refusalToPerform.2.1 95 = .ok (.iconst 0, 1) := by decide +kernel
theorem eX0_refusalToPerform_96 : decode rX0_refusalToPerform.2.1 96 = .ok (.iaload, 1) := by decide +kernel
theorem eX0_refusalToPerform_97 : decode rX0_refusalToPerform.2.1 97 = .ok (.aload_n 2, 1) := by decide +kernel
theorem eX0_refusalToPerform_98 : decode rX0_refusalToPerform.2.1 98 = .ok (.iconst 1, 1) := by decide +kernel
theorem eX0_refusalToPerform_99 : decode rX0_refusalToPerform.2.1 99 = .ok (.iaload, 1) := by decide +kernel
theorem eX0_refusalToPerform_100 : decode rX0_refusalToPerform.2.1 100 = .ok (.invokevirtual 138, 3) := by decide +kernel
theorem eX0_refusalToPerform_103 : decode rX0_refusalToPerform.2.1 103 = .ok (.ireturn, 1) := by decide +kernel
theorem eX0_refusalToPerform_104 : decode rX0_refusalToPerform.2.1 104 = .ok (.aload_n 0, 1) := by decide +kernel
theorem eX0_refusalToPerform_105 : decode rX0_refusalToPerform.2.1 105 = .ok (.aload_n 2, 1) := by decide +kernel
theorem eX0_refusalToPerform_106 : decode rX0_refusalToPerform.2.1 106 = .ok (.iconst 0, 1) := by decide +kernel
theorem eX0_refusalToPerform_107 : decode rX0_refusalToPerform.2.1 107 = .ok (.iaload, 1) := by decide +kernel
theorem eX0_refusalToPerform_108 : decode rX0_refusalToPerform.2.1 108 = .ok (.invokevirtual 141, 3) := by decide +kernel
theorem eX0_refusalToPerform_111 : decode rX0_refusalToPerform.2.1 111 = .ok (.ireturn, 1) := by decide +kernel
theorem eX0_refusalToPerform_112 : decode rX0_refusalToPerform.2.1 112 = .ok (.iconst 0, 1) := by decide +kernel
theorem eX0_refusalToPerform_113 : decode rX0_refusalToPerform.2.1 113 = .ok (.ireturn, 1) := by decide +kernel
theorem eX0_perform_0 : decode rX0_perform.2.1 0 = .ok (.iload_n 1, 1) := by decide +kernel
theorem eX0_perform_1 : decode rX0_perform.2.1 1 = .ok (.tableswitch 111 0 6 #[43, 57, 65, 76, 84, 92, 103], 43) := by decide +kernel
theorem eX0_perform_44 : decode rX0_perform.2.1 44 = .ok (.aload_n 0, 1) := by decide +kernel
theorem eX0_perform_45 : decode rX0_perform.2.1 45 = .ok (.aload_n 2, 1) := by decide +kernel
theorem eX0_perform_46 : decode rX0_perform.2.1 46 = .ok (.iconst 0, 1) := by decide +kernel
theorem eX0_perform_47 : decode rX0_perform.2.1 47 = .ok (.iaload, 1) := by decide +kernel
theorem eX0_perform_48 : decode rX0_perform.2.1 48 = .ok (.aload_n 2, 1) := by decide +kernel
theorem eX0_perform_49 : decode rX0_perform.2.1 49 = .ok (.iconst 1, 1) := by decide +kernel
theorem eX0_perform_50 : decode rX0_perform.2.1 50 = .ok (.iaload, 1) := by decide +kernel
theorem eX0_perform_51 : decode rX0_perform.2.1 51 = .ok (.aload_n 2, 1) := by decide +kernel
theorem eX0_perform_52 : decode rX0_perform.2.1 52 = .ok (.iconst 2, 1) := by decide +kernel
theorem eX0_perform_53 : decode rX0_perform.2.1 53 = .ok (.iaload, 1) := by decide +kernel
theorem eX0_perform_54 : decode rX0_perform.2.1 54 = .ok (.invokevirtual 144, 3) := by decide +kernel
theorem eX0_perform_57 : decode rX0_perform.2.1 57 = .ok (.ireturn, 1) := by decide +kernel
theorem eX0_perform_58 : decode rX0_perform.2.1 58 = .ok (.aload_n 0, 1) := by decide +kernel
theorem eX0_perform_59 : decode rX0_perform.2.1 59 = .ok (.aload_n 2, 1) := by decide +kernel
theorem eX0_perform_60 : decode rX0_perform.2.1 60 = .ok (.iconst 0, 1) := by decide +kernel
theorem eX0_perform_61 : decode rX0_perform.2.1 61 = .ok (.iaload, 1) := by decide +kernel
theorem eX0_perform_62 : decode rX0_perform.2.1 62 = .ok (.invokevirtual 147, 3) := by decide +kernel
theorem eX0_perform_65 : decode rX0_perform.2.1 65 = .ok (.ireturn, 1) := by decide +kernel
theorem eX0_perform_66 : decode rX0_perform.2.1 66 = .ok (.aload_n 0, 1) := by decide +kernel
theorem eX0_perform_67 : decode rX0_perform.2.1 67 = .ok (.aload_n 2, 1) := by decide +kernel
theorem eX0_perform_68 : decode rX0_perform.2.1 68 = .ok (.iconst 0, 1) := by decide +kernel
theorem eX0_perform_69 : decode rX0_perform.2.1 69 = .ok (.iaload, 1) := by decide +kernel
theorem eX0_perform_70 : decode rX0_perform.2.1 70 = .ok (.aload_n 2, 1) := by decide +kernel
theorem eX0_perform_71 : decode rX0_perform.2.1 71 = .ok (.iconst 1, 1) := by decide +kernel
theorem eX0_perform_72 : decode rX0_perform.2.1 72 = .ok (.iaload, 1) := by decide +kernel
theorem eX0_perform_73 : decode rX0_perform.2.1 73 = .ok (.invokevirtual 150, 3) := by decide +kernel
theorem eX0_perform_76 : decode rX0_perform.2.1 76 = .ok (.ireturn, 1) := by decide +kernel
theorem eX0_perform_77 : decode rX0_perform.2.1 77 = .ok (.aload_n 0, 1) := by decide +kernel
theorem eX0_perform_78 : decode rX0_perform.2.1 78 = .ok (.aload_n 2, 1) := by decide +kernel
theorem eX0_perform_79 : decode rX0_perform.2.1 79 = .ok (.iconst 0, 1) := by decide +kernel
theorem eX0_perform_80 : decode rX0_perform.2.1 80 = .ok (.iaload, 1) := by decide +kernel
theorem eX0_perform_81 : decode rX0_perform.2.1 81 = .ok (.invokevirtual 153, 3) := by decide +kernel
theorem eX0_perform_84 : decode rX0_perform.2.1 84 = .ok (.ireturn, 1) := by decide +kernel
theorem eX0_perform_85 : decode rX0_perform.2.1 85 = .ok (.aload_n 0, 1) := by decide +kernel
theorem eX0_perform_86 : decode rX0_perform.2.1 86 = .ok (.aload_n 2, 1) := by decide +kernel
theorem eX0_perform_87 : decode rX0_perform.2.1 87 = .ok (.iconst 0, 1) := by decide +kernel
theorem eX0_perform_88 : decode rX0_perform.2.1 88 = .ok (.iaload, 1) := by decide +kernel
theorem eX0_perform_89 : decode rX0_perform.2.1 89 = .ok (.invokevirtual 156, 3) := by decide +kernel
theorem eX0_perform_92 : decode rX0_perform.2.1 92 = .ok (.ireturn, 1) := by decide +kernel
theorem eX0_perform_93 : decode rX0_perform.2.1 93 = .ok (.aload_n 0, 1) := by decide +kernel
theorem eX0_perform_94 : decode rX0_perform.2.1 94 = .ok (.aload_n 2, 1) := by decide +kernel
theorem eX0_perform_95 : decode rX0_perform.2.1 95 = .ok (.iconst 0, 1) := by decide +kernel
theorem eX0_perform_96 : decode rX0_perform.2.1 96 = .ok (.iaload, 1) := by decide +kernel
theorem eX0_perform_97 : decode rX0_perform.2.1 97 = .ok (.aload_n 2, 1) := by decide +kernel
theorem eX0_perform_98 : decode rX0_perform.2.1 98 = .ok (.iconst 1, 1) := by decide +kernel
theorem eX0_perform_99 : decode rX0_perform.2.1 99 = .ok (.iaload, 1) := by decide +kernel
theorem eX0_perform_100 : decode rX0_perform.2.1 100 = .ok (.invokevirtual 159, 3) := by decide +kernel
theorem eX0_perform_103 : decode rX0_perform.2.1 103 = .ok (.ireturn, 1) := by decide +kernel
theorem eX0_perform_104 : decode rX0_perform.2.1 104 = .ok (.aload_n 0, 1) := by decide +kernel
theorem eX0_perform_105 : decode rX0_perform.2.1 105 = .ok (.aload_n 2, 1) := by decide +kernel
theorem eX0_perform_106 : decode rX0_perform.2.1 106 = .ok (.iconst 0, 1) := by decide +kernel
theorem eX0_perform_107 : decode rX0_perform.2.1 107 = .ok (.iaload, 1) := by decide +kernel
theorem eX0_perform_108 : decode rX0_perform.2.1 108 = .ok (.invokevirtual 162, 3) := by decide +kernel
theorem eX0_perform_111 : decode rX0_perform.2.1 111 = .ok (.ireturn, 1) := by decide +kernel
theorem eX0_perform_112 : decode rX0_perform.2.1 112 = .ok (.aload_n 0, 1) := by decide +kernel
theorem eX0_perform_113 : decode rX0_perform.2.1 113 = .ok (.iconst 1, 1) := by decide +kernel
theorem eX0_perform_114 : decode rX0_perform.2.1 114 = .ok (.invokevirtual 162, 3) := by decide +kernel
theorem eX0_perform_117 : decode rX0_perform.2.1 117 = .ok (.ireturn, 1) := by decide +kernel
theorem eX0_step_0 : decode rX0_step.2.1 0 = .ok (.aload_n 0, 1) := by decide +kernel
theorem eX0_step_1 : decode rX0_step.2.1 1 = .ok (.dup, 1) := by decide +kernel
theorem eX0_step_2 : decode rX0_step.2.1 2 = .ok (.getfield 37, 3) := by decide +kernel
theorem eX0_step_5 : decode rX0_step.2.1 5 = .ok (.iconst 1, 1) := by decide +kernel
theorem eX0_step_6 : decode rX0_step.2.1 6 = .ok (.iadd, 1) := by decide +kernel
theorem eX0_step_7 : decode rX0_step.2.1 7 = .ok (.putfield 37, 3) := by decide +kernel
theorem eX0_step_10 : decode rX0_step.2.1 10 = .ok (.iconst 0, 1) := by decide +kernel
theorem eX0_step_11 : decode rX0_step.2.1 11 = .ok (.istore_n 1, 1) := by decide +kernel
theorem eX0_step_12 : decode rX0_step.2.1 12 = .ok (.iload_n 1, 1) := by decide +kernel
theorem eX0_step_13 : decode rX0_step.2.1 13 = .ok (.aload_n 0, 1) := by decide +kernel
theorem eX0_step_14 : decode rX0_step.2.1 14 = .ok (.getfield 30, 3) := by decide +kernel
theorem eX0_step_17 : decode rX0_step.2.1 17 = .ok (.if_icmp .ge 57, 3) := by decide +kernel
theorem eX0_step_20 : decode rX0_step.2.1 20 = .ok (.aload_n 0, 1) := by decide +kernel
theorem eX0_step_21 : decode rX0_step.2.1 21 = .ok (.getfield 19, 3) := by decide +kernel
theorem eX0_step_24 : decode rX0_step.2.1 24 = .ok (.iload_n 1, 1) := by decide +kernel
theorem eX0_step_25 : decode rX0_step.2.1 25 = .ok (.aaload, 1) := by decide +kernel
theorem eX0_step_26 : decode rX0_step.2.1 26 = .ok (.astore_n 2, 1) := by decide +kernel
theorem eX0_step_27 : decode rX0_step.2.1 27 = .ok (.aload_n 2, 1) := by decide +kernel
theorem eX0_step_28 : decode rX0_step.2.1 28 = .ok (.getfield 86, 3) := by decide +kernel
theorem eX0_step_31 : decode rX0_step.2.1 31 = .ok (.ifCond .ne 37, 3) := by decide +kernel
theorem eX0_step_34 : decode rX0_step.2.1 34 = .ok (.aload_n 2, 1) := by decide +kernel
theorem eX0_step_35 : decode rX0_step.2.1 35 = .ok (.getfield 94, 3) := by decide +kernel
theorem eX0_step_38 : decode rX0_step.2.1 38 = .ok (.iconst (-1), 1) := by decide +kernel
theorem eX0_step_39 : decode rX0_step.2.1 39 = .ok (.if_icmp .ne 19, 3) := by decide +kernel
theorem eX0_step_42 : decode rX0_step.2.1 42 = .ok (.aload_n 2, 1) := by decide +kernel
theorem eX0_step_43 : decode rX0_step.2.1 43 = .ok (.aload_n 0, 1) := by decide +kernel
theorem eX0_step_44 : decode rX0_step.2.1 44 = .ok (.aload_n 2, 1) := by decide +kernel
theorem eX0_step_45 : decode rX0_step.2.1 45 = .ok (.getfield 74, 3) := by decide +kernel
theorem eX0_step_48 : decode rX0_step.2.1 48 = .ok (.aload_n 2, 1) := by decide +kernel
theorem eX0_step_49 : decode rX0_step.2.1 49 = .ok (.getfield 80, 3) := by decide +kernel
theorem eX0_step_52 : decode rX0_step.2.1 52 = .ok (.invokevirtual 90, 3) := by decide +kernel
theorem eX0_step_55 : decode rX0_step.2.1 55 = .ok (.putfield 94, 3) := by decide +kernel
theorem eX0_step_58 : decode rX0_step.2.1 58 = .ok (.aload_n 2, 1) := by decide +kernel
theorem eX0_step_59 : decode rX0_step.2.1 59 = .ok (.dup, 1) := by decide +kernel
theorem eX0_step_60 : decode rX0_step.2.1 60 = .ok (.getfield 83, 3) := by decide +kernel
theorem eX0_step_63 : decode rX0_step.2.1 63 = .ok (.iconst 1, 1) := by decide +kernel
theorem eX0_step_64 : decode rX0_step.2.1 64 = .ok (.iadd, 1) := by decide +kernel
theorem eX0_step_65 : decode rX0_step.2.1 65 = .ok (.putfield 83, 3) := by decide +kernel
theorem eX0_step_68 : decode rX0_step.2.1 68 = .ok (.iinc 1 1, 3) := by decide +kernel
theorem eX0_step_71 : decode rX0_step.2.1 71 = .ok (.goto (-59), 3) := by decide +kernel
theorem eX0_step_74 : decode rX0_step.2.1 74 = .ok (.iconst 0, 1) := by decide +kernel
theorem eX0_step_75 : decode rX0_step.2.1 75 = .ok (.istore_n 1, 1) := by decide +kernel
theorem eX0_step_76 : decode rX0_step.2.1 76 = .ok (.iload_n 1, 1) := by decide +kernel
theorem eX0_step_77 : decode rX0_step.2.1 77 = .ok (.iconst 3, 1) := by decide +kernel
theorem eX0_step_78 : decode rX0_step.2.1 78 = .ok (.if_icmp .ge 26, 3) := by decide +kernel
theorem eX0_step_81 : decode rX0_step.2.1 81 = .ok (.aload_n 0, 1) := by decide +kernel
theorem eX0_step_82 : decode rX0_step.2.1 82 = .ok (.getfield 11, 3) := by decide +kernel
theorem eX0_step_85 : decode rX0_step.2.1 85 = .ok (.iload_n 1, 1) := by decide +kernel
theorem eX0_step_86 : decode rX0_step.2.1 86 = .ok (.aaload, 1) := by decide +kernel
theorem eX0_step_87 : decode rX0_step.2.1 87 = .ok (.getfield 106, 3) := by decide +kernel
theorem eX0_step_90 : decode rX0_step.2.1 90 = .ok (.ifCond .eq 8, 3) := by decide +kernel
theorem eX0_step_93 : decode rX0_step.2.1 93 = .ok (.aload_n 0, 1) := by decide +kernel
theorem eX0_step_94 : decode rX0_step.2.1 94 = .ok (.iload_n 1, 1) := by decide +kernel
theorem eX0_step_95 : decode rX0_step.2.1 95 = .ok (.invokevirtual 165, 3) := by decide +kernel
theorem eX0_step_98 : decode rX0_step.2.1 98 = .ok (.iinc 1 1, 3) := by decide +kernel
theorem eX0_step_101 : decode rX0_step.2.1 101 = .ok (.goto (-25), 3) := by decide +kernel
theorem eX0_step_104 : decode rX0_step.2.1 104 = .ok (.return_, 1) := by decide +kernel
theorem eX0_act_0 : decode rX0_act.2.1 0 = .ok (.aload_n 0, 1) := by decide +kernel
theorem eX0_act_1 : decode rX0_act.2.1 1 = .ok (.getfield 11, 3) := by decide +kernel
theorem eX0_act_4 : decode rX0_act.2.1 4 = .ok (.iload_n 1, 1) := by decide +kernel
theorem eX0_act_5 : decode rX0_act.2.1 5 = .ok (.aaload, 1) := by decide +kernel
theorem eX0_act_6 : decode rX0_act.2.1 6 = .ok (.astore_n 2, 1) := by decide +kernel
theorem eX0_act_7 : decode rX0_act.2.1 7 = .ok (.aload_n 2, 1) := by decide +kernel
theorem eX0_act_8 : decode rX0_act.2.1 8 = .ok (.getfield 103, 3) := by decide +kernel
theorem eX0_act_11 : decode rX0_act.2.1 11 = .ok (.ifCond .le 14, 3) := by decide +kernel
theorem eX0_act_14 : decode rX0_act.2.1 14 = .ok (.aload_n 2, 1) := by decide +kernel
theorem eX0_act_15 : decode rX0_act.2.1 15 = .ok (.dup, 1) := by decide +kernel
theorem eX0_act_16 : decode rX0_act.2.1 16 = .ok (.getfield 103, 3) := by decide +kernel
theorem eX0_act_19 : decode rX0_act.2.1 19 = .ok (.iconst 1, 1) := by decide +kernel
theorem eX0_act_20 : decode rX0_act.2.1 20 = .ok (.isub, 1) := by decide +kernel
theorem eX0_act_21 : decode rX0_act.2.1 21 = .ok (.putfield 103, 3) := by decide +kernel
theorem eX0_act_24 : decode rX0_act.2.1 24 = .ok (.return_, 1) := by decide +kernel
theorem eX0_act_25 : decode rX0_act.2.1 25 = .ok (.aload_n 0, 1) := by decide +kernel
theorem eX0_act_26 : decode rX0_act.2.1 26 = .ok (.iload_n 1, 1) := by decide +kernel
theorem eX0_act_27 : decode rX0_act.2.1 27 = .ok (.invokevirtual 169, 3) := by decide +kernel
theorem eX0_act_30 : decode rX0_act.2.1 30 = .ok (.istore_n 3, 1) := by decide +kernel
theorem eX0_act_31 : decode rX0_act.2.1 31 = .ok (.iload_n 3, 1) := by decide +kernel
theorem eX0_act_32 : decode rX0_act.2.1 32 = .ok (.aload_n 2, 1) := by decide +kernel
theorem eX0_act_33 : decode rX0_act.2.1 33 = .ok (.getfield 172, 3) := by decide +kernel
theorem eX0_act_36 : decode rX0_act.2.1 36 = .ok (.invokestatic 175, 3) := by decide +kernel
theorem eX0_act_39 : decode rX0_act.2.1 39 = .ok (.ifCond .eq 39, 3) := by decide +kernel
theorem eX0_act_42 : decode rX0_act.2.1 42 = .ok (.aload_n 2, 1) := by decide +kernel
theorem eX0_act_43 : decode rX0_act.2.1 43 = .ok (.iconst 2, 1) := by decide +kernel
theorem eX0_act_44 : decode rX0_act.2.1 44 = .ok (.putfield 103, 3) := by decide +kernel
theorem eX0_act_47 : decode rX0_act.2.1 47 = .ok (.aload_n 2, 1) := by decide +kernel
theorem eX0_act_48 : decode rX0_act.2.1 48 = .ok (.dup, 1) := by decide +kernel
theorem eX0_act_49 : decode rX0_act.2.1 49 = .ok (.getfield 179, 3) := by decide +kernel
theorem eX0_act_52 : decode rX0_act.2.1 52 = .ok (.iconst 1, 1) := by decide +kernel
theorem eX0_act_53 : decode rX0_act.2.1 53 = .ok (.iadd, 1) := by decide +kernel
theorem eX0_act_54 : decode rX0_act.2.1 54 = .ok (.putfield 179, 3) := by decide +kernel
theorem eX0_act_57 : decode rX0_act.2.1 57 = .ok (.aload_n 0, 1) := by decide +kernel
theorem eX0_act_58 : decode rX0_act.2.1 58 = .ok (.dup, 1) := by decide +kernel
theorem eX0_act_59 : decode rX0_act.2.1 59 = .ok (.getfield 49, 3) := by decide +kernel
theorem eX0_act_62 : decode rX0_act.2.1 62 = .ok (.iconst 1, 1) := by decide +kernel
theorem eX0_act_63 : decode rX0_act.2.1 63 = .ok (.iadd, 1) := by decide +kernel
theorem eX0_act_64 : decode rX0_act.2.1 64 = .ok (.putfield 49, 3) := by decide +kernel
theorem eX0_act_67 : decode rX0_act.2.1 67 = .ok (.aload_n 0, 1) := by decide +kernel
theorem eX0_act_68 : decode rX0_act.2.1 68 = .ok (.iload_n 1, 1) := by decide +kernel
theorem eX0_act_69 : decode rX0_act.2.1 69 = .ok (.invokevirtual 182, 3) := by decide +kernel
theorem eX0_act_72 : decode rX0_act.2.1 72 = .ok (.aload_n 0, 1) := by decide +kernel
theorem eX0_act_73 : decode rX0_act.2.1 73 = .ok (.iload_n 1, 1) := by decide +kernel
theorem eX0_act_74 : decode rX0_act.2.1 74 = .ok (.invokevirtual 185, 3) := by decide +kernel
theorem eX0_act_77 : decode rX0_act.2.1 77 = .ok (.return_, 1) := by decide +kernel
theorem eX0_act_78 : decode rX0_act.2.1 78 = .ok (.aload_n 2, 1) := by decide +kernel
theorem eX0_act_79 : decode rX0_act.2.1 79 = .ok (.aload_n 2, 1) := by decide +kernel
theorem eX0_act_80 : decode rX0_act.2.1 80 = .ok (.iload_n 3, 1) := by decide +kernel
theorem eX0_act_81 : decode rX0_act.2.1 81 = .ok (.invokestatic 188, 3) := by decide +kernel
theorem eX0_act_84 : decode rX0_act.2.1 84 = .ok (.putfield 192, 3) := by decide +kernel
theorem eX0_act_87 : decode rX0_act.2.1 87 = .ok (.aload_n 0, 1) := by decide +kernel
theorem eX0_act_88 : decode rX0_act.2.1 88 = .ok (.aload_n 2, 1) := by decide +kernel
theorem eX0_act_89 : decode rX0_act.2.1 89 = .ok (.invokevirtual 195, 3) := by decide +kernel
theorem eX0_act_92 : decode rX0_act.2.1 92 = .ok (.return_, 1) := by decide +kernel
theorem eX0_letOut_0 : decode rX0_letOut.2.1 0 = .ok (.aload_n 0, 1) := by decide +kernel
theorem eX0_letOut_1 : decode rX0_letOut.2.1 1 = .ok (.getfield 11, 3) := by decide +kernel
theorem eX0_letOut_4 : decode rX0_letOut.2.1 4 = .ok (.iload_n 1, 1) := by decide +kernel
theorem eX0_letOut_5 : decode rX0_letOut.2.1 5 = .ok (.aaload, 1) := by decide +kernel
theorem eX0_letOut_6 : decode rX0_letOut.2.1 6 = .ok (.astore_n 2, 1) := by decide +kernel
theorem eX0_letOut_7 : decode rX0_letOut.2.1 7 = .ok (.iconst 0, 1) := by decide +kernel
theorem eX0_letOut_8 : decode rX0_letOut.2.1 8 = .ok (.istore_n 3, 1) := by decide +kernel
theorem eX0_letOut_9 : decode rX0_letOut.2.1 9 = .ok (.iconst 0, 1) := by decide +kernel
theorem eX0_letOut_10 : decode rX0_letOut.2.1 10 = .ok (.istore 4, 2) := by decide +kernel
theorem eX0_letOut_12 : decode rX0_letOut.2.1 12 = .ok (.iload 4, 2) := by decide +kernel
theorem eX0_letOut_14 : decode rX0_letOut.2.1 14 = .ok (.aload_n 0, 1) := by decide +kernel
theorem eX0_letOut_15 : decode rX0_letOut.2.1 15 = .ok (.getfield 30, 3) := by decide +kernel
theorem eX0_letOut_18 : decode rX0_letOut.2.1 18 = .ok (.if_icmp .ge 116, 3) := by decide +kernel
theorem eX0_letOut_21 : decode rX0_letOut.2.1 21 = .ok (.aload_n 0, 1) := by decide +kernel
theorem eX0_letOut_22 : decode rX0_letOut.2.1 22 = .ok (.getfield 19, 3) := by decide +kernel
theorem eX0_letOut_25 : decode rX0_letOut.2.1 25 = .ok (.iload 4, 2) := by decide +kernel
theorem eX0_letOut_27 : decode rX0_letOut.2.1 27 = .ok (.aaload, 1) := by decide +kernel
theorem eX0_letOut_28 : decode rX0_letOut.2.1 28 = .ok (.astore 5, 2) := by decide +kernel
theorem eX0_letOut_30 : decode rX0_letOut.2.1 30 = .ok (.aload 5, 2) := by decide +kernel
theorem eX0_letOut_32 : decode rX0_letOut.2.1 32 = .ok (.getfield 86, 3) := by decide +kernel
theorem eX0_letOut_35 : decode rX0_letOut.2.1 35 = .ok (.ifCond .eq 69, 3) := by decide +kernel
theorem eX0_letOut_38 : decode rX0_letOut.2.1 38 = .ok (.aload 5, 2) := by decide +kernel
theorem eX0_letOut_40 : decode rX0_letOut.2.1 40 = .ok (.getfield 94, 3) := by decide +kernel
theorem eX0_letOut_43 : decode rX0_letOut.2.1 43 = .ok (.iload_n 1, 1) := by decide +kernel
theorem eX0_letOut_44 : decode rX0_letOut.2.1 44 = .ok (.if_icmp .ne 60, 3) := by decide +kernel
theorem eX0_letOut_47 : decode rX0_letOut.2.1 47 = .ok (.aload 5, 2) := by decide +kernel
theorem eX0_letOut_49 : decode rX0_letOut.2.1 49 = .ok (.getfield 77, 3) := by decide +kernel
theorem eX0_letOut_52 : decode rX0_letOut.2.1 52 = .ok (.aload_n 2, 1) := by decide +kernel
theorem eX0_letOut_53 : decode rX0_letOut.2.1 53 = .ok (.getfield 172, 3) := by decide +kernel
theorem eX0_letOut_56 : decode rX0_letOut.2.1 56 = .ok (.if_icmp .ne 48, 3) := by decide +kernel
theorem eX0_letOut_59 : decode rX0_letOut.2.1 59 = .ok (.aload_n 2, 1) := by decide +kernel
theorem eX0_letOut_60 : decode rX0_letOut.2.1 60 = .ok (.dup, 1) := by decide +kernel
theorem eX0_letOut_61 : decode rX0_letOut.2.1 61 = .ok (.getfield 109, 3) := by decide +kernel
theorem eX0_letOut_64 : decode rX0_letOut.2.1 64 = .ok (.aload 5, 2) := by decide +kernel
theorem eX0_letOut_66 : decode rX0_letOut.2.1 66 = .ok (.getfield 80, 3) := by decide +kernel
theorem eX0_letOut_69 : decode rX0_letOut.2.1 69 = .ok (.isub, 1) := by decide +kernel
theorem eX0_letOut_70 : decode rX0_letOut.2.1 70 = .ok (.putfield 109, 3) := by decide +kernel
theorem eX0_letOut_73 : decode rX0_letOut.2.1 73 = .ok (.aload_n 2, 1) := by decide +kernel
theorem eX0_letOut_74 : decode rX0_letOut.2.1 74 = .ok (.dup, 1) := by decide +kernel
theorem eX0_letOut_75 : decode rX0_letOut.2.1 75 = .ok (.getfield 198, 3) := by decide +kernel
theorem eX0_letOut_78 : decode rX0_letOut.2.1 78 = .ok (.iconst 1, 1) := by decide +kernel
theorem eX0_letOut_79 : decode rX0_letOut.2.1 79 = .ok (.isub, 1) := by decide +kernel
theorem eX0_letOut_80 : decode rX0_letOut.2.1 80 = .ok (.putfield 198, 3) := by decide +kernel
theorem eX0_letOut_83 : decode rX0_letOut.2.1 83 = .ok (.aload_n 0, 1) := by decide +kernel
theorem eX0_letOut_84 : decode rX0_letOut.2.1 84 = .ok (.getfield 26, 3) := by decide +kernel
theorem eX0_letOut_87 : decode rX0_letOut.2.1 87 = .ok (.aload 5, 2) := by decide +kernel
theorem eX0_letOut_89 : decode rX0_letOut.2.1 89 = .ok (.getfield 71, 3) := by decide +kernel
theorem eX0_letOut_92 : decode rX0_letOut.2.1 92 = .ok (.iload_n 1, 1) := by decide +kernel
theorem eX0_letOut_93 : decode rX0_letOut.2.1 93 = .ok (.aload 5, 2) := by decide +kernel
theorem eX0_letOut_95 : decode rX0_letOut.2.1 95 = .ok (.getfield 83, 3) := by decide +kernel
theorem eX0_letOut_98 : decode rX0_letOut.2.1 98 = .ok (.invokevirtual 201, 3) := by decide +kernel
theorem eX0_letOut_101 : decode rX0_letOut.2.1 101 = .ok (.goto 27, 3) := by decide +kernel
theorem eX0_letOut_104 : decode rX0_letOut.2.1 104 = .ok (.aload_n 0, 1) := by decide +kernel
theorem eX0_letOut_105 : decode rX0_letOut.2.1 105 = .ok (.getfield 19, 3) := by decide +kernel
theorem eX0_letOut_108 : decode rX0_letOut.2.1 108 = .ok (.iload 4, 2) := by decide +kernel
theorem eX0_letOut_110 : decode rX0_letOut.2.1 110 = .ok (.aload_n 0, 1) := by decide +kernel
theorem eX0_letOut_111 : decode rX0_letOut.2.1 111 = .ok (.getfield 19, 3) := by decide +kernel
theorem eX0_letOut_114 : decode rX0_letOut.2.1 114 = .ok (.iload_n 3, 1) := by decide +kernel
theorem eX0_letOut_115 : decode rX0_letOut.2.1 115 = .ok (.aaload, 1) := by decide +kernel
theorem eX0_letOut_116 : decode rX0_letOut.2.1 116 = .ok (.aastore, 1) := by decide +kernel
theorem eX0_letOut_117 : decode rX0_letOut.2.1 117 = .ok (.aload_n 0, 1) := by decide +kernel
theorem eX0_letOut_118 : decode rX0_letOut.2.1 118 = .ok (.getfield 19, 3) := by decide +kernel
theorem eX0_letOut_121 : decode rX0_letOut.2.1 121 = .ok (.iload_n 3, 1) := by decide +kernel
theorem eX0_letOut_122 : decode rX0_letOut.2.1 122 = .ok (.aload 5, 2) := by decide +kernel
theorem eX0_letOut_124 : decode rX0_letOut.2.1 124 = .ok (.aastore, 1) := by decide +kernel
theorem eX0_letOut_125 : decode rX0_letOut.2.1 125 = .ok (.iinc 3 1, 3) := by decide +kernel
theorem eX0_letOut_128 : decode rX0_letOut.2.1 128 = .ok (.iinc 4 1, 3) := by decide +kernel
theorem eX0_letOut_131 : decode rX0_letOut.2.1 131 = .ok (.goto (-119), 3) := by decide +kernel
theorem eX0_letOut_134 : decode rX0_letOut.2.1 134 = .ok (.aload_n 0, 1) := by decide +kernel
theorem eX0_letOut_135 : decode rX0_letOut.2.1 135 = .ok (.iload_n 3, 1) := by decide +kernel
theorem eX0_letOut_136 : decode rX0_letOut.2.1 136 = .ok (.putfield 30, 3) := by decide +kernel
theorem eX0_letOut_139 : decode rX0_letOut.2.1 139 = .ok (.return_, 1) := by decide +kernel
theorem eX0_letIn_0 : decode rX0_letIn.2.1 0 = .ok (.aload_n 0, 1) := by decide +kernel
theorem eX0_letIn_1 : decode rX0_letIn.2.1 1 = .ok (.getfield 11, 3) := by decide +kernel
theorem eX0_letIn_4 : decode rX0_letIn.2.1 4 = .ok (.iload_n 1, 1) := by decide +kernel
theorem eX0_letIn_5 : decode rX0_letIn.2.1 5 = .ok (.aaload, 1) := by decide +kernel
theorem eX0_letIn_6 : decode rX0_letIn.2.1 6 = .ok (.astore_n 2, 1) := by decide +kernel
theorem eX0_letIn_7 : decode rX0_letIn.2.1 7 = .ok (.iconst 0, 1) := by decide +kernel
theorem eX0_letIn_8 : decode rX0_letIn.2.1 8 = .ok (.istore_n 3, 1) := by decide +kernel
theorem eX0_letIn_9 : decode rX0_letIn.2.1 9 = .ok (.iload_n 3, 1) := by decide +kernel
theorem eX0_letIn_10 : decode rX0_letIn.2.1 10 = .ok (.aload_n 0, 1) := by decide +kernel
theorem eX0_letIn_11 : decode rX0_letIn.2.1 11 = .ok (.getfield 30, 3) := by decide +kernel
theorem eX0_letIn_14 : decode rX0_letIn.2.1 14 = .ok (.if_icmp .ge 105, 3) := by decide +kernel
theorem eX0_letIn_17 : decode rX0_letIn.2.1 17 = .ok (.aload_n 0, 1) := by decide +kernel
theorem eX0_letIn_18 : decode rX0_letIn.2.1 18 = .ok (.getfield 19, 3) := by decide +kernel
theorem eX0_letIn_21 : decode rX0_letIn.2.1 21 = .ok (.iload_n 3, 1) := by decide +kernel
theorem eX0_letIn_22 : decode rX0_letIn.2.1 22 = .ok (.aaload, 1) := by decide +kernel
theorem eX0_letIn_23 : decode rX0_letIn.2.1 23 = .ok (.astore 4, 2) := by decide +kernel
theorem eX0_letIn_25 : decode rX0_letIn.2.1 25 = .ok (.aload 4, 2) := by decide +kernel
theorem eX0_letIn_27 : decode rX0_letIn.2.1 27 = .ok (.getfield 86, 3) := by decide +kernel
theorem eX0_letIn_30 : decode rX0_letIn.2.1 30 = .ok (.ifCond .ne 83, 3) := by decide +kernel
theorem eX0_letIn_33 : decode rX0_letIn.2.1 33 = .ok (.aload 4, 2) := by decide +kernel
theorem eX0_letIn_35 : decode rX0_letIn.2.1 35 = .ok (.getfield 94, 3) := by decide +kernel
theorem eX0_letIn_38 : decode rX0_letIn.2.1 38 = .ok (.iload_n 1, 1) := by decide +kernel
theorem eX0_letIn_39 : decode rX0_letIn.2.1 39 = .ok (.if_icmp .ne 74, 3) := by decide +kernel
theorem eX0_letIn_42 : decode rX0_letIn.2.1 42 = .ok (.aload 4, 2) := by decide +kernel
theorem eX0_letIn_44 : decode rX0_letIn.2.1 44 = .ok (.getfield 74, 3) := by decide +kernel
theorem eX0_letIn_47 : decode rX0_letIn.2.1 47 = .ok (.aload_n 2, 1) := by decide +kernel
theorem eX0_letIn_48 : decode rX0_letIn.2.1 48 = .ok (.getfield 172, 3) := by decide +kernel
theorem eX0_letIn_51 : decode rX0_letIn.2.1 51 = .ok (.if_icmp .eq 6, 3) := by decide +kernel
theorem eX0_letIn_54 : decode rX0_letIn.2.1 54 = .ok (.goto 59, 3) := by decide +kernel
theorem eX0_letIn_57 : decode rX0_letIn.2.1 57 = .ok (.aload_n 2, 1) := by decide +kernel
theorem eX0_letIn_58 : decode rX0_letIn.2.1 58 = .ok (.getfield 109, 3) := by decide +kernel
theorem eX0_letIn_61 : decode rX0_letIn.2.1 61 = .ok (.aload 4, 2) := by decide +kernel
theorem eX0_letIn_63 : decode rX0_letIn.2.1 63 = .ok (.getfield 80, 3) := by decide +kernel
theorem eX0_letIn_66 : decode rX0_letIn.2.1 66 = .ok (.iadd, 1) := by decide +kernel
theorem eX0_letIn_67 : decode rX0_letIn.2.1 67 = .ok (.aload_n 2, 1) := by decide +kernel
theorem eX0_letIn_68 : decode rX0_letIn.2.1 68 = .ok (.getfield 112, 3) := by decide +kernel
theorem eX0_letIn_71 : decode rX0_letIn.2.1 71 = .ok (.if_icmp .gt 36, 3) := by decide +kernel
theorem eX0_letIn_74 : decode rX0_letIn.2.1 74 = .ok (.aload 4, 2) := by decide +kernel
theorem eX0_letIn_76 : decode rX0_letIn.2.1 76 = .ok (.iconst 1, 1) := by decide +kernel
theorem eX0_letIn_77 : decode rX0_letIn.2.1 77 = .ok (.putfield 86, 3) := by decide +kernel
theorem eX0_letIn_80 : decode rX0_letIn.2.1 80 = .ok (.aload_n 2, 1) := by decide +kernel
theorem eX0_letIn_81 : decode rX0_letIn.2.1 81 = .ok (.dup, 1) := by decide +kernel
theorem eX0_letIn_82 : decode rX0_letIn.2.1 82 = .ok (.getfield 109, 3) := by decide +kernel
theorem eX0_letIn_85 : decode rX0_letIn.2.1 85 = .ok (.aload 4, 2) := by decide +kernel
theorem eX0_letIn_87 : decode rX0_letIn.2.1 87 = .ok (.getfield 80, 3) := by decide +kernel
theorem eX0_letIn_90 : decode rX0_letIn.2.1 90 = .ok (.iadd, 1) := by decide +kernel
theorem eX0_letIn_91 : decode rX0_letIn.2.1 91 = .ok (.putfield 109, 3) := by decide +kernel
theorem eX0_letIn_94 : decode rX0_letIn.2.1 94 = .ok (.aload_n 2, 1) := by decide +kernel
theorem eX0_letIn_95 : decode rX0_letIn.2.1 95 = .ok (.dup, 1) := by decide +kernel
theorem eX0_letIn_96 : decode rX0_letIn.2.1 96 = .ok (.getfield 198, 3) := by decide +kernel
theorem eX0_letIn_99 : decode rX0_letIn.2.1 99 = .ok (.iconst 1, 1) := by decide +kernel
theorem eX0_letIn_100 : decode rX0_letIn.2.1 100 = .ok (.iadd, 1) := by decide +kernel
theorem eX0_letIn_101 : decode rX0_letIn.2.1 101 = .ok (.putfield 198, 3) := by decide +kernel
theorem eX0_letIn_104 : decode rX0_letIn.2.1 104 = .ok (.goto 9, 3) := by decide +kernel
theorem eX0_letIn_107 : decode rX0_letIn.2.1 107 = .ok (.aload 4, 2) := by decide +kernel
theorem eX0_letIn_109 : decode rX0_letIn.2.1 109 = .ok (.iconst (-1), 1) := by decide +kernel
theorem eX0_letIn_110 : decode rX0_letIn.2.1 110 = .ok (.putfield 94, 3) := by decide +kernel
theorem eX0_letIn_113 : decode rX0_letIn.2.1 113 = .ok (.iinc 3 1, 3) := by decide +kernel
theorem eX0_letIn_116 : decode rX0_letIn.2.1 116 = .ok (.goto (-107), 3) := by decide +kernel
theorem eX0_letIn_119 : decode rX0_letIn.2.1 119 = .ok (.return_, 1) := by decide +kernel
theorem eX0_move_0 : decode rX0_move.2.1 0 = .ok (.aload_n 1, 1) := by decide +kernel
theorem eX0_move_1 : decode rX0_move.2.1 1 = .ok (.dup, 1) := by decide +kernel
theorem eX0_move_2 : decode rX0_move.2.1 2 = .ok (.getfield 172, 3) := by decide +kernel
theorem eX0_move_5 : decode rX0_move.2.1 5 = .ok (.aload_n 1, 1) := by decide +kernel
theorem eX0_move_6 : decode rX0_move.2.1 6 = .ok (.getfield 192, 3) := by decide +kernel
theorem eX0_move_9 : decode rX0_move.2.1 9 = .ok (.iadd, 1) := by decide +kernel
theorem eX0_move_10 : decode rX0_move.2.1 10 = .ok (.putfield 172, 3) := by decide +kernel
theorem eX0_move_13 : decode rX0_move.2.1 13 = .ok (.aload_n 1, 1) := by decide +kernel
theorem eX0_move_14 : decode rX0_move.2.1 14 = .ok (.getfield 192, 3) := by decide +kernel
theorem eX0_move_17 : decode rX0_move.2.1 17 = .ok (.iconst 1, 1) := by decide +kernel
theorem eX0_move_18 : decode rX0_move.2.1 18 = .ok (.if_icmp .ne 46, 3) := by decide +kernel
theorem eX0_move_21 : decode rX0_move.2.1 21 = .ok (.aload_n 1, 1) := by decide +kernel
theorem eX0_move_22 : decode rX0_move.2.1 22 = .ok (.getfield 109, 3) := by decide +kernel
theorem eX0_move_25 : decode rX0_move.2.1 25 = .ok (.bipush 100, 2) := by decide +kernel
theorem eX0_move_27 : decode rX0_move.2.1 27 = .ok (.idiv, 1) := by decide +kernel
theorem eX0_move_28 : decode rX0_move.2.1 28 = .ok (.istore_n 2, 1) := by decide +kernel
theorem eX0_move_29 : decode rX0_move.2.1 29 = .ok (.aload_n 1, 1) := by decide +kernel
theorem eX0_move_30 : decode rX0_move.2.1 30 = .ok (.dup, 1) := by decide +kernel
theorem eX0_move_31 : decode rX0_move.2.1 31 = .ok (.getfield 179, 3) := by decide +kernel
theorem eX0_move_34 : decode rX0_move.2.1 34 = .ok (.iconst 2, 1) := by decide +kernel
theorem eX0_move_35 : decode rX0_move.2.1 35 = .ok (.iload_n 2, 1) := by decide +kernel
theorem eX0_move_36 : decode rX0_move.2.1 36 = .ok (.iadd, 1) := by decide +kernel
theorem eX0_move_37 : decode rX0_move.2.1 37 = .ok (.iadd, 1) := by decide +kernel
theorem eX0_move_38 : decode rX0_move.2.1 38 = .ok (.putfield 179, 3) := by decide +kernel
theorem eX0_move_41 : decode rX0_move.2.1 41 = .ok (.aload_n 0, 1) := by decide +kernel
theorem eX0_move_42 : decode rX0_move.2.1 42 = .ok (.dup, 1) := by decide +kernel
theorem eX0_move_43 : decode rX0_move.2.1 43 = .ok (.getfield 40, 3) := by decide +kernel
theorem eX0_move_46 : decode rX0_move.2.1 46 = .ok (.iconst 1, 1) := by decide +kernel
theorem eX0_move_47 : decode rX0_move.2.1 47 = .ok (.iadd, 1) := by decide +kernel
theorem eX0_move_48 : decode rX0_move.2.1 48 = .ok (.putfield 40, 3) := by decide +kernel
theorem eX0_move_51 : decode rX0_move.2.1 51 = .ok (.aload_n 0, 1) := by decide +kernel
theorem eX0_move_52 : decode rX0_move.2.1 52 = .ok (.dup, 1) := by decide +kernel
theorem eX0_move_53 : decode rX0_move.2.1 53 = .ok (.getfield 46, 3) := by decide +kernel
theorem eX0_move_56 : decode rX0_move.2.1 56 = .ok (.iload_n 2, 1) := by decide +kernel
theorem eX0_move_57 : decode rX0_move.2.1 57 = .ok (.iadd, 1) := by decide +kernel
theorem eX0_move_58 : decode rX0_move.2.1 58 = .ok (.putfield 46, 3) := by decide +kernel
theorem eX0_move_61 : decode rX0_move.2.1 61 = .ok (.goto 31, 3) := by decide +kernel
theorem eX0_move_64 : decode rX0_move.2.1 64 = .ok (.aload_n 1, 1) := by decide +kernel
theorem eX0_move_65 : decode rX0_move.2.1 65 = .ok (.getfield 192, 3) := by decide +kernel
theorem eX0_move_68 : decode rX0_move.2.1 68 = .ok (.iconst (-1), 1) := by decide +kernel
theorem eX0_move_69 : decode rX0_move.2.1 69 = .ok (.if_icmp .ne 23, 3) := by decide +kernel
theorem eX0_move_72 : decode rX0_move.2.1 72 = .ok (.aload_n 1, 1) := by decide +kernel
theorem eX0_move_73 : decode rX0_move.2.1 73 = .ok (.dup, 1) := by decide +kernel
theorem eX0_move_74 : decode rX0_move.2.1 74 = .ok (.getfield 179, 3) := by decide +kernel
theorem eX0_move_77 : decode rX0_move.2.1 77 = .ok (.iconst 1, 1) := by decide +kernel
theorem eX0_move_78 : decode rX0_move.2.1 78 = .ok (.iadd, 1) := by decide +kernel
theorem eX0_move_79 : decode rX0_move.2.1 79 = .ok (.putfield 179, 3) := by decide +kernel
theorem eX0_move_82 : decode rX0_move.2.1 82 = .ok (.aload_n 0, 1) := by decide +kernel
theorem eX0_move_83 : decode rX0_move.2.1 83 = .ok (.dup, 1) := by decide +kernel
theorem eX0_move_84 : decode rX0_move.2.1 84 = .ok (.getfield 43, 3) := by decide +kernel
theorem eX0_move_87 : decode rX0_move.2.1 87 = .ok (.iconst 1, 1) := by decide +kernel
theorem eX0_move_88 : decode rX0_move.2.1 88 = .ok (.iadd, 1) := by decide +kernel
theorem eX0_move_89 : decode rX0_move.2.1 89 = .ok (.putfield 43, 3) := by decide +kernel
theorem eX0_move_92 : decode rX0_move.2.1 92 = .ok (.return_, 1) := by decide +kernel
theorem eX0_stopsOf_0 : decode rX0_stopsOf.2.1 0 = .ok (.iconst 0, 1) := by decide +kernel
theorem eX0_stopsOf_1 : decode rX0_stopsOf.2.1 1 = .ok (.istore_n 2, 1) := by decide +kernel
theorem eX0_stopsOf_2 : decode rX0_stopsOf.2.1 2 = .ok (.iconst 0, 1) := by decide +kernel
theorem eX0_stopsOf_3 : decode rX0_stopsOf.2.1 3 = .ok (.istore_n 3, 1) := by decide +kernel
theorem eX0_stopsOf_4 : decode rX0_stopsOf.2.1 4 = .ok (.iload_n 3, 1) := by decide +kernel
theorem eX0_stopsOf_5 : decode rX0_stopsOf.2.1 5 = .ok (.aload_n 0, 1) := by decide +kernel
theorem eX0_stopsOf_6 : decode rX0_stopsOf.2.1 6 = .ok (.getfield 30, 3) := by decide +kernel
theorem eX0_stopsOf_9 : decode rX0_stopsOf.2.1 9 = .ok (.if_icmp .ge 52, 3) := by decide +kernel
theorem eX0_stopsOf_12 : decode rX0_stopsOf.2.1 12 = .ok (.aload_n 0, 1) := by decide +kernel
theorem eX0_stopsOf_13 : decode rX0_stopsOf.2.1 13 = .ok (.getfield 19, 3) := by decide +kernel
theorem eX0_stopsOf_16 : decode rX0_stopsOf.2.1 16 = .ok (.iload_n 3, 1) := by decide +kernel
theorem eX0_stopsOf_17 : decode rX0_stopsOf.2.1 17 = .ok (.aaload, 1) := by decide +kernel
theorem eX0_stopsOf_18 : decode rX0_stopsOf.2.1 18 = .ok (.astore 4, 2) := by decide +kernel
theorem eX0_stopsOf_20 : decode rX0_stopsOf.2.1 20 = .ok (.aload 4, 2) := by decide +kernel
theorem eX0_stopsOf_22 : decode rX0_stopsOf.2.1 22 = .ok (.getfield 94, 3) := by decide +kernel
theorem eX0_stopsOf_25 : decode rX0_stopsOf.2.1 25 = .ok (.iload_n 1, 1) := by decide +kernel
theorem eX0_stopsOf_26 : decode rX0_stopsOf.2.1 26 = .ok (.if_icmp .ne 29, 3) := by decide +kernel
theorem eX0_stopsOf_29 : decode rX0_stopsOf.2.1 29 = .ok (.iload_n 2, 1) := by decide +kernel
theorem eX0_stopsOf_30 : decode rX0_stopsOf.2.1 30 = .ok (.iconst 1, 1) := by decide +kernel
theorem eX0_stopsOf_31 : decode rX0_stopsOf.2.1 31 = .ok (.aload 4, 2) := by decide +kernel
theorem eX0_stopsOf_33 : decode rX0_stopsOf.2.1 33 = .ok (.getfield 86, 3) := by decide +kernel
theorem eX0_stopsOf_36 : decode rX0_stopsOf.2.1 36 = .ok (.ifCond .eq 11, 3) := by decide +kernel
theorem eX0_stopsOf_39 : decode rX0_stopsOf.2.1 39 = .ok (.aload 4, 2) := by decide +kernel
theorem eX0_stopsOf_41 : decode rX0_stopsOf.2.1 41 = .ok (.getfield 77, 3) := by decide +kernel
theorem eX0_stopsOf_44 : decode rX0_stopsOf.2.1 44 = .ok (.goto 8, 3) := by decide +kernel
theorem eX0_stopsOf_47 : decode rX0_stopsOf.2.1 47 = .ok (.aload 4, 2) := by decide +kernel
theorem eX0_stopsOf_49 : decode rX0_stopsOf.2.1 49 = .ok (.getfield 74, 3) := by decide +kernel
theorem eX0_stopsOf_52 : decode rX0_stopsOf.2.1 52 = .ok (.ishl, 1) := by decide +kernel
theorem eX0_stopsOf_53 : decode rX0_stopsOf.2.1 53 = .ok (.ior, 1) := by decide +kernel
theorem eX0_stopsOf_54 : decode rX0_stopsOf.2.1 54 = .ok (.istore_n 2, 1) := by decide +kernel
theorem eX0_stopsOf_55 : decode rX0_stopsOf.2.1 55 = .ok (.iinc 3 1, 3) := by decide +kernel
theorem eX0_stopsOf_58 : decode rX0_stopsOf.2.1 58 = .ok (.goto (-54), 3) := by decide +kernel
theorem eX0_stopsOf_61 : decode rX0_stopsOf.2.1 61 = .ok (.iload_n 2, 1) := by decide +kernel
theorem eX0_stopsOf_62 : decode rX0_stopsOf.2.1 62 = .ok (.ireturn, 1) := by decide +kernel
theorem eX0_estimateByFormula_0 : decode rX0_estimateByFormula.2.1 0 = .ok (.aload_n 0, 1) := by decide +kernel
theorem eX0_estimateByFormula_1 : decode rX0_estimateByFormula.2.1 1 = .ok (.getfield 11, 3) := by decide +kernel
theorem eX0_estimateByFormula_4 : decode rX0_estimateByFormula.2.1 4 = .ok (.iload_n 1, 1) := by decide +kernel
theorem eX0_estimateByFormula_5 : decode rX0_estimateByFormula.2.1 5 = .ok (.aaload, 1) := by decide +kernel
theorem eX0_estimateByFormula_6 : decode rX0_estimateByFormula.2.1 6 = .ok (.astore_n 3, 1) := by decide +kernel
theorem eX0_estimateByFormula_7 : decode rX0_estimateByFormula.2.1 7 = .ok (.iload_n 2, 1) := by decide +kernel
theorem eX0_estimateByFormula_8 : decode rX0_estimateByFormula.2.1 8 = .ok (.aload_n 3, 1) := by decide +kernel
theorem eX0_estimateByFormula_9 : decode rX0_estimateByFormula.2.1 9 = .ok (.getfield 172, 3) := by decide +kernel
theorem eX0_estimateByFormula_12 : decode rX0_estimateByFormula.2.1 12 = .ok (.isub, 1) := by decide +kernel
theorem eX0_estimateByFormula_13 : decode rX0_estimateByFormula.2.1 13 = .ok (.aload_n 3, 1) := by decide +kernel
theorem eX0_estimateByFormula_14 : decode rX0_estimateByFormula.2.1 14 = .ok (.getfield 192, 3) := by decide +kernel
theorem eX0_estimateByFormula_17 : decode rX0_estimateByFormula.2.1 17 = .ok (.imul, 1) := by decide +kernel
theorem eX0_estimateByFormula_18 : decode rX0_estimateByFormula.2.1 18 = .ok (.istore 4, 2) := by decide +kernel
theorem eX0_estimateByFormula_20 : decode rX0_estimateByFormula.2.1 20 = .ok (.iload_n 2, 1) := by decide +kernel
theorem eX0_estimateByFormula_21 : decode rX0_estimateByFormula.2.1 21 = .ok (.aload_n 3, 1) := by decide +kernel
theorem eX0_estimateByFormula_22 : decode rX0_estimateByFormula.2.1 22 = .ok (.getfield 172, 3) := by decide +kernel
theorem eX0_estimateByFormula_25 : decode rX0_estimateByFormula.2.1 25 = .ok (.isub, 1) := by decide +kernel
theorem eX0_estimateByFormula_26 : decode rX0_estimateByFormula.2.1 26 = .ok (.invokestatic 205, 3) := by decide +kernel
theorem eX0_estimateByFormula_29 : decode rX0_estimateByFormula.2.1 29 = .ok (.istore 5, 2) := by decide +kernel
theorem eX0_estimateByFormula_31 : decode rX0_estimateByFormula.2.1 31 = .ok (.iload 4, 2) := by decide +kernel
theorem eX0_estimateByFormula_33 : decode rX0_estimateByFormula.2.1 33 = .ok (.ifCond .ge 26, 3) := by decide +kernel
theorem eX0_estimateByFormula_36 : decode rX0_estimateByFormula.2.1 36 = .ok (.iload 5, 2) := by decide +kernel
theorem eX0_estimateByFormula_38 : decode rX0_estimateByFormula.2.1 38 = .ok (.iconst 2, 1) := by decide +kernel
theorem eX0_estimateByFormula_39 : decode rX0_estimateByFormula.2.1 39 = .ok (.aload_n 0, 1) := by decide +kernel
theorem eX0_estimateByFormula_40 : decode rX0_estimateByFormula.2.1 40 = .ok (.iload_n 1, 1) := by decide +kernel
theorem eX0_estimateByFormula_41 : decode rX0_estimateByFormula.2.1 41 = .ok (.invokevirtual 169, 3) := by decide +kernel
theorem eX0_estimateByFormula_44 : decode rX0_estimateByFormula.2.1 44 = .ok (.aload_n 3, 1) := by decide +kernel
theorem eX0_estimateByFormula_45 : decode rX0_estimateByFormula.2.1 45 = .ok (.getfield 172, 3) := by decide +kernel
theorem eX0_estimateByFormula_48 : decode rX0_estimateByFormula.2.1 48 = .ok (.aload_n 3, 1) := by decide +kernel
theorem eX0_estimateByFormula_49 : decode rX0_estimateByFormula.2.1 49 = .ok (.getfield 192, 3) := by decide +kernel
theorem eX0_estimateByFormula_52 : decode rX0_estimateByFormula.2.1 52 = .ok (.invokestatic 210, 3) := by decide +kernel
theorem eX0_estimateByFormula_55 : decode rX0_estimateByFormula.2.1 55 = .ok (.imul, 1) := by decide +kernel
theorem eX0_estimateByFormula_56 : decode rX0_estimateByFormula.2.1 56 = .ok (.iadd, 1) := by decide +kernel
theorem eX0_estimateByFormula_57 : decode rX0_estimateByFormula.2.1 57 = .ok (.istore 5, 2) := by decide +kernel
theorem eX0_estimateByFormula_59 : decode rX0_estimateByFormula.2.1 59 = .ok (.aload_n 3, 1) := by decide +kernel
theorem eX0_estimateByFormula_60 : decode rX0_estimateByFormula.2.1 60 = .ok (.getfield 198, 3) := by decide +kernel
theorem eX0_estimateByFormula_63 : decode rX0_estimateByFormula.2.1 63 = .ok (.iload 5, 2) := by decide +kernel
theorem eX0_estimateByFormula_65 : decode rX0_estimateByFormula.2.1 65 = .ok (.iadd, 1) := by decide +kernel
theorem eX0_estimateByFormula_66 : decode rX0_estimateByFormula.2.1 66 = .ok (.ireturn, 1) := by decide +kernel
theorem eX0_estimateByMoving_0 : decode rX0_estimateByMoving.2.1 0 = .ok (.aload_n 0, 1) := by decide +kernel
theorem eX0_estimateByMoving_1 : decode rX0_estimateByMoving.2.1 1 = .ok (.getfield 11, 3) := by decide +kernel
theorem eX0_estimateByMoving_4 : decode rX0_estimateByMoving.2.1 4 = .ok (.iload_n 1, 1) := by decide +kernel
theorem eX0_estimateByMoving_5 : decode rX0_estimateByMoving.2.1 5 = .ok (.aaload, 1) := by decide +kernel
theorem eX0_estimateByMoving_6 : decode rX0_estimateByMoving.2.1 6 = .ok (.astore_n 3, 1) := by decide +kernel
theorem eX0_estimateByMoving_7 : decode rX0_estimateByMoving.2.1 7 = .ok (.aload_n 0, 1) := by decide +kernel
theorem eX0_estimateByMoving_8 : decode rX0_estimateByMoving.2.1 8 = .ok (.iload_n 1, 1) := by decide +kernel
theorem eX0_estimateByMoving_9 : decode rX0_estimateByMoving.2.1 9 = .ok (.invokevirtual 169, 3) := by decide +kernel
theorem eX0_estimateByMoving_12 : decode rX0_estimateByMoving.2.1 12 = .ok (.istore 4, 2) := by decide +kernel
theorem eX0_estimateByMoving_14 : decode rX0_estimateByMoving.2.1 14 = .ok (.aload_n 3, 1) := by decide +kernel
theorem eX0_estimateByMoving_15 : decode rX0_estimateByMoving.2.1 15 = .ok (.getfield 172, 3) := by decide +kernel
theorem eX0_estimateByMoving_18 : decode rX0_estimateByMoving.2.1 18 = .ok (.istore 5, 2) := by decide +kernel
theorem eX0_estimateByMoving_20 : decode rX0_estimateByMoving.2.1 20 = .ok (.aload_n 3, 1) := by decide +kernel
theorem eX0_estimateByMoving_21 : decode rX0_estimateByMoving.2.1 21 = .ok (.getfield 192, 3) := by decide +kernel
theorem eX0_estimateByMoving_24 : decode rX0_estimateByMoving.2.1 24 = .ok (.ifCond .ne 12, 3) := by decide +kernel
theorem eX0_estimateByMoving_27 : decode rX0_estimateByMoving.2.1 27 = .ok (.iload_n 2, 1) := by decide +kernel
theorem eX0_estimateByMoving_28 : decode rX0_estimateByMoving.2.1 28 = .ok (.iload 5, 2) := by decide +kernel
theorem eX0_estimateByMoving_30 : decode rX0_estimateByMoving.2.1 30 = .ok (.invokestatic 213, 3) := by decide +kernel
theorem eX0_estimateByMoving_33 : decode rX0_estimateByMoving.2.1 33 = .ok (.goto 7, 3) := by decide +kernel
theorem eX0_estimateByMoving_36 : decode rX0_estimateByMoving.2.1 36 = .ok (.aload_n 3, 1) := by decide +kernel
theorem eX0_estimateByMoving_37 : decode rX0_estimateByMoving.2.1 37 = .ok (.getfield 192, 3) := by decide +kernel
theorem eX0_estimateByMoving_40 : decode rX0_estimateByMoving.2.1 40 = .ok (.istore 6, 2) := by decide +kernel
theorem eX0_estimateByMoving_42 : decode rX0_estimateByMoving.2.1 42 = .ok (.iconst 0, 1) := by decide +kernel
theorem eX0_estimateByMoving_43 : decode rX0_estimateByMoving.2.1 43 = .ok (.istore 7, 2) := by decide +kernel
theorem eX0_estimateByMoving_45 : decode rX0_estimateByMoving.2.1 45 = .ok (.iconst 0, 1) := by decide +kernel
theorem eX0_estimateByMoving_46 : decode rX0_estimateByMoving.2.1 46 = .ok (.istore 8, 2) := by decide +kernel
theorem eX0_estimateByMoving_48 : decode rX0_estimateByMoving.2.1 48 = .ok (.iload 8, 2) := by decide +kernel
theorem eX0_estimateByMoving_50 : decode rX0_estimateByMoving.2.1 50 = .ok (.bipush 20, 2) := by decide +kernel
theorem eX0_estimateByMoving_52 : decode rX0_estimateByMoving.2.1 52 = .ok (.if_icmp .ge 64, 3) := by decide +kernel
theorem eX0_estimateByMoving_55 : decode rX0_estimateByMoving.2.1 55 = .ok (.iload 5, 2) := by decide +kernel
theorem eX0_estimateByMoving_57 : decode rX0_estimateByMoving.2.1 57 = .ok (.iload_n 2, 1) := by decide +kernel
theorem eX0_estimateByMoving_58 : decode rX0_estimateByMoving.2.1 58 = .ok (.if_icmp .eq 58, 3) := by decide +kernel
theorem eX0_estimateByMoving_61 : decode rX0_estimateByMoving.2.1 61 = .ok (.iload_n 2, 1) := by decide +kernel
theorem eX0_estimateByMoving_62 : decode rX0_estimateByMoving.2.1 62 = .ok (.iload 5, 2) := by decide +kernel
theorem eX0_estimateByMoving_64 : decode rX0_estimateByMoving.2.1 64 = .ok (.isub, 1) := by decide +kernel
theorem eX0_estimateByMoving_65 : decode rX0_estimateByMoving.2.1 65 = .ok (.iload 6, 2) := by decide +kernel
theorem eX0_estimateByMoving_67 : decode rX0_estimateByMoving.2.1 67 = .ok (.imul, 1) := by decide +kernel
theorem eX0_estimateByMoving_68 : decode rX0_estimateByMoving.2.1 68 = .ok (.ifCond .ge 7, 3) := by decide +kernel
theorem eX0_estimateByMoving_71 : decode rX0_estimateByMoving.2.1 71 = .ok (.iconst 1, 1) := by decide +kernel
theorem eX0_estimateByMoving_72 : decode rX0_estimateByMoving.2.1 72 = .ok (.goto 4, 3) := by decide +kernel
theorem eX0_estimateByMoving_75 : decode rX0_estimateByMoving.2.1 75 = .ok (.iconst 0, 1) := by decide +kernel
theorem eX0_estimateByMoving_76 : decode rX0_estimateByMoving.2.1 76 = .ok (.istore 9, 2) := by decide +kernel
theorem eX0_estimateByMoving_78 : decode rX0_estimateByMoving.2.1 78 = .ok (.iload 9, 2) := by decide +kernel
theorem eX0_estimateByMoving_80 : decode rX0_estimateByMoving.2.1 80 = .ok (.ifCond .eq 20, 3) := by decide +kernel
theorem eX0_estimateByMoving_83 : decode rX0_estimateByMoving.2.1 83 = .ok (.iload 4, 2) := by decide +kernel
theorem eX0_estimateByMoving_85 : decode rX0_estimateByMoving.2.1 85 = .ok (.iload 5, 2) := by decide +kernel
theorem eX0_estimateByMoving_87 : decode rX0_estimateByMoving.2.1 87 = .ok (.iload 6, 2) := by decide +kernel
theorem eX0_estimateByMoving_89 : decode rX0_estimateByMoving.2.1 89 = .ok (.invokestatic 218, 3) := by decide +kernel
theorem eX0_estimateByMoving_92 : decode rX0_estimateByMoving.2.1 92 = .ok (.ifCond .ne 8, 3) := by decide +kernel
theorem eX0_estimateByMoving_95 : decode rX0_estimateByMoving.2.1 95 = .ok (.iload 6, 2) := by decide +kernel
theorem eX0_estimateByMoving_97 : decode rX0_estimateByMoving.2.1 97 = .ok (.ineg, 1) := by decide +kernel
theorem eX0_estimateByMoving_98 : decode rX0_estimateByMoving.2.1 98 = .ok (.istore 6, 2) := by decide +kernel
theorem eX0_estimateByMoving_100 : decode rX0_estimateByMoving.2.1 100 = .ok (.iload 5, 2) := by decide +kernel
theorem eX0_estimateByMoving_102 : decode rX0_estimateByMoving.2.1 102 = .ok (.iload 6, 2) := by decide +kernel
theorem eX0_estimateByMoving_104 : decode rX0_estimateByMoving.2.1 104 = .ok (.iadd, 1) := by decide +kernel
theorem eX0_estimateByMoving_105 : decode rX0_estimateByMoving.2.1 105 = .ok (.istore 5, 2) := by decide +kernel
theorem eX0_estimateByMoving_107 : decode rX0_estimateByMoving.2.1 107 = .ok (.iinc 7 1, 3) := by decide +kernel
theorem eX0_estimateByMoving_110 : decode rX0_estimateByMoving.2.1 110 = .ok (.iinc 8 1, 3) := by decide +kernel
theorem eX0_estimateByMoving_113 : decode rX0_estimateByMoving.2.1 113 = .ok (.goto (-65), 3) := by decide +kernel
theorem eX0_estimateByMoving_116 : decode rX0_estimateByMoving.2.1 116 = .ok (.aload_n 3, 1) := by decide +kernel
theorem eX0_estimateByMoving_117 : decode rX0_estimateByMoving.2.1 117 = .ok (.getfield 198, 3) := by decide +kernel
theorem eX0_estimateByMoving_120 : decode rX0_estimateByMoving.2.1 120 = .ok (.iload 7, 2) := by decide +kernel
theorem eX0_estimateByMoving_122 : decode rX0_estimateByMoving.2.1 122 = .ok (.iadd, 1) := by decide +kernel
theorem eX0_estimateByMoving_123 : decode rX0_estimateByMoving.2.1 123 = .ok (.ireturn, 1) := by decide +kernel
theorem eX0_chooseCar_0 : decode rX0_chooseCar.2.1 0 = .ok (.iconst (-1), 1) := by decide +kernel
theorem eX0_chooseCar_1 : decode rX0_chooseCar.2.1 1 = .ok (.istore_n 3, 1) := by decide +kernel
theorem eX0_chooseCar_2 : decode rX0_chooseCar.2.1 2 = .ok (.iconst 0, 1) := by decide +kernel
theorem eX0_chooseCar_3 : decode rX0_chooseCar.2.1 3 = .ok (.istore 4, 2) := by decide +kernel
theorem eX0_chooseCar_5 : decode rX0_chooseCar.2.1 5 = .ok (.iconst 0, 1) := by decide +kernel
theorem eX0_chooseCar_6 : decode rX0_chooseCar.2.1 6 = .ok (.istore 5, 2) := by decide +kernel
theorem eX0_chooseCar_8 : decode rX0_chooseCar.2.1 8 = .ok (.iload 5, 2) := by decide +kernel
theorem eX0_chooseCar_10 : decode rX0_chooseCar.2.1 10 = .ok (.iconst 3, 1) := by decide +kernel
theorem eX0_chooseCar_11 : decode rX0_chooseCar.2.1 11 = .ok (.if_icmp .ge 69, 3) := by decide +kernel
theorem eX0_chooseCar_14 : decode rX0_chooseCar.2.1 14 = .ok (.aload_n 0, 1) := by decide +kernel
theorem eX0_chooseCar_15 : decode rX0_chooseCar.2.1 15 = .ok (.getfield 11, 3) := by decide +kernel
theorem eX0_chooseCar_18 : decode rX0_chooseCar.2.1 18 = .ok (.iload 5, 2) := by decide +kernel
theorem eX0_chooseCar_20 : decode rX0_chooseCar.2.1 20 = .ok (.aaload, 1) := by decide +kernel
theorem eX0_chooseCar_21 : decode rX0_chooseCar.2.1 21 = .ok (.astore 6, 2) := by decide +kernel
theorem eX0_chooseCar_23 : decode rX0_chooseCar.2.1 23 = .ok (.aload 6, 2) := by decide +kernel
theorem eX0_chooseCar_25 : decode rX0_chooseCar.2.1 25 = .ok (.getfield 106, 3) := by decide +kernel
theorem eX0_chooseCar_28 : decode rX0_chooseCar.2.1 28 = .ok (.ifCond .eq 46, 3) := by decide +kernel
theorem eX0_chooseCar_31 : decode rX0_chooseCar.2.1 31 = .ok (.aload 6, 2) := by decide +kernel
theorem eX0_chooseCar_33 : decode rX0_chooseCar.2.1 33 = .ok (.getfield 109, 3) := by decide +kernel
theorem eX0_chooseCar_36 : decode rX0_chooseCar.2.1 36 = .ok (.iload_n 2, 1) := by decide +kernel
theorem eX0_chooseCar_37 : decode rX0_chooseCar.2.1 37 = .ok (.iadd, 1) := by decide +kernel
theorem eX0_chooseCar_38 : decode rX0_chooseCar.2.1 38 = .ok (.aload 6, 2) := by decide +kernel
theorem eX0_chooseCar_40 : decode rX0_chooseCar.2.1 40 = .ok (.getfield 112, 3) := by decide +kernel
theorem eX0_chooseCar_43 : decode rX0_chooseCar.2.1 43 = .ok (.if_icmp .gt 31, 3) := by decide +kernel
theorem eX0_chooseCar_46 : decode rX0_chooseCar.2.1 46 = .ok (.aload_n 0, 1) := by decide +kernel
theorem eX0_chooseCar_47 : decode rX0_chooseCar.2.1 47 = .ok (.iload 5, 2) := by decide +kernel
theorem eX0_chooseCar_49 : decode rX0_chooseCar.2.1 49 = .ok (.iload_n 1, 1) := by decide +kernel
theorem eX0_chooseCar_50 : decode rX0_chooseCar.2.1 50 = .ok (.invokevirtual 221, 3) := by decide +kernel
theorem eX0_chooseCar_53 : decode rX0_chooseCar.2.1 53 = .ok (.istore 7, 2) := by decide +kernel
theorem eX0_chooseCar_55 : decode rX0_chooseCar.2.1 55 = .ok (.iload_n 3, 1) := by decide +kernel
theorem eX0_chooseCar_56 : decode rX0_chooseCar.2.1 56 = .ok (.iconst (-1), 1) := by decide +kernel
theorem eX0_chooseCar_57 : decode rX0_chooseCar.2.1 57 = .ok (.if_icmp .eq 10, 3) := by decide +kernel
theorem eX0_chooseCar_60 : decode rX0_chooseCar.2.1 60 = .ok (.iload 7, 2) := by decide +kernel
theorem eX0_chooseCar_62 : decode rX0_chooseCar.2.1 62 = .ok (.iload 4, 2) := by decide +kernel
theorem eX0_chooseCar_64 : decode rX0_chooseCar.2.1 64 = .ok (.if_icmp .ge 10, 3) := by decide +kernel
theorem eX0_chooseCar_67 : decode rX0_chooseCar.2.1 67 = .ok (.iload 5, 2) := by decide +kernel
theorem eX0_chooseCar_69 : decode rX0_chooseCar.2.1 69 = .ok (.istore_n 3, 1) := by decide +kernel
theorem eX0_chooseCar_70 : decode rX0_chooseCar.2.1 70 = .ok (.iload 7, 2) := by decide +kernel
theorem eX0_chooseCar_72 : decode rX0_chooseCar.2.1 72 = .ok (.istore 4, 2) := by decide +kernel
theorem eX0_chooseCar_74 : decode rX0_chooseCar.2.1 74 = .ok (.iinc 5 1, 3) := by decide +kernel
theorem eX0_chooseCar_77 : decode rX0_chooseCar.2.1 77 = .ok (.goto (-69), 3) := by decide +kernel
theorem eX0_chooseCar_80 : decode rX0_chooseCar.2.1 80 = .ok (.iload_n 3, 1) := by decide +kernel
theorem eX0_chooseCar_81 : decode rX0_chooseCar.2.1 81 = .ok (.ireturn, 1) := by decide +kernel
theorem eX0_isPassenger_0 : decode rX0_isPassenger.2.1 0 = .ok (.iload_n 1, 1) := by decide +kernel
theorem eX0_isPassenger_1 : decode rX0_isPassenger.2.1 1 = .ok (.ifCond .lt 15, 3) := by decide +kernel
theorem eX0_isPassenger_4 : decode rX0_isPassenger.2.1 4 = .ok (.iload_n 1, 1) := by decide +kernel
theorem eX0_isPassenger_5 : decode rX0_isPassenger.2.1 5 = .ok (.aload_n 0, 1) := by decide +kernel
theorem eX0_isPassenger_6 : decode rX0_isPassenger.2.1 6 = .ok (.getfield 30, 3) := by decide +kernel
theorem eX0_isPassenger_9 : decode rX0_isPassenger.2.1 9 = .ok (.if_icmp .ge 7, 3) := by decide +kernel
theorem eX0_isPassenger_12 : decode rX0_isPassenger.2.1 12 = .ok (.iconst 1, 1) := by decide +kernel
theorem eX0_isPassenger_13 : decode rX0_isPassenger.2.1 13 = .ok (.goto 4, 3) := by decide +kernel
theorem eX0_isPassenger_16 : decode rX0_isPassenger.2.1 16 = .ok (.iconst 0, 1) := by decide +kernel
theorem eX0_isPassenger_17 : decode rX0_isPassenger.2.1 17 = .ok (.ireturn, 1) := by decide +kernel
theorem eX0_indexOf_0 : decode rX0_indexOf.2.1 0 = .ok (.iconst 0, 1) := by decide +kernel
theorem eX0_indexOf_1 : decode rX0_indexOf.2.1 1 = .ok (.istore_n 2, 1) := by decide +kernel
theorem eX0_indexOf_2 : decode rX0_indexOf.2.1 2 = .ok (.iload_n 2, 1) := by decide +kernel
theorem eX0_indexOf_3 : decode rX0_indexOf.2.1 3 = .ok (.aload_n 0, 1) := by decide +kernel
theorem eX0_indexOf_4 : decode rX0_indexOf.2.1 4 = .ok (.getfield 30, 3) := by decide +kernel
theorem eX0_indexOf_7 : decode rX0_indexOf.2.1 7 = .ok (.if_icmp .ge 24, 3) := by decide +kernel
theorem eX0_indexOf_10 : decode rX0_indexOf.2.1 10 = .ok (.aload_n 0, 1) := by decide +kernel
theorem eX0_indexOf_11 : decode rX0_indexOf.2.1 11 = .ok (.getfield 19, 3) := by decide +kernel
theorem eX0_indexOf_14 : decode rX0_indexOf.2.1 14 = .ok (.iload_n 2, 1) := by decide +kernel
theorem eX0_indexOf_15 : decode rX0_indexOf.2.1 15 = .ok (.aaload, 1) := by decide +kernel
theorem eX0_indexOf_16 : decode rX0_indexOf.2.1 16 = .ok (.getfield 71, 3) := by decide +kernel
theorem eX0_indexOf_19 : decode rX0_indexOf.2.1 19 = .ok (.iload_n 1, 1) := by decide +kernel
theorem eX0_indexOf_20 : decode rX0_indexOf.2.1 20 = .ok (.if_icmp .ne 5, 3) := by decide +kernel
theorem eX0_indexOf_23 : decode rX0_indexOf.2.1 23 = .ok (.iload_n 2, 1) := by decide +kernel
theorem eX0_indexOf_24 : decode rX0_indexOf.2.1 24 = .ok (.ireturn, 1) := by decide +kernel
theorem eX0_indexOf_25 : decode rX0_indexOf.2.1 25 = .ok (.iinc 2 1, 3) := by decide +kernel
theorem eX0_indexOf_28 : decode rX0_indexOf.2.1 28 = .ok (.goto (-26), 3) := by decide +kernel
theorem eX0_indexOf_31 : decode rX0_indexOf.2.1 31 = .ok (.iconst (-1), 1) := by decide +kernel
theorem eX0_indexOf_32 : decode rX0_indexOf.2.1 32 = .ok (.ireturn, 1) := by decide +kernel
theorem eX0_isRiding_0 : decode rX0_isRiding.2.1 0 = .ok (.aload_n 0, 1) := by decide +kernel
theorem eX0_isRiding_1 : decode rX0_isRiding.2.1 1 = .ok (.iload_n 1, 1) := by decide +kernel
theorem eX0_isRiding_2 : decode rX0_isRiding.2.1 2 = .ok (.invokevirtual 224, 3) := by decide +kernel
theorem eX0_isRiding_5 : decode rX0_isRiding.2.1 5 = .ok (.istore_n 2, 1) := by decide +kernel
theorem eX0_isRiding_6 : decode rX0_isRiding.2.1 6 = .ok (.iload_n 2, 1) := by decide +kernel
theorem eX0_isRiding_7 : decode rX0_isRiding.2.1 7 = .ok (.iconst (-1), 1) := by decide +kernel
theorem eX0_isRiding_8 : decode rX0_isRiding.2.1 8 = .ok (.if_icmp .eq 19, 3) := by decide +kernel
theorem eX0_isRiding_11 : decode rX0_isRiding.2.1 11 = .ok (.aload_n 0, 1) := by decide +kernel
theorem eX0_isRiding_12 : decode rX0_isRiding.2.1 12 = .ok (.getfield 19, 3) := by decide +kernel
theorem eX0_isRiding_15 : decode rX0_isRiding.2.1 15 = .ok (.iload_n 2, 1) := by decide +kernel
theorem eX0_isRiding_16 : decode rX0_isRiding.2.1 16 = .ok (.aaload, 1) := by decide +kernel
theorem eX0_isRiding_17 : decode rX0_isRiding.2.1 17 = .ok (.getfield 86, 3) := by decide +kernel
theorem eX0_isRiding_20 : decode rX0_isRiding.2.1 20 = .ok (.ifCond .eq 7, 3) := by decide +kernel
theorem eX0_isRiding_23 : decode rX0_isRiding.2.1 23 = .ok (.iconst 1, 1) := by decide +kernel
theorem eX0_isRiding_24 : decode rX0_isRiding.2.1 24 = .ok (.goto 4, 3) := by decide +kernel
theorem eX0_isRiding_27 : decode rX0_isRiding.2.1 27 = .ok (.iconst 0, 1) := by decide +kernel
theorem eX0_isRiding_28 : decode rX0_isRiding.2.1 28 = .ok (.ireturn, 1) := by decide +kernel
theorem eX0_countAssigned_0 : decode rX0_countAssigned.2.1 0 = .ok (.iconst 0, 1) := by decide +kernel
theorem eX0_countAssigned_1 : decode rX0_countAssigned.2.1 1 = .ok (.istore_n 2, 1) := by decide +kernel
theorem eX0_countAssigned_2 : decode rX0_countAssigned.2.1 2 = .ok (.iconst 0, 1) := by decide +kernel
theorem eX0_countAssigned_3 : decode rX0_countAssigned.2.1 3 = .ok (.istore_n 3, 1) := by decide +kernel
theorem eX0_countAssigned_4 : decode rX0_countAssigned.2.1 4 = .ok (.iload_n 3, 1) := by decide +kernel
theorem eX0_countAssigned_5 : decode rX0_countAssigned.2.1 5 = .ok (.aload_n 0, 1) := by decide +kernel
theorem eX0_countAssigned_6 : decode rX0_countAssigned.2.1 6 = .ok (.getfield 30, 3) := by decide +kernel
theorem eX0_countAssigned_9 : decode rX0_countAssigned.2.1 9 = .ok (.if_icmp .ge 37, 3) := by decide +kernel
theorem eX0_countAssigned_12 : decode rX0_countAssigned.2.1 12 = .ok (.aload_n 0, 1) := by decide +kernel
theorem eX0_countAssigned_13 : decode rX0_countAssigned.2.1 13 = .ok (.getfield 19, 3) := by decide +kernel
theorem eX0_countAssigned_16 : decode rX0_countAssigned.2.1 16 = .ok (.iload_n 3, 1) := by decide +kernel
theorem eX0_countAssigned_17 : decode rX0_countAssigned.2.1 17 = .ok (.aaload, 1) := by decide +kernel
theorem eX0_countAssigned_18 : decode rX0_countAssigned.2.1 18 = .ok (.getfield 86, 3) := by decide +kernel
theorem eX0_countAssigned_21 : decode rX0_countAssigned.2.1 21 = .ok (.ifCond .ne 19, 3) := by decide +kernel
theorem eX0_countAssigned_24 : decode rX0_countAssigned.2.1 24 = .ok (.aload_n 0, 1) := by decide +kernel
theorem eX0_countAssigned_25 : decode rX0_countAssigned.2.1 25 = .ok (.getfield 19, 3) := by decide +kernel
theorem eX0_countAssigned_28 : decode rX0_countAssigned.2.1 28 = .ok (.iload_n 3, 1) := by decide +kernel
theorem eX0_countAssigned_29 : decode rX0_countAssigned.2.1 29 = .ok (.aaload, 1) := by decide +kernel
theorem eX0_countAssigned_30 : decode rX0_countAssigned.2.1 30 = .ok (.getfield 94, 3) := by decide +kernel
theorem eX0_countAssigned_33 : decode rX0_countAssigned.2.1 33 = .ok (.iload_n 1, 1) := by decide +kernel
theorem eX0_countAssigned_34 : decode rX0_countAssigned.2.1 34 = .ok (.if_icmp .ne 6, 3) := by decide +kernel
theorem eX0_countAssigned_37 : decode rX0_countAssigned.2.1 37 = .ok (.iinc 2 1, 3) := by decide +kernel
theorem eX0_countAssigned_40 : decode rX0_countAssigned.2.1 40 = .ok (.iinc 3 1, 3) := by decide +kernel
theorem eX0_countAssigned_43 : decode rX0_countAssigned.2.1 43 = .ok (.goto (-39), 3) := by decide +kernel
theorem eX0_countAssigned_46 : decode rX0_countAssigned.2.1 46 = .ok (.iload_n 2, 1) := by decide +kernel
theorem eX0_countAssigned_47 : decode rX0_countAssigned.2.1 47 = .ok (.ireturn, 1) := by decide +kernel
theorem eX0_countMoreEnergetic_0 : decode rX0_countMoreEnergetic.2.1 0 = .ok (.iconst 0, 1) := by decide +kernel
theorem eX0_countMoreEnergetic_1 : decode rX0_countMoreEnergetic.2.1 1 = .ok (.istore_n 2, 1) := by decide +kernel
theorem eX0_countMoreEnergetic_2 : decode rX0_countMoreEnergetic.2.1 2 = .ok (.iconst 0, 1) := by decide +kernel
theorem eX0_countMoreEnergetic_3 : decode rX0_countMoreEnergetic.2.1 3 = .ok (.istore_n 3, 1) := by decide +kernel
theorem eX0_countMoreEnergetic_4 : decode rX0_countMoreEnergetic.2.1 4 = .ok (.iload_n 3, 1) := by decide +kernel
theorem eX0_countMoreEnergetic_5 : decode rX0_countMoreEnergetic.2.1 5 = .ok (.iconst 3, 1) := by decide +kernel
theorem eX0_countMoreEnergetic_6 : decode rX0_countMoreEnergetic.2.1 6 = .ok (.if_icmp .ge 21, 3) := by decide +kernel
theorem eX0_countMoreEnergetic_9 : decode rX0_countMoreEnergetic.2.1 9 = .ok (.aload_n 0, 1) := by decide +kernel
theorem eX0_countMoreEnergetic_10 : decode rX0_countMoreEnergetic.2.1 10 = .ok (.iload_n 3, 1) := by decide +kernel
theorem eX0_countMoreEnergetic_11 : decode rX0_countMoreEnergetic.2.1 11 = .ok (.iload_n 1, 1) := by decide +kernel
theorem eX0_countMoreEnergetic_12 : decode rX0_countMoreEnergetic.2.1 12 = .ok (.invokevirtual 230, 3) := by decide +kernel
theorem eX0_countMoreEnergetic_15 : decode rX0_countMoreEnergetic.2.1 15 = .ok (.ifCond .eq 6, 3) := by decide +kernel
theorem eX0_countMoreEnergetic_18 : decode rX0_countMoreEnergetic.2.1 18 = .ok (.iinc 2 1, 3) := by decide +kernel
theorem eX0_countMoreEnergetic_21 : decode rX0_countMoreEnergetic.2.1 21 = .ok (.iinc 3 1, 3) := by decide +kernel
theorem eX0_countMoreEnergetic_24 : decode rX0_countMoreEnergetic.2.1 24 = .ok (.goto (-20), 3) := by decide +kernel
theorem eX0_countMoreEnergetic_27 : decode rX0_countMoreEnergetic.2.1 27 = .ok (.iload_n 2, 1) := by decide +kernel
theorem eX0_countMoreEnergetic_28 : decode rX0_countMoreEnergetic.2.1 28 = .ok (.ireturn, 1) := by decide +kernel
theorem eX0_spendsBefore_0 : decode rX0_spendsBefore.2.1 0 = .ok (.aload_n 0, 1) := by decide +kernel
theorem eX0_spendsBefore_1 : decode rX0_spendsBefore.2.1 1 = .ok (.getfield 11, 3) := by decide +kernel
theorem eX0_spendsBefore_4 : decode rX0_spendsBefore.2.1 4 = .ok (.iload_n 1, 1) := by decide +kernel
theorem eX0_spendsBefore_5 : decode rX0_spendsBefore.2.1 5 = .ok (.aaload, 1) := by decide +kernel
theorem eX0_spendsBefore_6 : decode rX0_spendsBefore.2.1 6 = .ok (.astore_n 3, 1) := by decide +kernel
theorem eX0_spendsBefore_7 : decode rX0_spendsBefore.2.1 7 = .ok (.aload_n 0, 1) := by decide +kernel
theorem eX0_spendsBefore_8 : decode rX0_spendsBefore.2.1 8 = .ok (.getfield 11, 3) := by decide +kernel
theorem eX0_spendsBefore_11 : decode rX0_spendsBefore.2.1 11 = .ok (.iload_n 2, 1) := by decide +kernel
theorem eX0_spendsBefore_12 : decode rX0_spendsBefore.2.1 12 = .ok (.aaload, 1) := by decide +kernel
theorem eX0_spendsBefore_13 : decode rX0_spendsBefore.2.1 13 = .ok (.astore 4, 2) := by decide +kernel
theorem eX0_spendsBefore_15 : decode rX0_spendsBefore.2.1 15 = .ok (.aload_n 3, 1) := by decide +kernel
theorem eX0_spendsBefore_16 : decode rX0_spendsBefore.2.1 16 = .ok (.getfield 179, 3) := by decide +kernel
theorem eX0_spendsBefore_19 : decode rX0_spendsBefore.2.1 19 = .ok (.aload 4, 2) := by decide +kernel
theorem eX0_spendsBefore_21 : decode rX0_spendsBefore.2.1 21 = .ok (.getfield 179, 3) := by decide +kernel
theorem eX0_spendsBefore_24 : decode rX0_spendsBefore.2.1 24 = .ok (.if_icmp .eq 21, 3) := by decide +kernel
theorem eX0_spendsBefore_27 : decode rX0_spendsBefore.2.1 27 = .ok (.aload_n 3, 1) := by decide +kernel
theorem eX0_spendsBefore_28 : decode rX0_spendsBefore.2.1 28 = .ok (.getfield 179, 3) := by decide +kernel
theorem eX0_spendsBefore_31 : decode rX0_spendsBefore.2.1 31 = .ok (.aload 4, 2) := by decide +kernel
theorem eX0_spendsBefore_33 : decode rX0_spendsBefore.2.1 33 = .ok (.getfield 179, 3) := by decide +kernel
theorem eX0_spendsBefore_36 : decode rX0_spendsBefore.2.1 36 = .ok (.if_icmp .le 7, 3) := by decide +kernel
theorem eX0_spendsBefore_39 : decode rX0_spendsBefore.2.1 39 = .ok (.iconst 1, 1) := by decide +kernel
theorem eX0_spendsBefore_40 : decode rX0_spendsBefore.2.1 40 = .ok (.goto 4, 3) := by decide +kernel
theorem eX0_spendsBefore_43 : decode rX0_spendsBefore.2.1 43 = .ok (.iconst 0, 1) := by decide +kernel
theorem eX0_spendsBefore_44 : decode rX0_spendsBefore.2.1 44 = .ok (.ireturn, 1) := by decide +kernel
theorem eX0_spendsBefore_45 : decode rX0_spendsBefore.2.1 45 = .ok (.aload_n 3, 1) := by decide +kernel
theorem eX0_spendsBefore_46 : decode rX0_spendsBefore.2.1 46 = .ok (.getfield 109, 3) := by decide +kernel
theorem eX0_spendsBefore_49 : decode rX0_spendsBefore.2.1 49 = .ok (.aload 4, 2) := by decide +kernel
theorem eX0_spendsBefore_51 : decode rX0_spendsBefore.2.1 51 = .ok (.getfield 109, 3) := by decide +kernel
theorem eX0_spendsBefore_54 : decode rX0_spendsBefore.2.1 54 = .ok (.if_icmp .eq 21, 3) := by decide +kernel
theorem eX0_spendsBefore_57 : decode rX0_spendsBefore.2.1 57 = .ok (.aload_n 3, 1) := by decide +kernel
theorem eX0_spendsBefore_58 : decode rX0_spendsBefore.2.1 58 = .ok (.getfield 109, 3) := by decide +kernel
theorem eX0_spendsBefore_61 : decode rX0_spendsBefore.2.1 61 = .ok (.aload 4, 2) := by decide +kernel
theorem eX0_spendsBefore_63 : decode rX0_spendsBefore.2.1 63 = .ok (.getfield 109, 3) := by decide +kernel
theorem eX0_spendsBefore_66 : decode rX0_spendsBefore.2.1 66 = .ok (.if_icmp .le 7, 3) := by decide +kernel
theorem eX0_spendsBefore_69 : decode rX0_spendsBefore.2.1 69 = .ok (.iconst 1, 1) := by decide +kernel
theorem eX0_spendsBefore_70 : decode rX0_spendsBefore.2.1 70 = .ok (.goto 4, 3) := by decide +kernel
theorem eX0_spendsBefore_73 : decode rX0_spendsBefore.2.1 73 = .ok (.iconst 0, 1) := by decide +kernel
theorem eX0_spendsBefore_74 : decode rX0_spendsBefore.2.1 74 = .ok (.ireturn, 1) := by decide +kernel
theorem eX0_spendsBefore_75 : decode rX0_spendsBefore.2.1 75 = .ok (.iload_n 1, 1) := by decide +kernel
theorem eX0_spendsBefore_76 : decode rX0_spendsBefore.2.1 76 = .ok (.iload_n 2, 1) := by decide +kernel
theorem eX0_spendsBefore_77 : decode rX0_spendsBefore.2.1 77 = .ok (.if_icmp .ge 7, 3) := by decide +kernel
theorem eX0_spendsBefore_80 : decode rX0_spendsBefore.2.1 80 = .ok (.iconst 1, 1) := by decide +kernel
theorem eX0_spendsBefore_81 : decode rX0_spendsBefore.2.1 81 = .ok (.goto 4, 3) := by decide +kernel
theorem eX0_spendsBefore_84 : decode rX0_spendsBefore.2.1 84 = .ok (.iconst 0, 1) := by decide +kernel
theorem eX0_spendsBefore_85 : decode rX0_spendsBefore.2.1 85 = .ok (.ireturn, 1) := by decide +kernel
theorem eX0_sumOfAccounts_0 : decode rX0_sumOfAccounts.2.1 0 = .ok (.lconst 0, 1) := by decide +kernel
theorem eX0_sumOfAccounts_1 : decode rX0_sumOfAccounts.2.1 1 = .ok (.lstore_n 1, 1) := by decide +kernel
theorem eX0_sumOfAccounts_2 : decode rX0_sumOfAccounts.2.1 2 = .ok (.iconst 0, 1) := by decide +kernel
theorem eX0_sumOfAccounts_3 : decode rX0_sumOfAccounts.2.1 3 = .ok (.istore_n 3, 1) := by decide +kernel
theorem eX0_sumOfAccounts_4 : decode rX0_sumOfAccounts.2.1 4 = .ok (.iload_n 3, 1) := by decide +kernel
theorem eX0_sumOfAccounts_5 : decode rX0_sumOfAccounts.2.1 5 = .ok (.iconst 3, 1) := by decide +kernel
theorem eX0_sumOfAccounts_6 : decode rX0_sumOfAccounts.2.1 6 = .ok (.if_icmp .ge 22, 3) := by decide +kernel
theorem eX0_sumOfAccounts_9 : decode rX0_sumOfAccounts.2.1 9 = .ok (.lload_n 1, 1) := by decide +kernel
theorem eX0_sumOfAccounts_10 : decode rX0_sumOfAccounts.2.1 10 = .ok (.aload_n 0, 1) := by decide +kernel
theorem eX0_sumOfAccounts_11 : decode rX0_sumOfAccounts.2.1 11 = .ok (.getfield 11, 3) := by decide +kernel
theorem eX0_sumOfAccounts_14 : decode rX0_sumOfAccounts.2.1 14 = .ok (.iload_n 3, 1) := by decide +kernel
theorem eX0_sumOfAccounts_15 : decode rX0_sumOfAccounts.2.1 15 = .ok (.aaload, 1) := by decide +kernel
theorem eX0_sumOfAccounts_16 : decode rX0_sumOfAccounts.2.1 16 = .ok (.getfield 179, 3) := by decide +kernel
theorem eX0_sumOfAccounts_19 : decode rX0_sumOfAccounts.2.1 19 = .ok (.i2l, 1) := by decide +kernel
theorem eX0_sumOfAccounts_20 : decode rX0_sumOfAccounts.2.1 20 = .ok (.ladd, 1) := by decide +kernel
theorem eX0_sumOfAccounts_21 : decode rX0_sumOfAccounts.2.1 21 = .ok (.lstore_n 1, 1) := by decide +kernel
theorem eX0_sumOfAccounts_22 : decode rX0_sumOfAccounts.2.1 22 = .ok (.iinc 3 1, 3) := by decide +kernel
theorem eX0_sumOfAccounts_25 : decode rX0_sumOfAccounts.2.1 25 = .ok (.goto (-21), 3) := by decide +kernel
theorem eX0_sumOfAccounts_28 : decode rX0_sumOfAccounts.2.1 28 = .ok (.lload_n 1, 1) := by decide +kernel
theorem eX0_sumOfAccounts_29 : decode rX0_sumOfAccounts.2.1 29 = .ok (.lreturn, 1) := by decide +kernel
theorem eX0_energyOfMoves_0 : decode rX0_energyOfMoves.2.1 0 = .ok (.ldc2_w 233, 3) := by decide +kernel
theorem eX0_energyOfMoves_3 : decode rX0_energyOfMoves.2.1 3 = .ok (.aload_n 0, 1) := by decide +kernel
theorem eX0_energyOfMoves_4 : decode rX0_energyOfMoves.2.1 4 = .ok (.getfield 40, 3) := by decide +kernel
theorem eX0_energyOfMoves_7 : decode rX0_energyOfMoves.2.1 7 = .ok (.i2l, 1) := by decide +kernel
theorem eX0_energyOfMoves_8 : decode rX0_energyOfMoves.2.1 8 = .ok (.lmul, 1) := by decide +kernel
theorem eX0_energyOfMoves_9 : decode rX0_energyOfMoves.2.1 9 = .ok (.aload_n 0, 1) := by decide +kernel
theorem eX0_energyOfMoves_10 : decode rX0_energyOfMoves.2.1 10 = .ok (.getfield 46, 3) := by decide +kernel
theorem eX0_energyOfMoves_13 : decode rX0_energyOfMoves.2.1 13 = .ok (.i2l, 1) := by decide +kernel
theorem eX0_energyOfMoves_14 : decode rX0_energyOfMoves.2.1 14 = .ok (.ladd, 1) := by decide +kernel
theorem eX0_energyOfMoves_15 : decode rX0_energyOfMoves.2.1 15 = .ok (.aload_n 0, 1) := by decide +kernel
theorem eX0_energyOfMoves_16 : decode rX0_energyOfMoves.2.1 16 = .ok (.getfield 43, 3) := by decide +kernel
theorem eX0_energyOfMoves_19 : decode rX0_energyOfMoves.2.1 19 = .ok (.i2l, 1) := by decide +kernel
theorem eX0_energyOfMoves_20 : decode rX0_energyOfMoves.2.1 20 = .ok (.ladd, 1) := by decide +kernel
theorem eX0_energyOfMoves_21 : decode rX0_energyOfMoves.2.1 21 = .ok (.aload_n 0, 1) := by decide +kernel
theorem eX0_energyOfMoves_22 : decode rX0_energyOfMoves.2.1 22 = .ok (.getfield 49, 3) := by decide +kernel
theorem eX0_energyOfMoves_25 : decode rX0_energyOfMoves.2.1 25 = .ok (.i2l, 1) := by decide +kernel
theorem eX0_energyOfMoves_26 : decode rX0_energyOfMoves.2.1 26 = .ok (.ladd, 1) := by decide +kernel
theorem eX0_energyOfMoves_27 : decode rX0_energyOfMoves.2.1 27 = .ok (.lreturn, 1) := by decide +kernel
theorem eX0_estimatesAgree_0 : decode rX0_estimatesAgree.2.1 0 = .ok (.iconst 0, 1) := by decide +kernel
theorem eX0_estimatesAgree_1 : decode rX0_estimatesAgree.2.1 1 = .ok (.istore_n 1, 1) := by decide +kernel
theorem eX0_estimatesAgree_2 : decode rX0_estimatesAgree.2.1 2 = .ok (.iload_n 1, 1) := by decide +kernel
theorem eX0_estimatesAgree_3 : decode rX0_estimatesAgree.2.1 3 = .ok (.iconst 3, 1) := by decide +kernel
theorem eX0_estimatesAgree_4 : decode rX0_estimatesAgree.2.1 4 = .ok (.if_icmp .ge 40, 3) := by decide +kernel
theorem eX0_estimatesAgree_7 : decode rX0_estimatesAgree.2.1 7 = .ok (.iconst 0, 1) := by decide +kernel
theorem eX0_estimatesAgree_8 : decode rX0_estimatesAgree.2.1 8 = .ok (.istore_n 2, 1) := by decide +kernel
theorem eX0_estimatesAgree_9 : decode rX0_estimatesAgree.2.1 9 = .ok (.iload_n 2, 1) := by decide +kernel
theorem eX0_estimatesAgree_10 : decode rX0_estimatesAgree.2.1 10 = .ok (.bipush 10, 2) := by decide +kernel
theorem eX0_estimatesAgree_12 : decode rX0_estimatesAgree.2.1 12 = .ok (.if_icmp .ge 26, 3) := by decide +kernel
theorem eX0_estimatesAgree_15 : decode rX0_estimatesAgree.2.1 15 = .ok (.aload_n 0, 1) := by decide +kernel
theorem eX0_estimatesAgree_16 : decode rX0_estimatesAgree.2.1 16 = .ok (.iload_n 1, 1) := by decide +kernel
theorem eX0_estimatesAgree_17 : decode rX0_estimatesAgree.2.1 17 = .ok (.iload_n 2, 1) := by decide +kernel
theorem eX0_estimatesAgree_18 : decode rX0_estimatesAgree.2.1 18 = .ok (.invokevirtual 221, 3) := by decide +kernel
theorem eX0_estimatesAgree_21 : decode rX0_estimatesAgree.2.1 21 = .ok (.aload_n 0, 1) := by decide +kernel
theorem eX0_estimatesAgree_22 : decode rX0_estimatesAgree.2.1 22 = .ok (.iload_n 1, 1) := by decide +kernel
theorem eX0_estimatesAgree_23 : decode rX0_estimatesAgree.2.1 23 = .ok (.iload_n 2, 1) := by decide +kernel
theorem eX0_estimatesAgree_24 : decode rX0_estimatesAgree.2.1 24 = .ok (.invokevirtual 235, 3) := by decide +kernel
theorem eX0_estimatesAgree_27 : decode rX0_estimatesAgree.2.1 27 = .ok (.if_icmp .eq 5, 3) := by decide +kernel
theorem eX0_estimatesAgree_30 : decode rX0_estimatesAgree.2.1 30 = .ok (.iconst 0, 1) := by decide +kernel
theorem eX0_estimatesAgree_31 : decode rX0_estimatesAgree.2.1 31 = .ok (.ireturn, 1) := by decide +kernel
theorem eX0_estimatesAgree_32 : decode rX0_estimatesAgree.2.1 32 = .ok (.iinc 2 1, 3) := by decide +kernel
theorem eX0_estimatesAgree_35 : decode rX0_estimatesAgree.2.1 35 = .ok (.goto (-26), 3) := by decide +kernel
theorem eX0_estimatesAgree_38 : decode rX0_estimatesAgree.2.1 38 = .ok (.iinc 1 1, 3) := by decide +kernel
theorem eX0_estimatesAgree_41 : decode rX0_estimatesAgree.2.1 41 = .ok (.goto (-39), 3) := by decide +kernel
theorem eX0_estimatesAgree_44 : decode rX0_estimatesAgree.2.1 44 = .ok (.iconst 1, 1) := by decide +kernel
theorem eX0_estimatesAgree_45 : decode rX0_estimatesAgree.2.1 45 = .ok (.ireturn, 1) := by decide +kernel
theorem eX0_loadsFit_0 : decode rX0_loadsFit.2.1 0 = .ok (.iconst 0, 1) := by decide +kernel
theorem eX0_loadsFit_1 : decode rX0_loadsFit.2.1 1 = .ok (.istore_n 1, 1) := by decide +kernel
theorem eX0_loadsFit_2 : decode rX0_loadsFit.2.1 2 = .ok (.iload_n 1, 1) := by decide +kernel
theorem eX0_loadsFit_3 : decode rX0_loadsFit.2.1 3 = .ok (.iconst 3, 1) := by decide +kernel
theorem eX0_loadsFit_4 : decode rX0_loadsFit.2.1 4 = .ok (.if_icmp .ge 32, 3) := by decide +kernel
theorem eX0_loadsFit_7 : decode rX0_loadsFit.2.1 7 = .ok (.aload_n 0, 1) := by decide +kernel
theorem eX0_loadsFit_8 : decode rX0_loadsFit.2.1 8 = .ok (.getfield 11, 3) := by decide +kernel
theorem eX0_loadsFit_11 : decode rX0_loadsFit.2.1 11 = .ok (.iload_n 1, 1) := by decide +kernel
theorem eX0_loadsFit_12 : decode rX0_loadsFit.2.1 12 = .ok (.aaload, 1) := by decide +kernel
theorem eX0_loadsFit_13 : decode rX0_loadsFit.2.1 13 = .ok (.getfield 109, 3) := by decide +kernel
theorem eX0_loadsFit_16 : decode rX0_loadsFit.2.1 16 = .ok (.aload_n 0, 1) := by decide +kernel
theorem eX0_loadsFit_17 : decode rX0_loadsFit.2.1 17 = .ok (.getfield 11, 3) := by decide +kernel
theorem eX0_loadsFit_20 : decode rX0_loadsFit.2.1 20 = .ok (.iload_n 1, 1) := by decide +kernel
theorem eX0_loadsFit_21 : decode rX0_loadsFit.2.1 21 = .ok (.aaload, 1) := by decide +kernel
theorem eX0_loadsFit_22 : decode rX0_loadsFit.2.1 22 = .ok (.getfield 112, 3) := by decide +kernel
theorem eX0_loadsFit_25 : decode rX0_loadsFit.2.1 25 = .ok (.if_icmp .le 5, 3) := by decide +kernel
theorem eX0_loadsFit_28 : decode rX0_loadsFit.2.1 28 = .ok (.iconst 0, 1) := by decide +kernel
theorem eX0_loadsFit_29 : decode rX0_loadsFit.2.1 29 = .ok (.ireturn, 1) := by decide +kernel
theorem eX0_loadsFit_30 : decode rX0_loadsFit.2.1 30 = .ok (.iinc 1 1, 3) := by decide +kernel
theorem eX0_loadsFit_33 : decode rX0_loadsFit.2.1 33 = .ok (.goto (-31), 3) := by decide +kernel
theorem eX0_loadsFit_36 : decode rX0_loadsFit.2.1 36 = .ok (.iconst 1, 1) := by decide +kernel
theorem eX0_loadsFit_37 : decode rX0_loadsFit.2.1 37 = .ok (.ireturn, 1) := by decide +kernel
theorem eX0_assignmentsServe_0 : decode rX0_assignmentsServe.2.1 0 = .ok (.iconst 0, 1) := by decide +kernel
theorem eX0_assignmentsServe_1 : decode rX0_assignmentsServe.2.1 1 = .ok (.istore_n 1, 1) := by decide +kernel
theorem eX0_assignmentsServe_2 : decode rX0_assignmentsServe.2.1 2 = .ok (.iload_n 1, 1) := by decide +kernel
theorem eX0_assignmentsServe_3 : decode rX0_assignmentsServe.2.1 3 = .ok (.iconst 3, 1) := by decide +kernel
theorem eX0_assignmentsServe_4 : decode rX0_assignmentsServe.2.1 4 = .ok (.if_icmp .ge 31, 3) := by decide +kernel
theorem eX0_assignmentsServe_7 : decode rX0_assignmentsServe.2.1 7 = .ok (.aload_n 0, 1) := by decide +kernel
theorem eX0_assignmentsServe_8 : decode rX0_assignmentsServe.2.1 8 = .ok (.getfield 11, 3) := by decide +kernel
theorem eX0_assignmentsServe_11 : decode rX0_assignmentsServe.2.1 11 = .ok (.iload_n 1, 1) := by decide +kernel
theorem eX0_assignmentsServe_12 : decode rX0_assignmentsServe.2.1 12 = .ok (.aaload, 1) := by decide +kernel
theorem eX0_assignmentsServe_13 : decode rX0_assignmentsServe.2.1 13 = .ok (.getfield 106, 3) := by decide +kernel
theorem eX0_assignmentsServe_16 : decode rX0_assignmentsServe.2.1 16 = .ok (.ifCond .ne 13, 3) := by decide +kernel
theorem eX0_assignmentsServe_19 : decode rX0_assignmentsServe.2.1 19 = .ok (.aload_n 0, 1) := by decide +kernel
theorem eX0_assignmentsServe_20 : decode rX0_assignmentsServe.2.1 20 = .ok (.iload_n 1, 1) := by decide +kernel
theorem eX0_assignmentsServe_21 : decode rX0_assignmentsServe.2.1 21 = .ok (.invokevirtual 238, 3) := by decide +kernel
theorem eX0_assignmentsServe_24 : decode rX0_assignmentsServe.2.1 24 = .ok (.ifCond .le 5, 3) := by decide +kernel
theorem eX0_assignmentsServe_27 : decode rX0_assignmentsServe.2.1 27 = .ok (.iconst 0, 1) := by decide +kernel
theorem eX0_assignmentsServe_28 : decode rX0_assignmentsServe.2.1 28 = .ok (.ireturn, 1) := by decide +kernel
theorem eX0_assignmentsServe_29 : decode rX0_assignmentsServe.2.1 29 = .ok (.iinc 1 1, 3) := by decide +kernel
theorem eX0_assignmentsServe_32 : decode rX0_assignmentsServe.2.1 32 = .ok (.goto (-30), 3) := by decide +kernel
theorem eX0_assignmentsServe_35 : decode rX0_assignmentsServe.2.1 35 = .ok (.iconst 1, 1) := by decide +kernel
theorem eX0_assignmentsServe_36 : decode rX0_assignmentsServe.2.1 36 = .ok (.ireturn, 1) := by decide +kernel
theorem eX1_init_0 : decode rX1_init.2.1 0 = .ok (.aload_n 0, 1) := by decide +kernel
theorem eX1_init_1 : decode rX1_init.2.1 1 = .ok (.invokespecial 3, 3) := by decide +kernel
theorem eX1_init_4 : decode rX1_init.2.1 4 = .ok (.aload_n 0, 1) := by decide +kernel
theorem eX1_init_5 : decode rX1_init.2.1 5 = .ok (.iconst 0, 1) := by decide +kernel
theorem eX1_init_6 : decode rX1_init.2.1 6 = .ok (.putfield 9, 3) := by decide +kernel
theorem eX1_init_9 : decode rX1_init.2.1 9 = .ok (.aload_n 0, 1) := by decide +kernel
theorem eX1_init_10 : decode rX1_init.2.1 10 = .ok (.iconst 0, 1) := by decide +kernel
theorem eX1_init_11 : decode rX1_init.2.1 11 = .ok (.putfield 15, 3) := by decide +kernel
theorem eX1_init_14 : decode rX1_init.2.1 14 = .ok (.aload_n 0, 1) := by decide +kernel
theorem eX1_init_15 : decode rX1_init.2.1 15 = .ok (.sipush 400, 3) := by decide +kernel
theorem eX1_init_18 : decode rX1_init.2.1 18 = .ok (.putfield 18, 3) := by decide +kernel
theorem eX1_init_21 : decode rX1_init.2.1 21 = .ok (.aload_n 0, 1) := by decide +kernel
theorem eX1_init_22 : decode rX1_init.2.1 22 = .ok (.iconst 0, 1) := by decide +kernel
theorem eX1_init_23 : decode rX1_init.2.1 23 = .ok (.putfield 21, 3) := by decide +kernel
theorem eX1_init_26 : decode rX1_init.2.1 26 = .ok (.aload_n 0, 1) := by decide +kernel
theorem eX1_init_27 : decode rX1_init.2.1 27 = .ok (.iconst 0, 1) := by decide +kernel
theorem eX1_init_28 : decode rX1_init.2.1 28 = .ok (.putfield 24, 3) := by decide +kernel
theorem eX1_init_31 : decode rX1_init.2.1 31 = .ok (.aload_n 0, 1) := by decide +kernel
theorem eX1_init_32 : decode rX1_init.2.1 32 = .ok (.iconst 0, 1) := by decide +kernel
theorem eX1_init_33 : decode rX1_init.2.1 33 = .ok (.putfield 27, 3) := by decide +kernel
theorem eX1_init_36 : decode rX1_init.2.1 36 = .ok (.aload_n 0, 1) := by decide +kernel
theorem eX1_init_37 : decode rX1_init.2.1 37 = .ok (.iconst 0, 1) := by decide +kernel
theorem eX1_init_38 : decode rX1_init.2.1 38 = .ok (.putfield 30, 3) := by decide +kernel
theorem eX1_init_41 : decode rX1_init.2.1 41 = .ok (.aload_n 0, 1) := by decide +kernel
theorem eX1_init_42 : decode rX1_init.2.1 42 = .ok (.iconst 1, 1) := by decide +kernel
theorem eX1_init_43 : decode rX1_init.2.1 43 = .ok (.putfield 33, 3) := by decide +kernel
theorem eX1_init_46 : decode rX1_init.2.1 46 = .ok (.return_, 1) := by decide +kernel
theorem eX1_copyFrom_0 : decode rX1_copyFrom.2.1 0 = .ok (.aload_n 0, 1) := by decide +kernel
theorem eX1_copyFrom_1 : decode rX1_copyFrom.2.1 1 = .ok (.aload_n 1, 1) := by decide +kernel
theorem eX1_copyFrom_2 : decode rX1_copyFrom.2.1 2 = .ok (.getfield 9, 3) := by decide +kernel
theorem eX1_copyFrom_5 : decode rX1_copyFrom.2.1 5 = .ok (.putfield 9, 3) := by decide +kernel
theorem eX1_copyFrom_8 : decode rX1_copyFrom.2.1 8 = .ok (.aload_n 0, 1) := by decide +kernel
theorem eX1_copyFrom_9 : decode rX1_copyFrom.2.1 9 = .ok (.aload_n 1, 1) := by decide +kernel
theorem eX1_copyFrom_10 : decode rX1_copyFrom.2.1 10 = .ok (.getfield 15, 3) := by decide +kernel
theorem eX1_copyFrom_13 : decode rX1_copyFrom.2.1 13 = .ok (.putfield 15, 3) := by decide +kernel
theorem eX1_copyFrom_16 : decode rX1_copyFrom.2.1 16 = .ok (.aload_n 0, 1) := by decide +kernel
theorem eX1_copyFrom_17 : decode rX1_copyFrom.2.1 17 = .ok (.aload_n 1, 1) := by decide +kernel
theorem eX1_copyFrom_18 : decode rX1_copyFrom.2.1 18 = .ok (.getfield 18, 3) := by decide +kernel
theorem eX1_copyFrom_21 : decode rX1_copyFrom.2.1 21 = .ok (.putfield 18, 3) := by decide +kernel
theorem eX1_copyFrom_24 : decode rX1_copyFrom.2.1 24 = .ok (.aload_n 0, 1) := by decide +kernel
theorem eX1_copyFrom_25 : decode rX1_copyFrom.2.1 25 = .ok (.aload_n 1, 1) := by decide +kernel
theorem eX1_copyFrom_26 : decode rX1_copyFrom.2.1 26 = .ok (.getfield 21, 3) := by decide +kernel
theorem eX1_copyFrom_29 : decode rX1_copyFrom.2.1 29 = .ok (.putfield 21, 3) := by decide +kernel
theorem eX1_copyFrom_32 : decode rX1_copyFrom.2.1 32 = .ok (.aload_n 0, 1) := by decide +kernel
theorem eX1_copyFrom_33 : decode rX1_copyFrom.2.1 33 = .ok (.aload_n 1, 1) := by decide +kernel
theorem eX1_copyFrom_34 : decode rX1_copyFrom.2.1 34 = .ok (.getfield 24, 3) := by decide +kernel
theorem eX1_copyFrom_37 : decode rX1_copyFrom.2.1 37 = .ok (.putfield 24, 3) := by decide +kernel
theorem eX1_copyFrom_40 : decode rX1_copyFrom.2.1 40 = .ok (.aload_n 0, 1) := by decide +kernel
theorem eX1_copyFrom_41 : decode rX1_copyFrom.2.1 41 = .ok (.aload_n 1, 1) := by decide +kernel
theorem eX1_copyFrom_42 : decode rX1_copyFrom.2.1 42 = .ok (.getfield 27, 3) := by decide +kernel
theorem eX1_copyFrom_45 : decode rX1_copyFrom.2.1 45 = .ok (.putfield 27, 3) := by decide +kernel
theorem eX1_copyFrom_48 : decode rX1_copyFrom.2.1 48 = .ok (.aload_n 0, 1) := by decide +kernel
theorem eX1_copyFrom_49 : decode rX1_copyFrom.2.1 49 = .ok (.aload_n 1, 1) := by decide +kernel
theorem eX1_copyFrom_50 : decode rX1_copyFrom.2.1 50 = .ok (.getfield 30, 3) := by decide +kernel
theorem eX1_copyFrom_53 : decode rX1_copyFrom.2.1 53 = .ok (.putfield 30, 3) := by decide +kernel
theorem eX1_copyFrom_56 : decode rX1_copyFrom.2.1 56 = .ok (.aload_n 0, 1) := by decide +kernel
theorem eX1_copyFrom_57 : decode rX1_copyFrom.2.1 57 = .ok (.aload_n 1, 1) := by decide +kernel
theorem eX1_copyFrom_58 : decode rX1_copyFrom.2.1 58 = .ok (.getfield 33, 3) := by decide +kernel
theorem eX1_copyFrom_61 : decode rX1_copyFrom.2.1 61 = .ok (.putfield 33, 3) := by decide +kernel
theorem eX1_copyFrom_64 : decode rX1_copyFrom.2.1 64 = .ok (.return_, 1) := by decide +kernel
theorem eX2_init_0 : decode rX2_init.2.1 0 = .ok (.aload_n 0, 1) := by decide +kernel
theorem eX2_init_1 : decode rX2_init.2.1 1 = .ok (.invokespecial 3, 3) := by decide +kernel
theorem eX2_init_4 : decode rX2_init.2.1 4 = .ok (.aload_n 0, 1) := by decide +kernel
theorem eX2_init_5 : decode rX2_init.2.1 5 = .ok (.bipush 8, 2) := by decide +kernel
theorem eX2_init_7 : decode rX2_init.2.1 7 = .ok (.anewarray 9, 3) := by decide +kernel
theorem eX2_init_10 : decode rX2_init.2.1 10 = .ok (.putfield 11, 3) := by decide +kernel
theorem eX2_init_13 : decode rX2_init.2.1 13 = .ok (.aload_n 0, 1) := by decide +kernel
theorem eX2_init_14 : decode rX2_init.2.1 14 = .ok (.iconst 0, 1) := by decide +kernel
theorem eX2_init_15 : decode rX2_init.2.1 15 = .ok (.putfield 17, 3) := by decide +kernel
theorem eX2_init_18 : decode rX2_init.2.1 18 = .ok (.aload_n 0, 1) := by decide +kernel
theorem eX2_init_19 : decode rX2_init.2.1 19 = .ok (.iconst 0, 1) := by decide +kernel
theorem eX2_init_20 : decode rX2_init.2.1 20 = .ok (.putfield 21, 3) := by decide +kernel
theorem eX2_init_23 : decode rX2_init.2.1 23 = .ok (.iconst 0, 1) := by decide +kernel
theorem eX2_init_24 : decode rX2_init.2.1 24 = .ok (.istore_n 1, 1) := by decide +kernel
theorem eX2_init_25 : decode rX2_init.2.1 25 = .ok (.iload_n 1, 1) := by decide +kernel
theorem eX2_init_26 : decode rX2_init.2.1 26 = .ok (.bipush 8, 2) := by decide +kernel
theorem eX2_init_28 : decode rX2_init.2.1 28 = .ok (.if_icmp .ge 22, 3) := by decide +kernel
theorem eX2_init_31 : decode rX2_init.2.1 31 = .ok (.aload_n 0, 1) := by decide +kernel
theorem eX2_init_32 : decode rX2_init.2.1 32 = .ok (.getfield 11, 3) := by decide +kernel
theorem eX2_init_35 : decode rX2_init.2.1 35 = .ok (.iload_n 1, 1) := by decide +kernel
theorem eX2_init_36 : decode rX2_init.2.1 36 = .ok (.new 9, 3) := by decide +kernel
theorem eX2_init_39 : decode rX2_init.2.1 39 = .ok (.dup, 1) := by decide +kernel
theorem eX2_init_40 : decode rX2_init.2.1 40 = .ok (.invokespecial 24, 3) := by decide +kernel
theorem eX2_init_43 : decode rX2_init.2.1 43 = .ok (.aastore, 1) := by decide +kernel
theorem eX2_init_44 : decode rX2_init.2.1 44 = .ok (.iinc 1 1, 3) := by decide +kernel
theorem eX2_init_47 : decode rX2_init.2.1 47 = .ok (.goto (-22), 3) := by decide +kernel
theorem eX2_init_50 : decode rX2_init.2.1 50 = .ok (.return_, 1) := by decide +kernel
theorem eX2_remember_0 : decode rX2_remember.2.1 0 = .ok (.aload_n 0, 1) := by decide +kernel
theorem eX2_remember_1 : decode rX2_remember.2.1 1 = .ok (.getfield 11, 3) := by decide +kernel
theorem eX2_remember_4 : decode rX2_remember.2.1 4 = .ok (.aload_n 0, 1) := by decide +kernel
theorem eX2_remember_5 : decode rX2_remember.2.1 5 = .ok (.getfield 21, 3) := by decide +kernel
theorem eX2_remember_8 : decode rX2_remember.2.1 8 = .ok (.aaload, 1) := by decide +kernel
theorem eX2_remember_9 : decode rX2_remember.2.1 9 = .ok (.aload_n 1, 1) := by decide +kernel
theorem eX2_remember_10 : decode rX2_remember.2.1 10 = .ok (.invokevirtual 25, 3) := by decide +kernel
theorem eX2_remember_13 : decode rX2_remember.2.1 13 = .ok (.aload_n 0, 1) := by decide +kernel
theorem eX2_remember_14 : decode rX2_remember.2.1 14 = .ok (.aload_n 0, 1) := by decide +kernel
theorem eX2_remember_15 : decode rX2_remember.2.1 15 = .ok (.getfield 21, 3) := by decide +kernel
theorem eX2_remember_18 : decode rX2_remember.2.1 18 = .ok (.iconst 1, 1) := by decide +kernel
theorem eX2_remember_19 : decode rX2_remember.2.1 19 = .ok (.iadd, 1) := by decide +kernel
theorem eX2_remember_20 : decode rX2_remember.2.1 20 = .ok (.bipush 8, 2) := by decide +kernel
theorem eX2_remember_22 : decode rX2_remember.2.1 22 = .ok (.irem, 1) := by decide +kernel
theorem eX2_remember_23 : decode rX2_remember.2.1 23 = .ok (.putfield 21, 3) := by decide +kernel
theorem eX2_remember_26 : decode rX2_remember.2.1 26 = .ok (.aload_n 0, 1) := by decide +kernel
theorem eX2_remember_27 : decode rX2_remember.2.1 27 = .ok (.aload_n 0, 1) := by decide +kernel
theorem eX2_remember_28 : decode rX2_remember.2.1 28 = .ok (.getfield 17, 3) := by decide +kernel
theorem eX2_remember_31 : decode rX2_remember.2.1 31 = .ok (.iconst 1, 1) := by decide +kernel
theorem eX2_remember_32 : decode rX2_remember.2.1 32 = .ok (.iadd, 1) := by decide +kernel
theorem eX2_remember_33 : decode rX2_remember.2.1 33 = .ok (.bipush 8, 2) := by decide +kernel
theorem eX2_remember_35 : decode rX2_remember.2.1 35 = .ok (.invokestatic 29, 3) := by decide +kernel
theorem eX2_remember_38 : decode rX2_remember.2.1 38 = .ok (.putfield 17, 3) := by decide +kernel
theorem eX2_remember_41 : decode rX2_remember.2.1 41 = .ok (.return_, 1) := by decide +kernel
theorem eX2_takeBack_0 : decode rX2_takeBack.2.1 0 = .ok (.aload_n 0, 1) := by decide +kernel
theorem eX2_takeBack_1 : decode rX2_takeBack.2.1 1 = .ok (.aload_n 0, 1) := by decide +kernel
theorem eX2_takeBack_2 : decode rX2_takeBack.2.1 2 = .ok (.getfield 21, 3) := by decide +kernel
theorem eX2_takeBack_5 : decode rX2_takeBack.2.1 5 = .ok (.bipush 8, 2) := by decide +kernel
theorem eX2_takeBack_7 : decode rX2_takeBack.2.1 7 = .ok (.iadd, 1) := by decide +kernel
theorem eX2_takeBack_8 : decode rX2_takeBack.2.1 8 = .ok (.iconst 1, 1) := by decide +kernel
theorem eX2_takeBack_9 : decode rX2_takeBack.2.1 9 = .ok (.isub, 1) := by decide +kernel
theorem eX2_takeBack_10 : decode rX2_takeBack.2.1 10 = .ok (.bipush 8, 2) := by decide +kernel
theorem eX2_takeBack_12 : decode rX2_takeBack.2.1 12 = .ok (.irem, 1) := by decide +kernel
theorem eX2_takeBack_13 : decode rX2_takeBack.2.1 13 = .ok (.putfield 21, 3) := by decide +kernel
theorem eX2_takeBack_16 : decode rX2_takeBack.2.1 16 = .ok (.aload_n 0, 1) := by decide +kernel
theorem eX2_takeBack_17 : decode rX2_takeBack.2.1 17 = .ok (.dup, 1) := by decide +kernel
theorem eX2_takeBack_18 : decode rX2_takeBack.2.1 18 = .ok (.getfield 17, 3) := by decide +kernel
theorem eX2_takeBack_21 : decode rX2_takeBack.2.1 21 = .ok (.iconst 1, 1) := by decide +kernel
theorem eX2_takeBack_22 : decode rX2_takeBack.2.1 22 = .ok (.isub, 1) := by decide +kernel
theorem eX2_takeBack_23 : decode rX2_takeBack.2.1 23 = .ok (.putfield 17, 3) := by decide +kernel
theorem eX2_takeBack_26 : decode rX2_takeBack.2.1 26 = .ok (.aload_n 1, 1) := by decide +kernel
theorem eX2_takeBack_27 : decode rX2_takeBack.2.1 27 = .ok (.aload_n 0, 1) := by decide +kernel
theorem eX2_takeBack_28 : decode rX2_takeBack.2.1 28 = .ok (.getfield 11, 3) := by decide +kernel
theorem eX2_takeBack_31 : decode rX2_takeBack.2.1 31 = .ok (.aload_n 0, 1) := by decide +kernel
theorem eX2_takeBack_32 : decode rX2_takeBack.2.1 32 = .ok (.getfield 21, 3) := by decide +kernel
theorem eX2_takeBack_35 : decode rX2_takeBack.2.1 35 = .ok (.aaload, 1) := by decide +kernel
theorem eX2_takeBack_36 : decode rX2_takeBack.2.1 36 = .ok (.invokevirtual 25, 3) := by decide +kernel
theorem eX2_takeBack_39 : decode rX2_takeBack.2.1 39 = .ok (.return_, 1) := by decide +kernel
theorem eX3_init_0 : decode rX3_init.2.1 0 = .ok (.aload_n 0, 1) := by decide +kernel
theorem eX3_init_1 : decode rX3_init.2.1 1 = .ok (.invokespecial 3, 3) := by decide +kernel
theorem eX3_init_4 : decode rX3_init.2.1 4 = .ok (.aload_n 0, 1) := by decide +kernel
theorem eX3_init_5 : decode rX3_init.2.1 5 = .ok (.iconst 0, 1) := by decide +kernel
theorem eX3_init_6 : decode rX3_init.2.1 6 = .ok (.putfield 9, 3) := by decide +kernel
theorem eX3_init_9 : decode rX3_init.2.1 9 = .ok (.aload_n 0, 1) := by decide +kernel
theorem eX3_init_10 : decode rX3_init.2.1 10 = .ok (.iconst 0, 1) := by decide +kernel
theorem eX3_init_11 : decode rX3_init.2.1 11 = .ok (.putfield 15, 3) := by decide +kernel
theorem eX3_init_14 : decode rX3_init.2.1 14 = .ok (.aload_n 0, 1) := by decide +kernel
theorem eX3_init_15 : decode rX3_init.2.1 15 = .ok (.iconst 0, 1) := by decide +kernel
theorem eX3_init_16 : decode rX3_init.2.1 16 = .ok (.putfield 18, 3) := by decide +kernel
theorem eX3_init_19 : decode rX3_init.2.1 19 = .ok (.aload_n 0, 1) := by decide +kernel
theorem eX3_init_20 : decode rX3_init.2.1 20 = .ok (.iconst 0, 1) := by decide +kernel
theorem eX3_init_21 : decode rX3_init.2.1 21 = .ok (.putfield 21, 3) := by decide +kernel
theorem eX3_init_24 : decode rX3_init.2.1 24 = .ok (.aload_n 0, 1) := by decide +kernel
theorem eX3_init_25 : decode rX3_init.2.1 25 = .ok (.iconst 0, 1) := by decide +kernel
theorem eX3_init_26 : decode rX3_init.2.1 26 = .ok (.putfield 24, 3) := by decide +kernel
theorem eX3_init_29 : decode rX3_init.2.1 29 = .ok (.aload_n 0, 1) := by decide +kernel
theorem eX3_init_30 : decode rX3_init.2.1 30 = .ok (.iconst (-1), 1) := by decide +kernel
theorem eX3_init_31 : decode rX3_init.2.1 31 = .ok (.putfield 27, 3) := by decide +kernel
theorem eX3_init_34 : decode rX3_init.2.1 34 = .ok (.aload_n 0, 1) := by decide +kernel
theorem eX3_init_35 : decode rX3_init.2.1 35 = .ok (.iconst 0, 1) := by decide +kernel
theorem eX3_init_36 : decode rX3_init.2.1 36 = .ok (.putfield 30, 3) := by decide +kernel
theorem eX3_init_39 : decode rX3_init.2.1 39 = .ok (.return_, 1) := by decide +kernel
theorem eX3_copyFrom_0 : decode rX3_copyFrom.2.1 0 = .ok (.aload_n 0, 1) := by decide +kernel
theorem eX3_copyFrom_1 : decode rX3_copyFrom.2.1 1 = .ok (.aload_n 1, 1) := by decide +kernel
theorem eX3_copyFrom_2 : decode rX3_copyFrom.2.1 2 = .ok (.getfield 9, 3) := by decide +kernel
theorem eX3_copyFrom_5 : decode rX3_copyFrom.2.1 5 = .ok (.putfield 9, 3) := by decide +kernel
theorem eX3_copyFrom_8 : decode rX3_copyFrom.2.1 8 = .ok (.aload_n 0, 1) := by decide +kernel
theorem eX3_copyFrom_9 : decode rX3_copyFrom.2.1 9 = .ok (.aload_n 1, 1) := by decide +kernel
theorem eX3_copyFrom_10 : decode rX3_copyFrom.2.1 10 = .ok (.getfield 15, 3) := by decide +kernel
theorem eX3_copyFrom_13 : decode rX3_copyFrom.2.1 13 = .ok (.putfield 15, 3) := by decide +kernel
theorem eX3_copyFrom_16 : decode rX3_copyFrom.2.1 16 = .ok (.aload_n 0, 1) := by decide +kernel
theorem eX3_copyFrom_17 : decode rX3_copyFrom.2.1 17 = .ok (.aload_n 1, 1) := by decide +kernel
theorem eX3_copyFrom_18 : decode rX3_copyFrom.2.1 18 = .ok (.getfield 18, 3) := by decide +kernel
theorem eX3_copyFrom_21 : decode rX3_copyFrom.2.1 21 = .ok (.putfield 18, 3) := by decide +kernel
theorem eX3_copyFrom_24 : decode rX3_copyFrom.2.1 24 = .ok (.aload_n 0, 1) := by decide +kernel
theorem eX3_copyFrom_25 : decode rX3_copyFrom.2.1 25 = .ok (.aload_n 1, 1) := by decide +kernel
theorem eX3_copyFrom_26 : decode rX3_copyFrom.2.1 26 = .ok (.getfield 21, 3) := by decide +kernel
theorem eX3_copyFrom_29 : decode rX3_copyFrom.2.1 29 = .ok (.putfield 21, 3) := by decide +kernel
theorem eX3_copyFrom_32 : decode rX3_copyFrom.2.1 32 = .ok (.aload_n 0, 1) := by decide +kernel
theorem eX3_copyFrom_33 : decode rX3_copyFrom.2.1 33 = .ok (.aload_n 1, 1) := by decide +kernel
theorem eX3_copyFrom_34 : decode rX3_copyFrom.2.1 34 = .ok (.getfield 24, 3) := by decide +kernel
theorem eX3_copyFrom_37 : decode rX3_copyFrom.2.1 37 = .ok (.putfield 24, 3) := by decide +kernel
theorem eX3_copyFrom_40 : decode rX3_copyFrom.2.1 40 = .ok (.aload_n 0, 1) := by decide +kernel
theorem eX3_copyFrom_41 : decode rX3_copyFrom.2.1 41 = .ok (.aload_n 1, 1) := by decide +kernel
theorem eX3_copyFrom_42 : decode rX3_copyFrom.2.1 42 = .ok (.getfield 27, 3) := by decide +kernel
theorem eX3_copyFrom_45 : decode rX3_copyFrom.2.1 45 = .ok (.putfield 27, 3) := by decide +kernel
theorem eX3_copyFrom_48 : decode rX3_copyFrom.2.1 48 = .ok (.aload_n 0, 1) := by decide +kernel
theorem eX3_copyFrom_49 : decode rX3_copyFrom.2.1 49 = .ok (.aload_n 1, 1) := by decide +kernel
theorem eX3_copyFrom_50 : decode rX3_copyFrom.2.1 50 = .ok (.getfield 30, 3) := by decide +kernel
theorem eX3_copyFrom_53 : decode rX3_copyFrom.2.1 53 = .ok (.putfield 30, 3) := by decide +kernel
theorem eX3_copyFrom_56 : decode rX3_copyFrom.2.1 56 = .ok (.return_, 1) := by decide +kernel
theorem eX4_init_0 : decode rX4_init.2.1 0 = .ok (.aload_n 0, 1) := by decide +kernel
theorem eX4_init_1 : decode rX4_init.2.1 1 = .ok (.invokespecial 3, 3) := by decide +kernel
theorem eX4_init_4 : decode rX4_init.2.1 4 = .ok (.aload_n 0, 1) := by decide +kernel
theorem eX4_init_5 : decode rX4_init.2.1 5 = .ok (.new 9, 3) := by decide +kernel
theorem eX4_init_8 : decode rX4_init.2.1 8 = .ok (.dup, 1) := by decide +kernel
theorem eX4_init_9 : decode rX4_init.2.1 9 = .ok (.invokespecial 11, 3) := by decide +kernel
theorem eX4_init_12 : decode rX4_init.2.1 12 = .ok (.putfield 12, 3) := by decide +kernel
theorem eX4_init_15 : decode rX4_init.2.1 15 = .ok (.aload_n 0, 1) := by decide +kernel
theorem eX4_init_16 : decode rX4_init.2.1 16 = .ok (.bipush 13, 2) := by decide +kernel
theorem eX4_init_18 : decode rX4_init.2.1 18 = .ok (.newarray .int, 2) := by decide +kernel
theorem eX4_init_20 : decode rX4_init.2.1 20 = .ok (.putfield 18, 3) := by decide +kernel
theorem eX4_init_23 : decode rX4_init.2.1 23 = .ok (.aload_n 0, 1) := by decide +kernel
theorem eX4_init_24 : decode rX4_init.2.1 24 = .ok (.bipush 13, 2) := by decide +kernel
theorem eX4_init_26 : decode rX4_init.2.1 26 = .ok (.iconst 3, 1) := by decide +kernel
theorem eX4_init_27 : decode rX4_init.2.1 27 = .ok (.multianewarray 22 2, 4) := by decide +kernel
theorem eX4_init_31 : decode rX4_init.2.1 31 = .ok (.putfield 24, 3) := by decide +kernel
theorem eX4_init_34 : decode rX4_init.2.1 34 = .ok (.aload_n 0, 1) := by decide +kernel
theorem eX4_init_35 : decode rX4_init.2.1 35 = .ok (.iconst 0, 1) := by decide +kernel
theorem eX4_init_36 : decode rX4_init.2.1 36 = .ok (.putfield 27, 3) := by decide +kernel
theorem eX4_init_39 : decode rX4_init.2.1 39 = .ok (.aload_n 0, 1) := by decide +kernel
theorem eX4_init_40 : decode rX4_init.2.1 40 = .ok (.iconst 0, 1) := by decide +kernel
theorem eX4_init_41 : decode rX4_init.2.1 41 = .ok (.putfield 31, 3) := by decide +kernel
theorem eX4_init_44 : decode rX4_init.2.1 44 = .ok (.return_, 1) := by decide +kernel
theorem eX4_formOf_0 : decode rX4_formOf.2.1 0 = .ok (.iload_n 0, 1) := by decide +kernel
theorem eX4_formOf_1 : decode rX4_formOf.2.1 1 = .ok (.tableswitch 64 0 6 #[43, 46, 49, 52, 55, 58, 61], 43) := by decide +kernel
theorem eX4_formOf_44 : decode rX4_formOf.2.1 44 = .ok (.ldc 34, 2) := by decide +kernel
theorem eX4_formOf_46 : decode rX4_formOf.2.1 46 = .ok (.areturn, 1) := by decide +kernel
theorem eX4_formOf_47 : decode rX4_formOf.2.1 47 = .ok (.ldc 36, 2) := by decide +kernel
theorem eX4_formOf_49 : decode rX4_formOf.2.1 49 = .ok (.areturn, 1) := by decide +kernel
theorem eX4_formOf_50 : decode rX4_formOf.2.1 50 = .ok (.ldc 38, 2) := by decide +kernel
theorem eX4_formOf_52 : decode rX4_formOf.2.1 52 = .ok (.areturn, 1) := by decide +kernel
theorem eX4_formOf_53 : decode rX4_formOf.2.1 53 = .ok (.ldc 40, 2) := by decide +kernel
theorem eX4_formOf_55 : decode rX4_formOf.2.1 55 = .ok (.areturn, 1) := by decide +kernel
theorem eX4_formOf_56 : decode rX4_formOf.2.1 56 = .ok (.ldc 42, 2) := by decide +kernel
theorem eX4_formOf_58 : decode rX4_formOf.2.1 58 = .ok (.areturn, 1) := by decide +kernel
theorem eX4_formOf_59 : decode rX4_formOf.2.1 59 = .ok (.ldc 44, 2) := by decide +kernel
theorem eX4_formOf_61 : decode rX4_formOf.2.1 61 = .ok (.areturn, 1) := by decide +kernel
theorem eX4_formOf_62 : decode rX4_formOf.2.1 62 = .ok (.ldc 46, 2) := by decide +kernel
theorem eX4_formOf_64 : decode rX4_formOf.2.1 64 = .ok (.areturn, 1) := by decide +kernel
theorem eX4_formOf_65 : decode rX4_formOf.2.1 65 = .ok (.ldc 48, 2) := by decide +kernel
theorem eX4_formOf_67 : decode rX4_formOf.2.1 67 = .ok (.areturn, 1) := by decide +kernel
theorem eX4_read_0 : decode rX4_read.2.1 0 = .ok (.iconst 0, 1) := by decide +kernel
theorem eX4_read_1 : decode rX4_read.2.1 1 = .ok (.istore_n 1, 1) := by decide +kernel
theorem eX4_read_2 : decode rX4_read.2.1 2 = .ok (.aload_n 0, 1) := by decide +kernel
theorem eX4_read_3 : decode rX4_read.2.1 3 = .ok (.iconst 0, 1) := by decide +kernel
theorem eX4_read_4 : decode rX4_read.2.1 4 = .ok (.putfield 27, 3) := by decide +kernel
theorem eX4_read_7 : decode rX4_read.2.1 7 = .ok (.iconst 0, 1) := by decide +kernel
theorem eX4_read_8 : decode rX4_read.2.1 8 = .ok (.istore_n 2, 1) := by decide +kernel
theorem eX4_read_9 : decode rX4_read.2.1 9 = .ok (.iload_n 2, 1) := by decide +kernel
theorem eX4_read_10 : decode rX4_read.2.1 10 = .ok (.bipush 13, 2) := by decide +kernel
theorem eX4_read_12 : decode rX4_read.2.1 12 = .ok (.if_icmp .ge 52, 3) := by decide +kernel
theorem eX4_read_15 : decode rX4_read.2.1 15 = .ok (.aload_n 0, 1) := by decide +kernel
theorem eX4_read_16 : decode rX4_read.2.1 16 = .ok (.iload_n 1, 1) := by decide +kernel
theorem eX4_read_17 : decode rX4_read.2.1 17 = .ok (.invokevirtual 50, 3) := by decide +kernel
theorem eX4_read_20 : decode rX4_read.2.1 20 = .ok (.istore_n 3, 1) := by decide +kernel
theorem eX4_read_21 : decode rX4_read.2.1 21 = .ok (.iload_n 3, 1) := by decide +kernel
theorem eX4_read_22 : decode rX4_read.2.1 22 = .ok (.iconst (-1), 1) := by decide +kernel
theorem eX4_read_23 : decode rX4_read.2.1 23 = .ok (.if_icmp .ne 8, 3) := by decide +kernel
theorem eX4_read_26 : decode rX4_read.2.1 26 = .ok (.aload_n 0, 1) := by decide +kernel
theorem eX4_read_27 : decode rX4_read.2.1 27 = .ok (.getfield 31, 3) := by decide +kernel
theorem eX4_read_30 : decode rX4_read.2.1 30 = .ok (.ireturn, 1) := by decide +kernel
theorem eX4_read_31 : decode rX4_read.2.1 31 = .ok (.aload_n 0, 1) := by decide +kernel
theorem eX4_read_32 : decode rX4_read.2.1 32 = .ok (.dup, 1) := by decide +kernel
theorem eX4_read_33 : decode rX4_read.2.1 33 = .ok (.getfield 27, 3) := by decide +kernel
theorem eX4_read_36 : decode rX4_read.2.1 36 = .ok (.iconst 1, 1) := by decide +kernel
theorem eX4_read_37 : decode rX4_read.2.1 37 = .ok (.iadd, 1) := by decide +kernel
theorem eX4_read_38 : decode rX4_read.2.1 38 = .ok (.putfield 27, 3) := by decide +kernel
theorem eX4_read_41 : decode rX4_read.2.1 41 = .ok (.iload_n 3, 1) := by decide +kernel
theorem eX4_read_42 : decode rX4_read.2.1 42 = .ok (.aload_n 0, 1) := by decide +kernel
theorem eX4_read_43 : decode rX4_read.2.1 43 = .ok (.getfield 12, 3) := by decide +kernel
theorem eX4_read_46 : decode rX4_read.2.1 46 = .ok (.invokevirtual 54, 3) := by decide +kernel
theorem eX4_read_49 : decode rX4_read.2.1 49 = .ok (.if_icmp .lt 5, 3) := by decide +kernel
theorem eX4_read_52 : decode rX4_read.2.1 52 = .ok (.iconst (-1), 1) := by decide +kernel
theorem eX4_read_53 : decode rX4_read.2.1 53 = .ok (.ireturn, 1) := by decide +kernel
theorem eX4_read_54 : decode rX4_read.2.1 54 = .ok (.iload_n 3, 1) := by decide +kernel
theorem eX4_read_55 : decode rX4_read.2.1 55 = .ok (.iconst 1, 1) := by decide +kernel
theorem eX4_read_56 : decode rX4_read.2.1 56 = .ok (.iadd, 1) := by decide +kernel
theorem eX4_read_57 : decode rX4_read.2.1 57 = .ok (.istore_n 1, 1) := by decide +kernel
theorem eX4_read_58 : decode rX4_read.2.1 58 = .ok (.iinc 2 1, 3) := by decide +kernel
theorem eX4_read_61 : decode rX4_read.2.1 61 = .ok (.goto (-52), 3) := by decide +kernel
theorem eX4_read_64 : decode rX4_read.2.1 64 = .ok (.iload_n 1, 1) := by decide +kernel
theorem eX4_read_65 : decode rX4_read.2.1 65 = .ok (.ireturn, 1) := by decide +kernel
theorem eX4_endOfCommand_0 : decode rX4_endOfCommand.2.1 0 = .ok (.aload_n 0, 1) := by decide +kernel
theorem eX4_endOfCommand_1 : decode rX4_endOfCommand.2.1 1 = .ok (.iload_n 1, 1) := by decide +kernel
theorem eX4_endOfCommand_2 : decode rX4_endOfCommand.2.1 2 = .ok (.putfield 31, 3) := by decide +kernel
theorem eX4_endOfCommand_5 : decode rX4_endOfCommand.2.1 5 = .ok (.iconst 0, 1) := by decide +kernel
theorem eX4_endOfCommand_6 : decode rX4_endOfCommand.2.1 6 = .ok (.istore_n 2, 1) := by decide +kernel
theorem eX4_endOfCommand_7 : decode rX4_endOfCommand.2.1 7 = .ok (.iload_n 2, 1) := by decide +kernel
theorem eX4_endOfCommand_8 : decode rX4_endOfCommand.2.1 8 = .ok (.bipush 8, 2) := by decide +kernel
theorem eX4_endOfCommand_10 : decode rX4_endOfCommand.2.1 10 = .ok (.if_icmp .ge 33, 3) := by decide +kernel
theorem eX4_endOfCommand_13 : decode rX4_endOfCommand.2.1 13 = .ok (.aload_n 0, 1) := by decide +kernel
theorem eX4_endOfCommand_14 : decode rX4_endOfCommand.2.1 14 = .ok (.iload_n 2, 1) := by decide +kernel
theorem eX4_endOfCommand_15 : decode rX4_endOfCommand.2.1 15 = .ok (.iload_n 1, 1) := by decide +kernel
theorem eX4_endOfCommand_16 : decode rX4_endOfCommand.2.1 16 = .ok (.invokevirtual 58, 3) := by decide +kernel
theorem eX4_endOfCommand_19 : decode rX4_endOfCommand.2.1 19 = .ok (.istore_n 3, 1) := by decide +kernel
theorem eX4_endOfCommand_20 : decode rX4_endOfCommand.2.1 20 = .ok (.iload_n 3, 1) := by decide +kernel
theorem eX4_endOfCommand_21 : decode rX4_endOfCommand.2.1 21 = .ok (.iconst (-1), 1) := by decide +kernel
theorem eX4_endOfCommand_22 : decode rX4_endOfCommand.2.1 22 = .ok (.if_icmp .eq 15, 3) := by decide +kernel
theorem eX4_endOfCommand_25 : decode rX4_endOfCommand.2.1 25 = .ok (.aload_n 0, 1) := by decide +kernel
theorem eX4_endOfCommand_26 : decode rX4_endOfCommand.2.1 26 = .ok (.getfield 18, 3) := by decide +kernel
theorem eX4_endOfCommand_29 : decode rX4_endOfCommand.2.1 29 = .ok (.aload_n 0, 1) := by decide +kernel
theorem eX4_endOfCommand_30 : decode rX4_endOfCommand.2.1 30 = .ok (.getfield 27, 3) := by decide +kernel
theorem eX4_endOfCommand_33 : decode rX4_endOfCommand.2.1 33 = .ok (.iload_n 2, 1) := by decide +kernel
theorem eX4_endOfCommand_34 : decode rX4_endOfCommand.2.1 34 = .ok (.iastore, 1) := by decide +kernel
theorem eX4_endOfCommand_35 : decode rX4_endOfCommand.2.1 35 = .ok (.iload_n 3, 1) := by decide +kernel
theorem eX4_endOfCommand_36 : decode rX4_endOfCommand.2.1 36 = .ok (.ireturn, 1) := by decide +kernel
theorem eX4_endOfCommand_37 : decode rX4_endOfCommand.2.1 37 = .ok (.iinc 2 1, 3) := by decide +kernel
theorem eX4_endOfCommand_40 : decode rX4_endOfCommand.2.1 40 = .ok (.goto (-33), 3) := by decide +kernel
theorem eX4_endOfCommand_43 : decode rX4_endOfCommand.2.1 43 = .ok (.iconst (-1), 1) := by decide +kernel
theorem eX4_endOfCommand_44 : decode rX4_endOfCommand.2.1 44 = .ok (.ireturn, 1) := by decide +kernel
theorem eX4_endOfForm_0 : decode rX4_endOfForm.2.1 0 = .ok (.iload_n 1, 1) := by decide +kernel
theorem eX4_endOfForm_1 : decode rX4_endOfForm.2.1 1 = .ok (.invokestatic 62, 3) := by decide +kernel
theorem eX4_endOfForm_4 : decode rX4_endOfForm.2.1 4 = .ok (.astore_n 3, 1) := by decide +kernel
theorem eX4_endOfForm_5 : decode rX4_endOfForm.2.1 5 = .ok (.iload_n 2, 1) := by decide +kernel
theorem eX4_endOfForm_6 : decode rX4_endOfForm.2.1 6 = .ok (.istore 4, 2) := by decide +kernel
theorem eX4_endOfForm_8 : decode rX4_endOfForm.2.1 8 = .ok (.iconst 0, 1) := by decide +kernel
theorem eX4_endOfForm_9 : decode rX4_endOfForm.2.1 9 = .ok (.istore 5, 2) := by decide +kernel
theorem eX4_endOfForm_11 : decode rX4_endOfForm.2.1 11 = .ok (.iconst 0, 1) := by decide +kernel
theorem eX4_endOfForm_12 : decode rX4_endOfForm.2.1 12 = .ok (.istore 6, 2) := by decide +kernel
theorem eX4_endOfForm_14 : decode rX4_endOfForm.2.1 14 = .ok (.iload 6, 2) := by decide +kernel
theorem eX4_endOfForm_16 : decode rX4_endOfForm.2.1 16 = .ok (.aload_n 3, 1) := by decide +kernel
theorem eX4_endOfForm_17 : decode rX4_endOfForm.2.1 17 = .ok (.invokevirtual 66, 3) := by decide +kernel
theorem eX4_endOfForm_20 : decode rX4_endOfForm.2.1 20 = .ok (.if_icmp .ge 130, 3) := by decide +kernel
theorem eX4_endOfForm_23 : decode rX4_endOfForm.2.1 23 = .ok (.aload_n 3, 1) := by decide +kernel
theorem eX4_endOfForm_24 : decode rX4_endOfForm.2.1 24 = .ok (.iload 6, 2) := by decide +kernel
theorem eX4_endOfForm_26 : decode rX4_endOfForm.2.1 26 = .ok (.invokevirtual 69, 3) := by decide +kernel
theorem eX4_endOfForm_29 : decode rX4_endOfForm.2.1 29 = .ok (.istore 7, 2) := by decide +kernel
theorem eX4_endOfForm_31 : decode rX4_endOfForm.2.1 31 = .ok (.iload 4, 2) := by decide +kernel
theorem eX4_endOfForm_33 : decode rX4_endOfForm.2.1 33 = .ok (.istore 8, 2) := by decide +kernel
theorem eX4_endOfForm_35 : decode rX4_endOfForm.2.1 35 = .ok (.iload 7, 2) := by decide +kernel
theorem eX4_endOfForm_37 : decode rX4_endOfForm.2.1 37 = .ok (.bipush 48, 2) := by decide +kernel
theorem eX4_endOfForm_39 : decode rX4_endOfForm.2.1 39 = .ok (.if_icmp .eq 10, 3) := by decide +kernel
theorem eX4_endOfForm_42 : decode rX4_endOfForm.2.1 42 = .ok (.iload 7, 2) := by decide +kernel
theorem eX4_endOfForm_44 : decode rX4_endOfForm.2.1 44 = .ok (.bipush 78, 2) := by decide +kernel
theorem eX4_endOfForm_46 : decode rX4_endOfForm.2.1 46 = .ok (.if_icmp .ne 55, 3) := by decide +kernel
theorem eX4_endOfForm_49 : decode rX4_endOfForm.2.1 49 = .ok (.aload_n 0, 1) := by decide +kernel
theorem eX4_endOfForm_50 : decode rX4_endOfForm.2.1 50 = .ok (.iload 8, 2) := by decide +kernel
theorem eX4_endOfForm_52 : decode rX4_endOfForm.2.1 52 = .ok (.iload 7, 2) := by decide +kernel
theorem eX4_endOfForm_54 : decode rX4_endOfForm.2.1 54 = .ok (.bipush 48, 2) := by decide +kernel
theorem eX4_endOfForm_56 : decode rX4_endOfForm.2.1 56 = .ok (.if_icmp .ne 7, 3) := by decide +kernel
theorem eX4_endOfForm_59 : decode rX4_endOfForm.2.1 59 = .ok (.iconst 1, 1) := by decide +kernel
theorem eX4_endOfForm_60 : decode rX4_endOfForm.2.1 60 = .ok (.goto 4, 3) := by decide +kernel
theorem eX4_endOfForm_63 : decode rX4_endOfForm.2.1 63 = .ok (.iconst 3, 1) := by decide +kernel
theorem eX4_endOfForm_64 : decode rX4_endOfForm.2.1 64 = .ok (.invokevirtual 73, 3) := by decide +kernel
theorem eX4_endOfForm_67 : decode rX4_endOfForm.2.1 67 = .ok (.istore 4, 2) := by decide +kernel
theorem eX4_endOfForm_69 : decode rX4_endOfForm.2.1 69 = .ok (.iload 5, 2) := by decide +kernel
theorem eX4_endOfForm_71 : decode rX4_endOfForm.2.1 71 = .ok (.iconst 3, 1) := by decide +kernel
theorem eX4_endOfForm_72 : decode rX4_endOfForm.2.1 72 = .ok (.if_icmp .ge 58, 3) := by decide +kernel
theorem eX4_endOfForm_75 : decode rX4_endOfForm.2.1 75 = .ok (.aload_n 0, 1) := by decide +kernel
theorem eX4_endOfForm_76 : decode rX4_endOfForm.2.1 76 = .ok (.getfield 24, 3) := by decide +kernel
theorem eX4_endOfForm_79 : decode rX4_endOfForm.2.1 79 = .ok (.aload_n 0, 1) := by decide +kernel
theorem eX4_endOfForm_80 : decode rX4_endOfForm.2.1 80 = .ok (.getfield 27, 3) := by decide +kernel
theorem eX4_endOfForm_83 : decode rX4_endOfForm.2.1 83 = .ok (.aaload, 1) := by decide +kernel
theorem eX4_endOfForm_84 : decode rX4_endOfForm.2.1 84 = .ok (.iload 5, 2) := by decide +kernel
theorem eX4_endOfForm_86 : decode rX4_endOfForm.2.1 86 = .ok (.aload_n 0, 1) := by decide +kernel
theorem eX4_endOfForm_87 : decode rX4_endOfForm.2.1 87 = .ok (.iload 8, 2) := by decide +kernel
theorem eX4_endOfForm_89 : decode rX4_endOfForm.2.1 89 = .ok (.iload 4, 2) := by decide +kernel
theorem eX4_endOfForm_91 : decode rX4_endOfForm.2.1 91 = .ok (.invokevirtual 76, 3) := by decide +kernel
theorem eX4_endOfForm_94 : decode rX4_endOfForm.2.1 94 = .ok (.iastore, 1) := by decide +kernel
theorem eX4_endOfForm_95 : decode rX4_endOfForm.2.1 95 = .ok (.iinc 5 1, 3) := by decide +kernel
theorem eX4_endOfForm_98 : decode rX4_endOfForm.2.1 98 = .ok (.goto 32, 3) := by decide +kernel
theorem eX4_endOfForm_101 : decode rX4_endOfForm.2.1 101 = .ok (.iload 4, 2) := by decide +kernel
theorem eX4_endOfForm_103 : decode rX4_endOfForm.2.1 103 = .ok (.aload_n 0, 1) := by decide +kernel
theorem eX4_endOfForm_104 : decode rX4_endOfForm.2.1 104 = .ok (.getfield 12, 3) := by decide +kernel
theorem eX4_endOfForm_107 : decode rX4_endOfForm.2.1 107 = .ok (.invokevirtual 54, 3) := by decide +kernel
theorem eX4_endOfForm_110 : decode rX4_endOfForm.2.1 110 = .ok (.if_icmp .ge 20, 3) := by decide +kernel
theorem eX4_endOfForm_113 : decode rX4_endOfForm.2.1 113 = .ok (.aload_n 0, 1) := by decide +kernel
theorem eX4_endOfForm_114 : decode rX4_endOfForm.2.1 114 = .ok (.getfield 12, 3) := by decide +kernel
theorem eX4_endOfForm_117 : decode rX4_endOfForm.2.1 117 = .ok (.iload 4, 2) := by decide +kernel
theorem eX4_endOfForm_119 : decode rX4_endOfForm.2.1 119 = .ok (.invokevirtual 79, 3) := by decide +kernel
theorem eX4_endOfForm_122 : decode rX4_endOfForm.2.1 122 = .ok (.iload 7, 2) := by decide +kernel
theorem eX4_endOfForm_124 : decode rX4_endOfForm.2.1 124 = .ok (.if_icmp .ne 6, 3) := by decide +kernel
theorem eX4_endOfForm_127 : decode rX4_endOfForm.2.1 127 = .ok (.iinc 4 1, 3) := by decide +kernel
theorem eX4_endOfForm_130 : decode rX4_endOfForm.2.1 130 = .ok (.iload 4, 2) := by decide +kernel
theorem eX4_endOfForm_132 : decode rX4_endOfForm.2.1 132 = .ok (.iload 8, 2) := by decide +kernel
theorem eX4_endOfForm_134 : decode rX4_endOfForm.2.1 134 = .ok (.if_icmp .ne 10, 3) := by decide +kernel
theorem eX4_endOfForm_137 : decode rX4_endOfForm.2.1 137 = .ok (.aload_n 0, 1) := by decide +kernel
theorem eX4_endOfForm_138 : decode rX4_endOfForm.2.1 138 = .ok (.iload 4, 2) := by decide +kernel
theorem eX4_endOfForm_140 : decode rX4_endOfForm.2.1 140 = .ok (.invokevirtual 80, 3) := by decide +kernel
theorem eX4_endOfForm_143 : decode rX4_endOfForm.2.1 143 = .ok (.ireturn, 1) := by decide +kernel
theorem eX4_endOfForm_144 : decode rX4_endOfForm.2.1 144 = .ok (.iinc 6 1, 3) := by decide +kernel
theorem eX4_endOfForm_147 : decode rX4_endOfForm.2.1 147 = .ok (.goto (-133), 3) := by decide +kernel
theorem eX4_endOfForm_150 : decode rX4_endOfForm.2.1 150 = .ok (.iload 4, 2) := by decide +kernel
theorem eX4_endOfForm_152 : decode rX4_endOfForm.2.1 152 = .ok (.aload_n 0, 1) := by decide +kernel
theorem eX4_endOfForm_153 : decode rX4_endOfForm.2.1 153 = .ok (.getfield 12, 3) := by decide +kernel
theorem eX4_endOfForm_156 : decode rX4_endOfForm.2.1 156 = .ok (.invokevirtual 54, 3) := by decide +kernel
theorem eX4_endOfForm_159 : decode rX4_endOfForm.2.1 159 = .ok (.if_icmp .ge 26, 3) := by decide +kernel
theorem eX4_endOfForm_162 : decode rX4_endOfForm.2.1 162 = .ok (.aload_n 0, 1) := by decide +kernel
theorem eX4_endOfForm_163 : decode rX4_endOfForm.2.1 163 = .ok (.getfield 12, 3) := by decide +kernel
theorem eX4_endOfForm_166 : decode rX4_endOfForm.2.1 166 = .ok (.iload 4, 2) := by decide +kernel
theorem eX4_endOfForm_168 : decode rX4_endOfForm.2.1 168 = .ok (.invokevirtual 79, 3) := by decide +kernel
theorem eX4_endOfForm_171 : decode rX4_endOfForm.2.1 171 = .ok (.bipush 59, 2) := by decide +kernel
theorem eX4_endOfForm_173 : decode rX4_endOfForm.2.1 173 = .ok (.if_icmp .eq 12, 3) := by decide +kernel
theorem eX4_endOfForm_176 : decode rX4_endOfForm.2.1 176 = .ok (.aload_n 0, 1) := by decide +kernel
theorem eX4_endOfForm_177 : decode rX4_endOfForm.2.1 177 = .ok (.iload 4, 2) := by decide +kernel
theorem eX4_endOfForm_179 : decode rX4_endOfForm.2.1 179 = .ok (.invokevirtual 80, 3) := by decide +kernel
theorem eX4_endOfForm_182 : decode rX4_endOfForm.2.1 182 = .ok (.goto 5, 3) := by decide +kernel
theorem eX4_endOfForm_185 : decode rX4_endOfForm.2.1 185 = .ok (.iload 4, 2) := by decide +kernel
theorem eX4_endOfForm_187 : decode rX4_endOfForm.2.1 187 = .ok (.ireturn, 1) := by decide +kernel
theorem eX4_breakOff_0 : decode rX4_breakOff.2.1 0 = .ok (.aload_n 0, 1) := by decide +kernel
theorem eX4_breakOff_1 : decode rX4_breakOff.2.1 1 = .ok (.aload_n 0, 1) := by decide +kernel
theorem eX4_breakOff_2 : decode rX4_breakOff.2.1 2 = .ok (.getfield 31, 3) := by decide +kernel
theorem eX4_breakOff_5 : decode rX4_breakOff.2.1 5 = .ok (.iload_n 1, 1) := by decide +kernel
theorem eX4_breakOff_6 : decode rX4_breakOff.2.1 6 = .ok (.invokestatic 83, 3) := by decide +kernel
theorem eX4_breakOff_9 : decode rX4_breakOff.2.1 9 = .ok (.putfield 31, 3) := by decide +kernel
theorem eX4_breakOff_12 : decode rX4_breakOff.2.1 12 = .ok (.iconst (-1), 1) := by decide +kernel
theorem eX4_breakOff_13 : decode rX4_breakOff.2.1 13 = .ok (.ireturn, 1) := by decide +kernel
theorem eX4_endOfDigits_0 : decode rX4_endOfDigits.2.1 0 = .ok (.iload_n 1, 1) := by decide +kernel
theorem eX4_endOfDigits_1 : decode rX4_endOfDigits.2.1 1 = .ok (.istore_n 3, 1) := by decide +kernel
theorem eX4_endOfDigits_2 : decode rX4_endOfDigits.2.1 2 = .ok (.iload_n 3, 1) := by decide +kernel
theorem eX4_endOfDigits_3 : decode rX4_endOfDigits.2.1 3 = .ok (.iload_n 1, 1) := by decide +kernel
theorem eX4_endOfDigits_4 : decode rX4_endOfDigits.2.1 4 = .ok (.iload_n 2, 1) := by decide +kernel
theorem eX4_endOfDigits_5 : decode rX4_endOfDigits.2.1 5 = .ok (.iadd, 1) := by decide +kernel
theorem eX4_endOfDigits_6 : decode rX4_endOfDigits.2.1 6 = .ok (.if_icmp .ge 48, 3) := by decide +kernel
theorem eX4_endOfDigits_9 : decode rX4_endOfDigits.2.1 9 = .ok (.iload_n 3, 1) := by decide +kernel
theorem eX4_endOfDigits_10 : decode rX4_endOfDigits.2.1 10 = .ok (.aload_n 0, 1) := by decide +kernel
theorem eX4_endOfDigits_11 : decode rX4_endOfDigits.2.1 11 = .ok (.getfield 12, 3) := by decide +kernel
theorem eX4_endOfDigits_14 : decode rX4_endOfDigits.2.1 14 = .ok (.invokevirtual 54, 3) := by decide +kernel
theorem eX4_endOfDigits_17 : decode rX4_endOfDigits.2.1 17 = .ok (.if_icmp .ge 29, 3) := by decide +kernel
theorem eX4_endOfDigits_20 : decode rX4_endOfDigits.2.1 20 = .ok (.aload_n 0, 1) := by decide +kernel
theorem eX4_endOfDigits_21 : decode rX4_endOfDigits.2.1 21 = .ok (.getfield 12, 3) := by decide +kernel
theorem eX4_endOfDigits_24 : decode rX4_endOfDigits.2.1 24 = .ok (.iload_n 3, 1) := by decide +kernel
theorem eX4_endOfDigits_25 : decode rX4_endOfDigits.2.1 25 = .ok (.invokevirtual 79, 3) := by decide +kernel
theorem eX4_endOfDigits_28 : decode rX4_endOfDigits.2.1 28 = .ok (.bipush 48, 2) := by decide +kernel
theorem eX4_endOfDigits_30 : decode rX4_endOfDigits.2.1 30 = .ok (.if_icmp .lt 16, 3) := by decide +kernel
theorem eX4_endOfDigits_33 : decode rX4_endOfDigits.2.1 33 = .ok (.aload_n 0, 1) := by decide +kernel
theorem eX4_endOfDigits_34 : decode rX4_endOfDigits.2.1 34 = .ok (.getfield 12, 3) := by decide +kernel
theorem eX4_endOfDigits_37 : decode rX4_endOfDigits.2.1 37 = .ok (.iload_n 3, 1) := by decide +kernel
theorem eX4_endOfDigits_38 : decode rX4_endOfDigits.2.1 38 = .ok (.invokevirtual 79, 3) := by decide +kernel
theorem eX4_endOfDigits_41 : decode rX4_endOfDigits.2.1 41 = .ok (.bipush 57, 2) := by decide +kernel
theorem eX4_endOfDigits_43 : decode rX4_endOfDigits.2.1 43 = .ok (.if_icmp .le 5, 3) := by decide +kernel
theorem eX4_endOfDigits_46 : decode rX4_endOfDigits.2.1 46 = .ok (.iload_n 3, 1) := by decide +kernel
theorem eX4_endOfDigits_47 : decode rX4_endOfDigits.2.1 47 = .ok (.ireturn, 1) := by decide +kernel
theorem eX4_endOfDigits_48 : decode rX4_endOfDigits.2.1 48 = .ok (.iinc 3 1, 3) := by decide +kernel
theorem eX4_endOfDigits_51 : decode rX4_endOfDigits.2.1 51 = .ok (.goto (-49), 3) := by decide +kernel
theorem eX4_endOfDigits_54 : decode rX4_endOfDigits.2.1 54 = .ok (.iload_n 1, 1) := by decide +kernel
theorem eX4_endOfDigits_55 : decode rX4_endOfDigits.2.1 55 = .ok (.iload_n 2, 1) := by decide +kernel
theorem eX4_endOfDigits_56 : decode rX4_endOfDigits.2.1 56 = .ok (.iadd, 1) := by decide +kernel
theorem eX4_endOfDigits_57 : decode rX4_endOfDigits.2.1 57 = .ok (.ireturn, 1) := by decide +kernel
theorem eX4_valueOf_0 : decode rX4_valueOf.2.1 0 = .ok (.iconst 0, 1) := by decide +kernel
theorem eX4_valueOf_1 : decode rX4_valueOf.2.1 1 = .ok (.istore_n 3, 1) := by decide +kernel
theorem eX4_valueOf_2 : decode rX4_valueOf.2.1 2 = .ok (.iload_n 1, 1) := by decide +kernel
theorem eX4_valueOf_3 : decode rX4_valueOf.2.1 3 = .ok (.istore 4, 2) := by decide +kernel
theorem eX4_valueOf_5 : decode rX4_valueOf.2.1 5 = .ok (.iload 4, 2) := by decide +kernel
theorem eX4_valueOf_7 : decode rX4_valueOf.2.1 7 = .ok (.iload_n 2, 1) := by decide +kernel
theorem eX4_valueOf_8 : decode rX4_valueOf.2.1 8 = .ok (.if_icmp .ge 39, 3) := by decide +kernel
theorem eX4_valueOf_11 : decode rX4_valueOf.2.1 11 = .ok (.iload 4, 2) := by decide +kernel
theorem eX4_valueOf_13 : decode rX4_valueOf.2.1 13 = .ok (.aload_n 0, 1) := by decide +kernel
theorem eX4_valueOf_14 : decode rX4_valueOf.2.1 14 = .ok (.getfield 12, 3) := by decide +kernel
theorem eX4_valueOf_17 : decode rX4_valueOf.2.1 17 = .ok (.invokevirtual 54, 3) := by decide +kernel
theorem eX4_valueOf_20 : decode rX4_valueOf.2.1 20 = .ok (.if_icmp .ge 27, 3) := by decide +kernel
theorem eX4_valueOf_23 : decode rX4_valueOf.2.1 23 = .ok (.bipush 10, 2) := by decide +kernel
theorem eX4_valueOf_25 : decode rX4_valueOf.2.1 25 = .ok (.iload_n 3, 1) := by decide +kernel
theorem eX4_valueOf_26 : decode rX4_valueOf.2.1 26 = .ok (.imul, 1) := by decide +kernel
theorem eX4_valueOf_27 : decode rX4_valueOf.2.1 27 = .ok (.aload_n 0, 1) := by decide +kernel
theorem eX4_valueOf_28 : decode rX4_valueOf.2.1 28 = .ok (.getfield 12, 3) := by decide +kernel
theorem eX4_valueOf_31 : decode rX4_valueOf.2.1 31 = .ok (.iload 4, 2) := by decide +kernel
theorem eX4_valueOf_33 : decode rX4_valueOf.2.1 33 = .ok (.invokevirtual 79, 3) := by decide +kernel
theorem eX4_valueOf_36 : decode rX4_valueOf.2.1 36 = .ok (.bipush 48, 2) := by decide +kernel
theorem eX4_valueOf_38 : decode rX4_valueOf.2.1 38 = .ok (.isub, 1) := by decide +kernel
theorem eX4_valueOf_39 : decode rX4_valueOf.2.1 39 = .ok (.iadd, 1) := by decide +kernel
theorem eX4_valueOf_40 : decode rX4_valueOf.2.1 40 = .ok (.istore_n 3, 1) := by decide +kernel
theorem eX4_valueOf_41 : decode rX4_valueOf.2.1 41 = .ok (.iinc 4 1, 3) := by decide +kernel
theorem eX4_valueOf_44 : decode rX4_valueOf.2.1 44 = .ok (.goto (-39), 3) := by decide +kernel
theorem eX4_valueOf_47 : decode rX4_valueOf.2.1 47 = .ok (.iload_n 3, 1) := by decide +kernel
theorem eX4_valueOf_48 : decode rX4_valueOf.2.1 48 = .ok (.ireturn, 1) := by decide +kernel
theorem eX5_init_0 : decode rX5_init.2.1 0 = .ok (.aload_n 0, 1) := by decide +kernel
theorem eX5_init_1 : decode rX5_init.2.1 1 = .ok (.invokespecial 3, 3) := by decide +kernel
theorem eX5_init_4 : decode rX5_init.2.1 4 = .ok (.aload_n 0, 1) := by decide +kernel
theorem eX5_init_5 : decode rX5_init.2.1 5 = .ok (.bipush 10, 2) := by decide +kernel
theorem eX5_init_7 : decode rX5_init.2.1 7 = .ok (.newarray .int, 2) := by decide +kernel
theorem eX5_init_9 : decode rX5_init.2.1 9 = .ok (.putfield 9, 3) := by decide +kernel
theorem eX5_init_12 : decode rX5_init.2.1 12 = .ok (.aload_n 0, 1) := by decide +kernel
theorem eX5_init_13 : decode rX5_init.2.1 13 = .ok (.bipush 10, 2) := by decide +kernel
theorem eX5_init_15 : decode rX5_init.2.1 15 = .ok (.newarray .int, 2) := by decide +kernel
theorem eX5_init_17 : decode rX5_init.2.1 17 = .ok (.putfield 15, 3) := by decide +kernel
theorem eX5_init_20 : decode rX5_init.2.1 20 = .ok (.aload_n 0, 1) := by decide +kernel
theorem eX5_init_21 : decode rX5_init.2.1 21 = .ok (.bipush 10, 2) := by decide +kernel
theorem eX5_init_23 : decode rX5_init.2.1 23 = .ok (.newarray .int, 2) := by decide +kernel
theorem eX5_init_25 : decode rX5_init.2.1 25 = .ok (.putfield 18, 3) := by decide +kernel
theorem eX5_init_28 : decode rX5_init.2.1 28 = .ok (.aload_n 0, 1) := by decide +kernel
theorem eX5_init_29 : decode rX5_init.2.1 29 = .ok (.iconst 0, 1) := by decide +kernel
theorem eX5_init_30 : decode rX5_init.2.1 30 = .ok (.putfield 21, 3) := by decide +kernel
theorem eX5_init_33 : decode rX5_init.2.1 33 = .ok (.aload_n 0, 1) := by decide +kernel
theorem eX5_init_34 : decode rX5_init.2.1 34 = .ok (.iconst 0, 1) := by decide +kernel
theorem eX5_init_35 : decode rX5_init.2.1 35 = .ok (.putfield 25, 3) := by decide +kernel
theorem eX5_init_38 : decode rX5_init.2.1 38 = .ok (.return_, 1) := by decide +kernel
theorem eX5_append_0 : decode rX5_append.2.1 0 = .ok (.aload_n 0, 1) := by decide +kernel
theorem eX5_append_1 : decode rX5_append.2.1 1 = .ok (.getfield 21, 3) := by decide +kernel
theorem eX5_append_4 : decode rX5_append.2.1 4 = .ok (.bipush 10, 2) := by decide +kernel
theorem eX5_append_6 : decode rX5_append.2.1 6 = .ok (.irem, 1) := by decide +kernel
theorem eX5_append_7 : decode rX5_append.2.1 7 = .ok (.istore 4, 2) := by decide +kernel
theorem eX5_append_9 : decode rX5_append.2.1 9 = .ok (.aload_n 0, 1) := by decide +kernel
theorem eX5_append_10 : decode rX5_append.2.1 10 = .ok (.getfield 9, 3) := by decide +kernel
theorem eX5_append_13 : decode rX5_append.2.1 13 = .ok (.iload 4, 2) := by decide +kernel
theorem eX5_append_15 : decode rX5_append.2.1 15 = .ok (.iload_n 1, 1) := by decide +kernel
theorem eX5_append_16 : decode rX5_append.2.1 16 = .ok (.iastore, 1) := by decide +kernel
theorem eX5_append_17 : decode rX5_append.2.1 17 = .ok (.aload_n 0, 1) := by decide +kernel
theorem eX5_append_18 : decode rX5_append.2.1 18 = .ok (.getfield 15, 3) := by decide +kernel
theorem eX5_append_21 : decode rX5_append.2.1 21 = .ok (.iload 4, 2) := by decide +kernel
theorem eX5_append_23 : decode rX5_append.2.1 23 = .ok (.iload_n 2, 1) := by decide +kernel
theorem eX5_append_24 : decode rX5_append.2.1 24 = .ok (.iastore, 1) := by decide +kernel
theorem eX5_append_25 : decode rX5_append.2.1 25 = .ok (.aload_n 0, 1) := by decide +kernel
theorem eX5_append_26 : decode rX5_append.2.1 26 = .ok (.getfield 18, 3) := by decide +kernel
theorem eX5_append_29 : decode rX5_append.2.1 29 = .ok (.iload 4, 2) := by decide +kernel
theorem eX5_append_31 : decode rX5_append.2.1 31 = .ok (.iload_n 3, 1) := by decide +kernel
theorem eX5_append_32 : decode rX5_append.2.1 32 = .ok (.iastore, 1) := by decide +kernel
theorem eX5_append_33 : decode rX5_append.2.1 33 = .ok (.aload_n 0, 1) := by decide +kernel
theorem eX5_append_34 : decode rX5_append.2.1 34 = .ok (.dup, 1) := by decide +kernel
theorem eX5_append_35 : decode rX5_append.2.1 35 = .ok (.getfield 21, 3) := by decide +kernel
theorem eX5_append_38 : decode rX5_append.2.1 38 = .ok (.iconst 1, 1) := by decide +kernel
theorem eX5_append_39 : decode rX5_append.2.1 39 = .ok (.iadd, 1) := by decide +kernel
theorem eX5_append_40 : decode rX5_append.2.1 40 = .ok (.putfield 21, 3) := by decide +kernel
theorem eX5_append_43 : decode rX5_append.2.1 43 = .ok (.aload_n 0, 1) := by decide +kernel
theorem eX5_append_44 : decode rX5_append.2.1 44 = .ok (.dup, 1) := by decide +kernel
theorem eX5_append_45 : decode rX5_append.2.1 45 = .ok (.getfield 25, 3) := by decide +kernel
theorem eX5_append_48 : decode rX5_append.2.1 48 = .ok (.iload_n 3, 1) := by decide +kernel
theorem eX5_append_49 : decode rX5_append.2.1 49 = .ok (.iadd, 1) := by decide +kernel
theorem eX5_append_50 : decode rX5_append.2.1 50 = .ok (.putfield 25, 3) := by decide +kernel
theorem eX5_append_53 : decode rX5_append.2.1 53 = .ok (.return_, 1) := by decide +kernel
theorem eX5_remembers_0 : decode rX5_remembers.2.1 0 = .ok (.iload_n 1, 1) := by decide +kernel
theorem eX5_remembers_1 : decode rX5_remembers.2.1 1 = .ok (.ifCond .lt 21, 3) := by decide +kernel
theorem eX5_remembers_4 : decode rX5_remembers.2.1 4 = .ok (.iload_n 1, 1) := by decide +kernel
theorem eX5_remembers_5 : decode rX5_remembers.2.1 5 = .ok (.aload_n 0, 1) := by decide +kernel
theorem eX5_remembers_6 : decode rX5_remembers.2.1 6 = .ok (.getfield 21, 3) := by decide +kernel
theorem eX5_remembers_9 : decode rX5_remembers.2.1 9 = .ok (.if_icmp .ge 13, 3) := by decide +kernel
theorem eX5_remembers_12 : decode rX5_remembers.2.1 12 = .ok (.iload_n 1, 1) := by decide +kernel
theorem eX5_remembers_13 : decode rX5_remembers.2.1 13 = .ok (.bipush 10, 2) := by decide +kernel
theorem eX5_remembers_15 : decode rX5_remembers.2.1 15 = .ok (.if_icmp .ge 7, 3) := by decide +kernel
theorem eX5_remembers_18 : decode rX5_remembers.2.1 18 = .ok (.iconst 1, 1) := by decide +kernel
theorem eX5_remembers_19 : decode rX5_remembers.2.1 19 = .ok (.goto 4, 3) := by decide +kernel
theorem eX5_remembers_22 : decode rX5_remembers.2.1 22 = .ok (.iconst 0, 1) := by decide +kernel
theorem eX5_remembers_23 : decode rX5_remembers.2.1 23 = .ok (.ireturn, 1) := by decide +kernel
theorem eX5_placeOf_0 : decode rX5_placeOf.2.1 0 = .ok (.aload_n 0, 1) := by decide +kernel
theorem eX5_placeOf_1 : decode rX5_placeOf.2.1 1 = .ok (.getfield 21, 3) := by decide +kernel
theorem eX5_placeOf_4 : decode rX5_placeOf.2.1 4 = .ok (.iconst 1, 1) := by decide +kernel
theorem eX5_placeOf_5 : decode rX5_placeOf.2.1 5 = .ok (.isub, 1) := by decide +kernel
theorem eX5_placeOf_6 : decode rX5_placeOf.2.1 6 = .ok (.iload_n 1, 1) := by decide +kernel
theorem eX5_placeOf_7 : decode rX5_placeOf.2.1 7 = .ok (.isub, 1) := by decide +kernel
theorem eX5_placeOf_8 : decode rX5_placeOf.2.1 8 = .ok (.bipush 10, 2) := by decide +kernel
theorem eX5_placeOf_10 : decode rX5_placeOf.2.1 10 = .ok (.irem, 1) := by decide +kernel
theorem eX5_placeOf_11 : decode rX5_placeOf.2.1 11 = .ok (.ireturn, 1) := by decide +kernel
theorem eX5_copyFrom_0 : decode rX5_copyFrom.2.1 0 = .ok (.aload_n 1, 1) := by decide +kernel
theorem eX5_copyFrom_1 : decode rX5_copyFrom.2.1 1 = .ok (.getfield 9, 3) := by decide +kernel
theorem eX5_copyFrom_4 : decode rX5_copyFrom.2.1 4 = .ok (.iconst 0, 1) := by decide +kernel
theorem eX5_copyFrom_5 : decode rX5_copyFrom.2.1 5 = .ok (.aload_n 0, 1) := by decide +kernel
theorem eX5_copyFrom_6 : decode rX5_copyFrom.2.1 6 = .ok (.getfield 9, 3) := by decide +kernel
theorem eX5_copyFrom_9 : decode rX5_copyFrom.2.1 9 = .ok (.iconst 0, 1) := by decide +kernel
theorem eX5_copyFrom_10 : decode rX5_copyFrom.2.1 10 = .ok (.bipush 10, 2) := by decide +kernel
theorem eX5_copyFrom_12 : decode rX5_copyFrom.2.1 12 = .ok (.invokestatic 28, 3) := by decide +kernel
theorem eX5_copyFrom_15 : decode rX5_copyFrom.2.1 15 = .ok (.aload_n 1, 1) := by decide +kernel
theorem eX5_copyFrom_16 : decode rX5_copyFrom.2.1 16 = .ok (.getfield 15, 3) := by decide +kernel
theorem eX5_copyFrom_19 : decode rX5_copyFrom.2.1 19 = .ok (.iconst 0, 1) := by decide +kernel
theorem eX5_copyFrom_20 : decode rX5_copyFrom.2.1 20 = .ok (.aload_n 0, 1) := by decide +kernel
theorem eX5_copyFrom_21 : decode rX5_copyFrom.2.1 21 = .ok (.getfield 15, 3) := by decide +kernel
theorem eX5_copyFrom_24 : decode rX5_copyFrom.2.1 24 = .ok (.iconst 0, 1) := by decide +kernel
theorem eX5_copyFrom_25 : decode rX5_copyFrom.2.1 25 = .ok (.bipush 10, 2) := by decide +kernel
theorem eX5_copyFrom_27 : decode rX5_copyFrom.2.1 27 = .ok (.invokestatic 28, 3) := by decide +kernel
theorem eX5_copyFrom_30 : decode rX5_copyFrom.2.1 30 = .ok (.aload_n 1, 1) := by decide +kernel
theorem eX5_copyFrom_31 : decode rX5_copyFrom.2.1 31 = .ok (.getfield 18, 3) := by decide +kernel
theorem eX5_copyFrom_34 : decode rX5_copyFrom.2.1 34 = .ok (.iconst 0, 1) := by decide +kernel
theorem eX5_copyFrom_35 : decode rX5_copyFrom.2.1 35 = .ok (.aload_n 0, 1) := by decide +kernel
theorem eX5_copyFrom_36 : decode rX5_copyFrom.2.1 36 = .ok (.getfield 18, 3) := by decide +kernel
theorem eX5_copyFrom_39 : decode rX5_copyFrom.2.1 39 = .ok (.iconst 0, 1) := by decide +kernel
theorem eX5_copyFrom_40 : decode rX5_copyFrom.2.1 40 = .ok (.bipush 10, 2) := by decide +kernel
theorem eX5_copyFrom_42 : decode rX5_copyFrom.2.1 42 = .ok (.invokestatic 28, 3) := by decide +kernel
theorem eX5_copyFrom_45 : decode rX5_copyFrom.2.1 45 = .ok (.aload_n 0, 1) := by decide +kernel
theorem eX5_copyFrom_46 : decode rX5_copyFrom.2.1 46 = .ok (.aload_n 1, 1) := by decide +kernel
theorem eX5_copyFrom_47 : decode rX5_copyFrom.2.1 47 = .ok (.getfield 21, 3) := by decide +kernel
theorem eX5_copyFrom_50 : decode rX5_copyFrom.2.1 50 = .ok (.putfield 21, 3) := by decide +kernel
theorem eX5_copyFrom_53 : decode rX5_copyFrom.2.1 53 = .ok (.aload_n 0, 1) := by decide +kernel
theorem eX5_copyFrom_54 : decode rX5_copyFrom.2.1 54 = .ok (.aload_n 1, 1) := by decide +kernel
theorem eX5_copyFrom_55 : decode rX5_copyFrom.2.1 55 = .ok (.getfield 25, 3) := by decide +kernel
theorem eX5_copyFrom_58 : decode rX5_copyFrom.2.1 58 = .ok (.putfield 25, 3) := by decide +kernel
theorem eX5_copyFrom_61 : decode rX5_copyFrom.2.1 61 = .ok (.return_, 1) := by decide +kernel
