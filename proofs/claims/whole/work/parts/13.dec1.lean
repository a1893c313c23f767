theorem eX0_init_0 : decode rX0_init.2.1 0 = .ok (.aload_n 0, 1) := by decide +kernel
theorem eX0_init_1 : decode rX0_init.2.1 1 = .ok (.invokespecial 3, 3) := by decide +kernel
theorem eX0_init_4 : decode rX0_init.2.1 4 = .ok (.aload_n 0, 1) := by decide +kernel
theorem eX0_init_5 : decode rX0_init.2.1 5 = .ok (.iconst 3, 1) := by decide +kernel
theorem eX0_init_6 : decode rX0_init.2.1 6 = .ok (.anewarray 9, 3) := by decide +kernel
theorem eX0_init_9 : decode rX0_init.2.1 9 = .ok (.putfield 11, 3) := by decide +kernel
theorem eX0_init_12 : decode rX0_init.2.1 12 = .ok (.aload_n 0, 1) := by decide +kernel
theorem eX0_init_13 : decode rX0_init.2.1 13 = .ok (.bipush 12, 2) := by decide +kernel
theorem eX0_init_15 : decode rX0_init.2.1 15 = .ok (.anewarray 17, 3) := by decide +kernel
theorem eX0_init_18 : decode rX0_init.2.1 18 = .ok (.putfield 19, 3) := by decide +kernel
theorem eX0_init_21 : decode rX0_init.2.1 21 = .ok (.aload_n 0, 1) := by decide +kernel
theorem eX0_init_22 : decode rX0_init.2.1 22 = .ok (.new 23, 3) := by decide +kernel
theorem eX0_init_25 : decode rX0_init.2.1 25 = .ok (.dup, 1) := by decide +kernel
theorem eX0_init_26 : decode rX0_init.2.1 26 = .ok (.invokespecial 25, 3) := by decide +kernel
theorem eX0_init_29 : decode rX0_init.2.1 29 = .ok (.putfield 26, 3) := by decide +kernel
theorem eX0_init_32 : decode rX0_init.2.1 32 = .ok (.aload_n 0, 1) := by decide +kernel
theorem eX0_init_33 : decode rX0_init.2.1 33 = .ok (.iconst 0, 1) := by decide +kernel
theorem eX0_init_34 : decode rX0_init.2.1 34 = .ok (.putfield 30, 3) := by decide +kernel
theorem eX0_init_37 : decode rX0_init.2.1 37 = .ok (.aload_n 0, 1) := by decide +kernel
theorem eX0_init_38 : decode rX0_init.2.1 38 = .ok (.iconst 0, 1) := by decide +kernel
theorem eX0_init_39 : decode rX0_init.2.1 39 = .ok (.putfield 34, 3) := by decide +kernel
theorem eX0_init_42 : decode rX0_init.2.1 42 = .ok (.aload_n 0, 1) := by decide +kernel
theorem eX0_init_43 : decode rX0_init.2.1 43 = .ok (.iconst 0, 1) := by decide +kernel
theorem eX0_init_44 : decode rX0_init.2.1 44 = .ok (.putfield 37, 3) := by decide +kernel
theorem eX0_init_47 : decode rX0_init.2.1 47 = .ok (.aload_n 0, 1) := by decide +kernel
theorem eX0_init_48 : decode rX0_init.2.1 48 = .ok (.iconst 0, 1) := by decide +kernel
theorem eX0_init_49 : decode rX0_init.2.1 49 = .ok (.putfield 40, 3) := by decide +kernel
theorem eX0_init_52 : decode rX0_init.2.1 52 = .ok (.aload_n 0, 1) := by decide +kernel
theorem eX0_init_53 : decode rX0_init.2.1 53 = .ok (.iconst 0, 1) := by decide +kernel
theorem eX0_init_54 : decode rX0_init.2.1 54 = .ok (.putfield 43, 3) := by decide +kernel
theorem eX0_init_57 : decode rX0_init.2.1 57 = .ok (.aload_n 0, 1) := by decide +kernel
theorem eX0_init_58 : decode rX0_init.2.1 58 = .ok (.iconst 0, 1) := by decide +kernel
theorem eX0_init_59 : decode rX0_init.2.1 59 = .ok (.putfield 46, 3) := by decide +kernel
theorem eX0_init_62 : decode rX0_init.2.1 62 = .ok (.aload_n 0, 1) := by decide +kernel
theorem eX0_init_63 : decode rX0_init.2.1 63 = .ok (.iconst 0, 1) := by decide +kernel
theorem eX0_init_64 : decode rX0_init.2.1 64 = .ok (.putfield 49, 3) := by decide +kernel
theorem eX0_init_67 : decode rX0_init.2.1 67 = .ok (.iconst 0, 1) := by decide +kernel
theorem eX0_init_68 : decode rX0_init.2.1 68 = .ok (.istore_n 1, 1) := by decide +kernel
theorem eX0_init_69 : decode rX0_init.2.1 69 = .ok (.iload_n 1, 1) := by decide +kernel
theorem eX0_init_70 : decode rX0_init.2.1 70 = .ok (.iconst 3, 1) := by decide +kernel
theorem eX0_init_71 : decode rX0_init.2.1 71 = .ok (.if_icmp .ge 22, 3) := by decide +kernel
theorem eX0_init_74 : decode rX0_init.2.1 74 = .ok (.aload_n 0, 1) := by decide +kernel
theorem eX0_init_75 : decode rX0_init.2.1 75 = .ok (.getfield 11, 3) := by decide +kernel
theorem eX0_init_78 : decode rX0_init.2.1 78 = .ok (.iload_n 1, 1) := by decide +kernel
theorem eX0_init_79 : decode rX0_init.2.1 79 = .ok (.new 9, 3) := by decide +kernel
theorem eX0_init_82 : decode rX0_init.2.1 82 = .ok (.dup, 1) := by decide +kernel
theorem eX0_init_83 : decode rX0_init.2.1 83 = .ok (.invokespecial 52, 3) := by decide +kernel
theorem eX0_init_86 : decode rX0_init.2.1 86 = .ok (.aastore, 1) := by decide +kernel
theorem eX0_init_87 : decode rX0_init.2.1 87 = .ok (.iinc 1 1, 3) := by decide +kernel
theorem eX0_init_90 : decode rX0_init.2.1 90 = .ok (.goto (-21), 3) := by decide +kernel
theorem eX0_init_93 : decode rX0_init.2.1 93 = .ok (.iconst 0, 1) := by decide +kernel
theorem eX0_init_94 : decode rX0_init.2.1 94 = .ok (.istore_n 1, 1) := by decide +kernel
theorem eX0_init_95 : decode rX0_init.2.1 95 = .ok (.iload_n 1, 1) := by decide +kernel
theorem eX0_init_96 : decode rX0_init.2.1 96 = .ok (.bipush 12, 2) := by decide +kernel
theorem eX0_init_98 : decode rX0_init.2.1 98 = .ok (.if_icmp .ge 22, 3) := by decide +kernel
theorem eX0_init_101 : decode rX0_init.2.1 101 = .ok (.aload_n 0, 1) := by decide +kernel
theorem eX0_init_102 : decode rX0_init.2.1 102 = .ok (.getfield 19, 3) := by decide +kernel
theorem eX0_init_105 : decode rX0_init.2.1 105 = .ok (.iload_n 1, 1) := by decide +kernel
theorem eX0_init_106 : decode rX0_init.2.1 106 = .ok (.new 17, 3) := by decide +kernel
theorem eX0_init_109 : decode rX0_init.2.1 109 = .ok (.dup, 1) := by decide +kernel
theorem eX0_init_110 : decode rX0_init.2.1 110 = .ok (.invokespecial 53, 3) := by decide +kernel
theorem eX0_init_113 : decode rX0_init.2.1 113 = .ok (.aastore, 1) := by decide +kernel
theorem eX0_init_114 : decode rX0_init.2.1 114 = .ok (.iinc 1 1, 3) := by decide +kernel
theorem eX0_init_117 : decode rX0_init.2.1 117 = .ok (.goto (-22), 3) := by decide +kernel
theorem eX0_init_120 : decode rX0_init.2.1 120 = .ok (.return_, 1) := by decide +kernel
theorem eX0_copyFrom_0 : decode rX0_copyFrom.2.1 0 = .ok (.iconst 0, 1) := by decide +kernel
theorem eX0_copyFrom_1 : decode rX0_copyFrom.2.1 1 = .ok (.istore_n 2, 1) := by decide +kernel
theorem eX0_copyFrom_2 : decode rX0_copyFrom.2.1 2 = .ok (.iload_n 2, 1) := by decide +kernel
theorem eX0_copyFrom_3 : decode rX0_copyFrom.2.1 3 = .ok (.iconst 3, 1) := by decide +kernel
theorem eX0_copyFrom_4 : decode rX0_copyFrom.2.1 4 = .ok (.if_icmp .ge 24, 3) := by decide +kernel
theorem eX0_copyFrom_7 : decode rX0_copyFrom.2.1 7 = .ok (.aload_n 0, 1) := by decide +kernel
theorem eX0_copyFrom_8 : decode rX0_copyFrom.2.1 8 = .ok (.getfield 11, 3) := by decide +kernel
theorem eX0_copyFrom_11 : decode rX0_copyFrom.2.1 11 = .ok (.iload_n 2, 1) := by decide +kernel
theorem eX0_copyFrom_12 : decode rX0_copyFrom.2.1 12 = .ok (.aaload, 1) := by decide +kernel
theorem eX0_copyFrom_13 : decode rX0_copyFrom.2.1 13 = .ok (.aload_n 1, 1) := by decide +kernel
theorem eX0_copyFrom_14 : decode rX0_copyFrom.2.1 14 = .ok (.getfield 11, 3) := by decide +kernel
theorem eX0_copyFrom_17 : decode rX0_copyFrom.2.1 17 = .ok (.iload_n 2, 1) := by decide +kernel
theorem eX0_copyFrom_18 : decode rX0_copyFrom.2.1 18 = .ok (.aaload, 1) := by decide +kernel
theorem eX0_copyFrom_19 : decode rX0_copyFrom.2.1 19 = .ok (.invokevirtual 54, 3) := by decide +kernel
theorem eX0_copyFrom_22 : decode rX0_copyFrom.2.1 22 = .ok (.iinc 2 1, 3) := by decide +kernel
theorem eX0_copyFrom_25 : decode rX0_copyFrom.2.1 25 = .ok (.goto (-23), 3) := by decide +kernel
theorem eX0_copyFrom_28 : decode rX0_copyFrom.2.1 28 = .ok (.iconst 0, 1) := by decide +kernel
theorem eX0_copyFrom_29 : decode rX0_copyFrom.2.1 29 = .ok (.istore_n 2, 1) := by decide +kernel
theorem eX0_copyFrom_30 : decode rX0_copyFrom.2.1 30 = .ok (.iload_n 2, 1) := by decide +kernel
theorem eX0_copyFrom_31 : decode rX0_copyFrom.2.1 31 = .ok (.aload_n 1, 1) := by decide +kernel
theorem eX0_copyFrom_32 : decode rX0_copyFrom.2.1 32 = .ok (.getfield 30, 3) := by decide +kernel
theorem eX0_copyFrom_35 : decode rX0_copyFrom.2.1 35 = .ok (.if_icmp .ge 24, 3) := by decide +kernel
theorem eX0_copyFrom_38 : decode rX0_copyFrom.2.1 38 = .ok (.aload_n 0, 1) := by decide +kernel
theorem eX0_copyFrom_39 : decode rX0_copyFrom.2.1 39 = .ok (.getfield 19, 3) := by decide +kernel
theorem eX0_copyFrom_42 : decode rX0_copyFrom.2.1 42 = .ok (.iload_n 2, 1) := by decide +kernel
theorem eX0_copyFrom_43 : decode rX0_copyFrom.2.1 43 = .ok (.aaload, 1) := by decide +kernel
theorem eX0_copyFrom_44 : decode rX0_copyFrom.2.1 44 = .ok (.aload_n 1, 1) := by decide +kernel
theorem eX0_copyFrom_45 : decode rX0_copyFrom.2.1 45 = .ok (.getfield 19, 3) := by decide +kernel
theorem eX0_copyFrom_48 : decode rX0_copyFrom.2.1 48 = .ok (.iload_n 2, 1) := by decide +kernel
theorem eX0_copyFrom_49 : decode rX0_copyFrom.2.1 49 = .ok (.aaload, 1) := by decide +kernel
theorem eX0_copyFrom_50 : decode rX0_copyFrom.2.1 50 = .ok (.invokevirtual 58, 3) := by decide +kernel
theorem eX0_copyFrom_53 : decode rX0_copyFrom.2.1 53 = .ok (.iinc 2 1, 3) := by decide +kernel
theorem eX0_copyFrom_56 : decode rX0_copyFrom.2.1 56 = .ok (.goto (-26), 3) := by decide +kernel
theorem eX0_copyFrom_59 : decode rX0_copyFrom.2.1 59 = .ok (.aload_n 0, 1) := by decide +kernel
theorem eX0_copyFrom_60 : decode rX0_copyFrom.2.1 60 = .ok (.getfield 26, 3) := by decide +kernel
theorem eX0_copyFrom_63 : decode rX0_copyFrom.2.1 63 = .ok (.aload_n 1, 1) := by decide +kernel
theorem eX0_copyFrom_64 : decode rX0_copyFrom.2.1 64 = .ok (.getfield 26, 3) := by decide +kernel
theorem eX0_copyFrom_67 : decode rX0_copyFrom.2.1 67 = .ok (.invokevirtual 61, 3) := by decide +kernel
theorem eX0_copyFrom_70 : decode rX0_copyFrom.2.1 70 = .ok (.aload_n 0, 1) := by decide +kernel
theorem eX0_copyFrom_71 : decode rX0_copyFrom.2.1 71 = .ok (.aload_n 1, 1) := by decide +kernel
theorem eX0_copyFrom_72 : decode rX0_copyFrom.2.1 72 = .ok (.getfield 30, 3) := by decide +kernel
theorem eX0_copyFrom_75 : decode rX0_copyFrom.2.1 75 = .ok (.putfield 30, 3) := by decide +kernel
theorem eX0_copyFrom_78 : decode rX0_copyFrom.2.1 78 = .ok (.aload_n 0, 1) := by decide +kernel
theorem eX0_copyFrom_79 : decode rX0_copyFrom.2.1 79 = .ok (.aload_n 1, 1) := by decide +kernel
theorem eX0_copyFrom_80 : decode rX0_copyFrom.2.1 80 = .ok (.getfield 34, 3) := by decide +kernel
theorem eX0_copyFrom_83 : decode rX0_copyFrom.2.1 83 = .ok (.putfield 34, 3) := by decide +kernel
theorem eX0_copyFrom_86 : decode rX0_copyFrom.2.1 86 = .ok (.aload_n 0, 1) := by decide +kernel
theorem eX0_copyFrom_87 : decode rX0_copyFrom.2.1 87 = .ok (.aload_n 1, 1) := by decide +kernel
theorem eX0_copyFrom_88 : decode rX0_copyFrom.2.1 88 = .ok (.getfield 37, 3) := by decide +kernel
theorem eX0_copyFrom_91 : decode rX0_copyFrom.2.1 91 = .ok (.putfield 37, 3) := by decide +kernel
theorem eX0_copyFrom_94 : decode rX0_copyFrom.2.1 94 = .ok (.aload_n 0, 1) := by decide +kernel
theorem eX0_copyFrom_95 : decode rX0_copyFrom.2.1 95 = .ok (.aload_n 1, 1) := by decide +kernel
theorem eX0_copyFrom_96 : decode rX0_copyFrom.2.1 96 = .ok (.getfield 40, 3) := by decide +kernel
theorem eX0_copyFrom_99 : decode rX0_copyFrom.2.1 99 = .ok (.putfield 40, 3) := by decide +kernel
theorem eX0_copyFrom_102 : decode rX0_copyFrom.2.1 102 = .ok (.aload_n 0, 1) := by decide +kernel
theorem eX0_copyFrom_103 : decode rX0_copyFrom.2.1 103 = .ok (.aload_n 1, 1) := by decide +kernel
theorem eX0_copyFrom_104 : decode rX0_copyFrom.2.1 104 = .ok (.getfield 43, 3) := by decide +kernel
theorem eX0_copyFrom_107 : decode rX0_copyFrom.2.1 107 = .ok (.putfield 43, 3) := by decide +kernel
theorem eX0_copyFrom_110 : decode rX0_copyFrom.2.1 110 = .ok (.aload_n 0, 1) := by decide +kernel
theorem eX0_copyFrom_111 : decode rX0_copyFrom.2.1 111 = .ok (.aload_n 1, 1) := by decide +kernel
theorem eX0_copyFrom_112 : decode rX0_copyFrom.2.1 112 = .ok (.getfield 46, 3) := by decide +kernel
theorem eX0_copyFrom_115 : decode rX0_copyFrom.2.1 115 = .ok (.putfield 46, 3) := by decide +kernel
theorem eX0_copyFrom_118 : decode rX0_copyFrom.2.1 118 = .ok (.aload_n 0, 1) := by decide +kernel
theorem eX0_copyFrom_119 : decode rX0_copyFrom.2.1 119 = .ok (.aload_n 1, 1) := by decide +kernel
theorem eX0_copyFrom_120 : decode rX0_copyFrom.2.1 120 = .ok (.getfield 49, 3) := by decide +kernel
theorem eX0_copyFrom_123 : decode rX0_copyFrom.2.1 123 = .ok (.putfield 49, 3) := by decide +kernel
theorem eX0_copyFrom_126 : decode rX0_copyFrom.2.1 126 = .ok (.return_, 1) := by decide +kernel
theorem eX0_refusalToAdd_0 : decode rX0_refusalToAdd.2.1 0 = .ok (.iload_n 1, 1) := by decide +kernel
theorem eX0_refusalToAdd_1 : decode rX0_refusalToAdd.2.1 1 = .ok (.invokestatic 64, 3) := by decide +kernel
theorem eX0_refusalToAdd_4 : decode rX0_refusalToAdd.2.1 4 = .ok (.ifCond .eq 22, 3) := by decide +kernel
theorem eX0_refusalToAdd_7 : decode rX0_refusalToAdd.2.1 7 = .ok (.iload_n 2, 1) := by decide +kernel
theorem eX0_refusalToAdd_8 : decode rX0_refusalToAdd.2.1 8 = .ok (.invokestatic 64, 3) := by decide +kernel
theorem eX0_refusalToAdd_11 : decode rX0_refusalToAdd.2.1 11 = .ok (.ifCond .eq 15, 3) := by decide +kernel
theorem eX0_refusalToAdd_14 : decode rX0_refusalToAdd.2.1 14 = .ok (.iload_n 1, 1) := by decide +kernel
theorem eX0_refusalToAdd_15 : decode rX0_refusalToAdd.2.1 15 = .ok (.iload_n 2, 1) := by decide +kernel
theorem eX0_refusalToAdd_16 : decode rX0_refusalToAdd.2.1 16 = .ok (.if_icmp .eq 10, 3) := by decide +kernel
theorem eX0_refusalToAdd_19 : decode rX0_refusalToAdd.2.1 19 = .ok (.iload_n 3, 1) := by decide +kernel
theorem eX0_refusalToAdd_20 : decode rX0_refusalToAdd.2.1 20 = .ok (.invokestatic 68, 3) := by decide +kernel
theorem eX0_refusalToAdd_23 : decode rX0_refusalToAdd.2.1 23 = .ok (.ifCond .ne 5, 3) := by decide +kernel
theorem eX0_refusalToAdd_26 : decode rX0_refusalToAdd.2.1 26 = .ok (.iconst 2, 1) := by decide +kernel
theorem eX0_refusalToAdd_27 : decode rX0_refusalToAdd.2.1 27 = .ok (.ireturn, 1) := by decide +kernel
theorem eX0_refusalToAdd_28 : decode rX0_refusalToAdd.2.1 28 = .ok (.aload_n 0, 1) := by decide +kernel
theorem eX0_refusalToAdd_29 : decode rX0_refusalToAdd.2.1 29 = .ok (.getfield 30, 3) := by decide +kernel
theorem eX0_refusalToAdd_32 : decode rX0_refusalToAdd.2.1 32 = .ok (.bipush 12, 2) := by decide +kernel
theorem eX0_refusalToAdd_34 : decode rX0_refusalToAdd.2.1 34 = .ok (.if_icmp .ge 7, 3) := by decide +kernel
theorem eX0_refusalToAdd_37 : decode rX0_refusalToAdd.2.1 37 = .ok (.iconst 0, 1) := by decide +kernel
theorem eX0_refusalToAdd_38 : decode rX0_refusalToAdd.2.1 38 = .ok (.goto 4, 3) := by decide +kernel
theorem eX0_refusalToAdd_41 : decode rX0_refusalToAdd.2.1 41 = .ok (.iconst 3, 1) := by decide +kernel
theorem eX0_refusalToAdd_42 : decode rX0_refusalToAdd.2.1 42 = .ok (.ireturn, 1) := by decide +kernel
theorem eX0_add_0 : decode rX0_add.2.1 0 = .ok (.aload_n 0, 1) := by decide +kernel
theorem eX0_add_1 : decode rX0_add.2.1 1 = .ok (.getfield 19, 3) := by decide +kernel
theorem eX0_add_4 : decode rX0_add.2.1 4 = .ok (.aload_n 0, 1) := by decide +kernel
theorem eX0_add_5 : decode rX0_add.2.1 5 = .ok (.getfield 30, 3) := by decide +kernel
theorem eX0_add_8 : decode rX0_add.2.1 8 = .ok (.aaload, 1) := by decide +kernel
theorem eX0_add_9 : decode rX0_add.2.1 9 = .ok (.astore 4, 2) := by decide +kernel
theorem eX0_add_11 : decode rX0_add.2.1 11 = .ok (.aload_n 0, 1) := by decide +kernel
theorem eX0_add_12 : decode rX0_add.2.1 12 = .ok (.dup, 1) := by decide +kernel
theorem eX0_add_13 : decode rX0_add.2.1 13 = .ok (.getfield 34, 3) := by decide +kernel
theorem eX0_add_16 : decode rX0_add.2.1 16 = .ok (.iconst 1, 1) := by decide +kernel
theorem eX0_add_17 : decode rX0_add.2.1 17 = .ok (.iadd, 1) := by decide +kernel
theorem eX0_add_18 : decode rX0_add.2.1 18 = .ok (.putfield 34, 3) := by decide +kernel
theorem eX0_add_21 : decode rX0_add.2.1 21 = .ok (.aload 4, 2) := by decide +kernel
theorem eX0_add_23 : decode rX0_add.2.1 23 = .ok (.aload_n 0, 1) := by decide +kernel
theorem eX0_add_24 : decode rX0_add.2.1 24 = .ok (.getfield 34, 3) := by decide +kernel
theorem eX0_add_27 : decode rX0_add.2.1 27 = .ok (.putfield 71, 3) := by decide +kernel
theorem eX0_add_30 : decode rX0_add.2.1 30 = .ok (.aload 4, 2) := by decide +kernel
theorem eX0_add_32 : decode rX0_add.2.1 32 = .ok (.iload_n 1, 1) := by decide +kernel
theorem eX0_add_33 : decode rX0_add.2.1 33 = .ok (.putfield 74, 3) := by decide +kernel
theorem eX0_add_36 : decode rX0_add.2.1 36 = .ok (.aload 4, 2) := by decide +kernel
theorem eX0_add_38 : decode rX0_add.2.1 38 = .ok (.iload_n 2, 1) := by decide +kernel
theorem eX0_add_39 : decode rX0_add.2.1 39 = .ok (.putfield 77, 3) := by decide +kernel
theorem eX0_add_42 : decode rX0_add.2.1 42 = .ok (.aload 4, 2) := by decide +kernel
theorem eX0_add_44 : decode rX0_add.2.1 44 = .ok (.iload_n 3, 1) := by decide +kernel
theorem eX0_add_45 : decode rX0_add.2.1 45 = .ok (.putfield 80, 3) := by decide +kernel
theorem eX0_add_48 : decode rX0_add.2.1 48 = .ok (.aload 4, 2) := by decide +kernel
theorem eX0_add_50 : decode rX0_add.2.1 50 = .ok (.iconst 0, 1) := by decide +kernel
theorem eX0_add_51 : decode rX0_add.2.1 51 = .ok (.putfield 83, 3) := by decide +kernel
theorem eX0_add_54 : decode rX0_add.2.1 54 = .ok (.aload 4, 2) := by decide +kernel
theorem eX0_add_56 : decode rX0_add.2.1 56 = .ok (.iconst 0, 1) := by decide +kernel
theorem eX0_add_57 : decode rX0_add.2.1 57 = .ok (.putfield 86, 3) := by decide +kernel
theorem eX0_add_60 : decode rX0_add.2.1 60 = .ok (.aload 4, 2) := by decide +kernel
theorem eX0_add_62 : decode rX0_add.2.1 62 = .ok (.aload_n 0, 1) := by decide +kernel
theorem eX0_add_63 : decode rX0_add.2.1 63 = .ok (.iload_n 1, 1) := by decide +kernel
theorem eX0_add_64 : decode rX0_add.2.1 64 = .ok (.iload_n 3, 1) := by decide +kernel
theorem eX0_add_65 : decode rX0_add.2.1 65 = .ok (.invokevirtual 90, 3) := by decide +kernel
theorem eX0_add_68 : decode rX0_add.2.1 68 = .ok (.putfield 94, 3) := by decide +kernel
theorem eX0_add_71 : decode rX0_add.2.1 71 = .ok (.aload_n 0, 1) := by decide +kernel
theorem eX0_add_72 : decode rX0_add.2.1 72 = .ok (.dup, 1) := by decide +kernel
theorem eX0_add_73 : decode rX0_add.2.1 73 = .ok (.getfield 30, 3) := by decide +kernel
theorem eX0_add_76 : decode rX0_add.2.1 76 = .ok (.iconst 1, 1) := by decide +kernel
theorem eX0_add_77 : decode rX0_add.2.1 77 = .ok (.iadd, 1) := by decide +kernel
theorem eX0_add_78 : decode rX0_add.2.1 78 = .ok (.putfield 30, 3) := by decide +kernel
theorem eX0_add_81 : decode rX0_add.2.1 81 = .ok (.aload_n 0, 1) := by decide +kernel
theorem eX0_add_82 : decode rX0_add.2.1 82 = .ok (.getfield 30, 3) := by decide +kernel
theorem eX0_add_85 : decode rX0_add.2.1 85 = .ok (.iconst 1, 1) := by decide +kernel
theorem eX0_add_86 : decode rX0_add.2.1 86 = .ok (.isub, 1) := by decide +kernel
theorem eX0_add_87 : decode rX0_add.2.1 87 = .ok (.ireturn, 1) := by decide +kernel
theorem eX0_refusalToRemove_0 : decode rX0_refusalToRemove.2.1 0 = .ok (.aload_n 0, 1) := by decide +kernel
theorem eX0_refusalToRemove_1 : decode rX0_refusalToRemove.2.1 1 = .ok (.iload_n 1, 1) := by decide +kernel
theorem eX0_refusalToRemove_2 : decode rX0_refusalToRemove.2.1 2 = .ok (.invokevirtual 97, 3) := by decide +kernel
theorem eX0_refusalToRemove_5 : decode rX0_refusalToRemove.2.1 5 = .ok (.ifCond .ne 5, 3) := by decide +kernel
theorem eX0_refusalToRemove_8 : decode rX0_refusalToRemove.2.1 8 = .ok (.iconst 1, 1) := by decide +kernel
theorem eX0_refusalToRemove_9 : decode rX0_refusalToRemove.2.1 9 = .ok (.ireturn, 1) := by decide +kernel
theorem eX0_refusalToRemove_10 : decode rX0_refusalToRemove.2.1 10 = .ok (.aload_n 0, 1) := by decide +kernel
theorem eX0_refusalToRemove_11 : decode rX0_refusalToRemove.2.1 11 = .ok (.getfield 19, 3) := by decide +kernel
theorem eX0_refusalToRemove_14 : decode rX0_refusalToRemove.2.1 14 = .ok (.iload_n 1, 1) := by decide +kernel
theorem eX0_refusalToRemove_15 : decode rX0_refusalToRemove.2.1 15 = .ok (.aaload, 1) := by decide +kernel
theorem eX0_refusalToRemove_16 : decode rX0_refusalToRemove.2.1 16 = .ok (.getfield 86, 3) := by decide +kernel
theorem eX0_refusalToRemove_19 : decode rX0_refusalToRemove.2.1 19 = .ok (.ifCond .eq 7, 3) := by decide +kernel
theorem eX0_refusalToRemove_22 : decode rX0_refusalToRemove.2.1 22 = .ok (.iconst 3, 1) := by decide +kernel
theorem eX0_refusalToRemove_23 : decode rX0_refusalToRemove.2.1 23 = .ok (.goto 4, 3) := by decide +kernel
theorem eX0_refusalToRemove_26 : decode rX0_refusalToRemove.2.1 26 = .ok (.iconst 0, 1) := by decide +kernel
theorem eX0_refusalToRemove_27 : decode rX0_refusalToRemove.2.1 27 = .ok (.ireturn, 1) := by decide +kernel
theorem eX0_remove_0 : decode rX0_remove.2.1 0 = .ok (.aload_n 0, 1) := by decide +kernel
theorem eX0_remove_1 : decode rX0_remove.2.1 1 = .ok (.getfield 19, 3) := by decide +kernel
theorem eX0_remove_4 : decode rX0_remove.2.1 4 = .ok (.iload_n 1, 1) := by decide +kernel
theorem eX0_remove_5 : decode rX0_remove.2.1 5 = .ok (.aaload, 1) := by decide +kernel
theorem eX0_remove_6 : decode rX0_remove.2.1 6 = .ok (.astore_n 2, 1) := by decide +kernel
theorem eX0_remove_7 : decode rX0_remove.2.1 7 = .ok (.aload_n 0, 1) := by decide +kernel
theorem eX0_remove_8 : decode rX0_remove.2.1 8 = .ok (.dup, 1) := by decide +kernel
theorem eX0_remove_9 : decode rX0_remove.2.1 9 = .ok (.getfield 30, 3) := by decide +kernel
theorem eX0_remove_12 : decode rX0_remove.2.1 12 = .ok (.iconst 1, 1) := by decide +kernel
theorem eX0_remove_13 : decode rX0_remove.2.1 13 = .ok (.isub, 1) := by decide +kernel
theorem eX0_remove_14 : decode rX0_remove.2.1 14 = .ok (.putfield 30, 3) := by decide +kernel
theorem eX0_remove_17 : decode rX0_remove.2.1 17 = .ok (.iload_n 1, 1) := by decide +kernel
theorem eX0_remove_18 : decode rX0_remove.2.1 18 = .ok (.istore_n 3, 1) := by decide +kernel
theorem eX0_remove_19 : decode rX0_remove.2.1 19 = .ok (.iload_n 3, 1) := by decide +kernel
theorem eX0_remove_20 : decode rX0_remove.2.1 20 = .ok (.aload_n 0, 1) := by decide +kernel
theorem eX0_remove_21 : decode rX0_remove.2.1 21 = .ok (.getfield 30, 3) := by decide +kernel
theorem eX0_remove_24 : decode rX0_remove.2.1 24 = .ok (.if_icmp .ge 23, 3) := by decide +kernel
theorem eX0_remove_27 : decode rX0_remove.2.1 27 = .ok (.aload_n 0, 1) := by decide +kernel
theorem eX0_remove_28 : decode rX0_remove.2.1 28 = .ok (.getfield 19, 3) := by decide +kernel
theorem eX0_remove_31 : decode rX0_remove.2.1 31 = .ok (.iload_n 3, 1) := by decide +kernel
theorem eX0_remove_32 : decode rX0_remove.2.1 32 = .ok (.aload_n 0, 1) := by decide +kernel
theorem eX0_remove_33 : decode rX0_remove.2.1 33 = .ok (.getfield 19, 3) := by decide +kernel
theorem eX0_remove_36 : decode rX0_remove.2.1 36 = .ok (.iload_n 3, 1) := by decide +kernel
theorem eX0_remove_37 : decode rX0_remove.2.1 37 = .ok (.iconst 1, 1) := by decide +kernel
theorem eX0_remove_38 : decode rX0_remove.2.1 38 = .ok (.iadd, 1) := by decide +kernel
theorem eX0_remove_39 : decode rX0_remove.2.1 39 = .ok (.aaload, 1) := by decide +kernel
theorem eX0_remove_40 : decode rX0_remove.2.1 40 = .ok (.aastore, 1) := by decide +kernel
theorem eX0_remove_41 : decode rX0_remove.2.1 41 = .ok (.iinc 3 1, 3) := by decide +kernel
theorem eX0_remove_44 : decode rX0_remove.2.1 44 = .ok (.goto (-25), 3) := by decide +kernel
theorem eX0_remove_47 : decode rX0_remove.2.1 47 = .ok (.aload_n 0, 1) := by decide +kernel
theorem eX0_remove_48 : decode rX0_remove.2.1 48 = .ok (.getfield 19, 3) := by decide +kernel
theorem eX0_remove_51 : decode rX0_remove.2.1 51 = .ok (.aload_n 0, 1) := by decide +kernel
theorem eX0_remove_52 : decode rX0_remove.2.1 52 = .ok (.getfield 30, 3) := by decide +kernel
theorem eX0_remove_55 : decode rX0_remove.2.1 55 = .ok (.aload_n 2, 1) := by decide +kernel
theorem eX0_remove_56 : decode rX0_remove.2.1 56 = .ok (.aastore, 1) := by decide +kernel
theorem eX0_remove_57 : decode rX0_remove.2.1 57 = .ok (.aload_n 2, 1) := by decide +kernel
theorem eX0_remove_58 : decode rX0_remove.2.1 58 = .ok (.getfield 71, 3) := by decide +kernel
theorem eX0_remove_61 : decode rX0_remove.2.1 61 = .ok (.ireturn, 1) := by decide +kernel
theorem eX0_refusalToHold_0 : decode rX0_refusalToHold.2.1 0 = .ok (.iload_n 1, 1) := by decide +kernel
theorem eX0_refusalToHold_1 : decode rX0_refusalToHold.2.1 1 = .ok (.invokestatic 100, 3) := by decide +kernel
theorem eX0_refusalToHold_4 : decode rX0_refusalToHold.2.1 4 = .ok (.ifCond .ne 5, 3) := by decide +kernel
theorem eX0_refusalToHold_7 : decode rX0_refusalToHold.2.1 7 = .ok (.iconst 1, 1) := by decide +kernel
theorem eX0_refusalToHold_8 : decode rX0_refusalToHold.2.1 8 = .ok (.ireturn, 1) := by decide +kernel
theorem eX0_refusalToHold_9 : decode rX0_refusalToHold.2.1 9 = .ok (.iload_n 2, 1) := by decide +kernel
theorem eX0_refusalToHold_10 : decode rX0_refusalToHold.2.1 10 = .ok (.iconst 1, 1) := by decide +kernel
theorem eX0_refusalToHold_11 : decode rX0_refusalToHold.2.1 11 = .ok (.if_icmp .lt 8, 3) := by decide +kernel
theorem eX0_refusalToHold_14 : decode rX0_refusalToHold.2.1 14 = .ok (.iload_n 2, 1) := by decide +kernel
theorem eX0_refusalToHold_15 : decode rX0_refusalToHold.2.1 15 = .ok (.iconst 3, 1) := by decide +kernel
theorem eX0_refusalToHold_16 : decode rX0_refusalToHold.2.1 16 = .ok (.if_icmp .le 5, 3) := by decide +kernel
theorem eX0_refusalToHold_19 : decode rX0_refusalToHold.2.1 19 = .ok (.iconst 2, 1) := by decide +kernel
theorem eX0_refusalToHold_20 : decode rX0_refusalToHold.2.1 20 = .ok (.ireturn, 1) := by decide +kernel
theorem eX0_refusalToHold_21 : decode rX0_refusalToHold.2.1 21 = .ok (.aload_n 0, 1) := by decide +kernel
theorem eX0_refusalToHold_22 : decode rX0_refusalToHold.2.1 22 = .ok (.getfield 11, 3) := by decide +kernel
theorem eX0_refusalToHold_25 : decode rX0_refusalToHold.2.1 25 = .ok (.iload_n 1, 1) := by decide +kernel
theorem eX0_refusalToHold_26 : decode rX0_refusalToHold.2.1 26 = .ok (.aaload, 1) := by decide +kernel
theorem eX0_refusalToHold_27 : decode rX0_refusalToHold.2.1 27 = .ok (.getfield 103, 3) := by decide +kernel
theorem eX0_refusalToHold_30 : decode rX0_refusalToHold.2.1 30 = .ok (.ifCond .le 7, 3) := by decide +kernel
theorem eX0_refusalToHold_33 : decode rX0_refusalToHold.2.1 33 = .ok (.iconst 0, 1) := by decide +kernel
theorem eX0_refusalToHold_34 : decode rX0_refusalToHold.2.1 34 = .ok (.goto 4, 3) := by decide +kernel
theorem eX0_refusalToHold_37 : decode rX0_refusalToHold.2.1 37 = .ok (.iconst 3, 1) := by decide +kernel
theorem eX0_refusalToHold_38 : decode rX0_refusalToHold.2.1 38 = .ok (.ireturn, 1) := by decide +kernel
theorem eX0_hold_0 : decode rX0_hold.2.1 0 = .ok (.aload_n 0, 1) := by decide +kernel
theorem eX0_hold_1 : decode rX0_hold.2.1 1 = .ok (.getfield 11, 3) := by decide +kernel
theorem eX0_hold_4 : decode rX0_hold.2.1 4 = .ok (.iload_n 1, 1) := by decide +kernel
theorem eX0_hold_5 : decode rX0_hold.2.1 5 = .ok (.aaload, 1) := by decide +kernel
theorem eX0_hold_6 : decode rX0_hold.2.1 6 = .ok (.getfield 103, 3) := by decide +kernel
theorem eX0_hold_9 : decode rX0_hold.2.1 9 = .ok (.istore_n 3, 1) := by decide +kernel
theorem eX0_hold_10 : decode rX0_hold.2.1 10 = .ok (.aload_n 0, 1) := by decide +kernel
theorem eX0_hold_11 : decode rX0_hold.2.1 11 = .ok (.getfield 11, 3) := by decide +kernel
theorem eX0_hold_14 : decode rX0_hold.2.1 14 = .ok (.iload_n 1, 1) := by decide +kernel
theorem eX0_hold_15 : decode rX0_hold.2.1 15 = .ok (.aaload, 1) := by decide +kernel
theorem eX0_hold_16 : decode rX0_hold.2.1 16 = .ok (.iload_n 2, 1) := by decide +kernel
theorem eX0_hold_17 : decode rX0_hold.2.1 17 = .ok (.putfield 103, 3) := by decide +kernel
theorem eX0_hold_20 : decode rX0_hold.2.1 20 = .ok (.iload_n 3, 1) := by decide +kernel
theorem eX0_hold_21 : decode rX0_hold.2.1 21 = .ok (.ireturn, 1) := by decide +kernel
theorem eX0_refusalToStop_0 : decode rX0_refusalToStop.2.1 0 = .ok (.iload_n 1, 1) := by decide +kernel
theorem eX0_refusalToStop_1 : decode rX0_refusalToStop.2.1 1 = .ok (.invokestatic 100, 3) := by decide +kernel
theorem eX0_refusalToStop_4 : decode rX0_refusalToStop.2.1 4 = .ok (.ifCond .ne 5, 3) := by decide +kernel
theorem eX0_refusalToStop_7 : decode rX0_refusalToStop.2.1 7 = .ok (.iconst 1, 1) := by decide +kernel
theorem eX0_refusalToStop_8 : decode rX0_refusalToStop.2.1 8 = .ok (.ireturn, 1) := by decide +kernel
theorem eX0_refusalToStop_9 : decode rX0_refusalToStop.2.1 9 = .ok (.aload_n 0, 1) := by decide +kernel
theorem eX0_refusalToStop_10 : decode rX0_refusalToStop.2.1 10 = .ok (.getfield 11, 3) := by decide +kernel
theorem eX0_refusalToStop_13 : decode rX0_refusalToStop.2.1 13 = .ok (.iload_n 1, 1) := by decide +kernel
theorem eX0_refusalToStop_14 : decode rX0_refusalToStop.2.1 14 = .ok (.aaload, 1) := by decide +kernel
theorem eX0_refusalToStop_15 : decode rX0_refusalToStop.2.1 15 = .ok (.getfield 106, 3) := by decide +kernel
theorem eX0_refusalToStop_18 : decode rX0_refusalToStop.2.1 18 = .ok (.ifCond .eq 7, 3) := by decide +kernel
theorem eX0_refusalToStop_21 : decode rX0_refusalToStop.2.1 21 = .ok (.iconst 0, 1) := by decide +kernel
theorem eX0_refusalToStop_22 : decode rX0_refusalToStop.2.1 22 = .ok (.goto 4, 3) := by decide +kernel
theorem eX0_refusalToStop_25 : decode rX0_refusalToStop.2.1 25 = .ok (.iconst 3, 1) := by decide +kernel
theorem eX0_refusalToStop_26 : decode rX0_refusalToStop.2.1 26 = .ok (.ireturn, 1) := by decide +kernel
theorem eX0_takeOutOfService_0 : decode rX0_takeOutOfService.2.1 0 = .ok (.iconst 0, 1) := by decide +kernel
theorem eX0_takeOutOfService_1 : decode rX0_takeOutOfService.2.1 1 = .ok (.istore_n 2, 1) := by decide +kernel
theorem eX0_takeOutOfService_2 : decode rX0_takeOutOfService.2.1 2 = .ok (.iconst 0, 1) := by decide +kernel
theorem eX0_takeOutOfService_3 : decode rX0_takeOutOfService.2.1 3 = .ok (.istore_n 3, 1) := by decide +kernel
theorem eX0_takeOutOfService_4 : decode rX0_takeOutOfService.2.1 4 = .ok (.iload_n 3, 1) := by decide +kernel
theorem eX0_takeOutOfService_5 : decode rX0_takeOutOfService.2.1 5 = .ok (.aload_n 0, 1) := by decide +kernel
theorem eX0_takeOutOfService_6 : decode rX0_takeOutOfService.2.1 6 = .ok (.getfield 30, 3) := by decide +kernel
theorem eX0_takeOutOfService_9 : decode rX0_takeOutOfService.2.1 9 = .ok (.if_icmp .ge 43, 3) := by decide +kernel
theorem eX0_takeOutOfService_12 : decode rX0_takeOutOfService.2.1 12 = .ok (.aload_n 0, 1) := by decide +kernel
theorem eX0_takeOutOfService_13 : decode rX0_takeOutOfService.2.1 13 = .ok (.getfield 19, 3) := by decide +kernel
theorem eX0_takeOutOfService_16 : decode rX0_takeOutOfService.2.1 16 = .ok (.iload_n 3, 1) := by decide +kernel
theorem eX0_takeOutOfService_17 : decode rX0_takeOutOfService.2.1 17 = .ok (.aaload, 1) := by decide +kernel
theorem eX0_takeOutOfService_18 : decode rX0_takeOutOfService.2.1 18 = .ok (.astore 4, 2) := by decide +kernel
theorem eX0_takeOutOfService_20 : decode rX0_takeOutOfService.2.1 20 = .ok (.aload 4, 2) := by decide +kernel
theorem eX0_takeOutOfService_22 : decode rX0_takeOutOfService.2.1 22 = .ok (.getfield 86, 3) := by decide +kernel
theorem eX0_takeOutOfService_25 : decode rX0_takeOutOfService.2.1 25 = .ok (.ifCond .ne 21, 3) := by decide +kernel
theorem eX0_takeOutOfService_28 : decode rX0_takeOutOfService.2.1 28 = .ok (.aload 4, 2) := by decide +kernel
theorem eX0_takeOutOfService_30 : decode rX0_takeOutOfService.2.1 30 = .ok (.getfield 94, 3) := by decide +kernel
theorem eX0_takeOutOfService_33 : decode rX0_takeOutOfService.2.1 33 = .ok (.iload_n 1, 1) := by decide +kernel
theorem eX0_takeOutOfService_34 : decode rX0_takeOutOfService.2.1 34 = .ok (.if_icmp .ne 12, 3) := by decide +kernel
theorem eX0_takeOutOfService_37 : decode rX0_takeOutOfService.2.1 37 = .ok (.aload 4, 2) := by decide +kernel
theorem eX0_takeOutOfService_39 : decode rX0_takeOutOfService.2.1 39 = .ok (.iconst (-1), 1) := by decide +kernel
theorem eX0_takeOutOfService_40 : decode rX0_takeOutOfService.2.1 40 = .ok (.putfield 94, 3) := by decide +kernel
theorem eX0_takeOutOfService_43 : decode rX0_takeOutOfService.2.1 43 = .ok (.iinc 2 1, 3) := by decide +kernel
theorem eX0_takeOutOfService_46 : decode rX0_takeOutOfService.2.1 46 = .ok (.iinc 3 1, 3) := by decide +kernel
theorem eX0_takeOutOfService_49 : decode rX0_takeOutOfService.2.1 49 = .ok (.goto (-45), 3) := by decide +kernel
theorem eX0_takeOutOfService_52 : decode rX0_takeOutOfService.2.1 52 = .ok (.aload_n 0, 1) := by decide +kernel
theorem eX0_takeOutOfService_53 : decode rX0_takeOutOfService.2.1 53 = .ok (.getfield 11, 3) := by decide +kernel
theorem eX0_takeOutOfService_56 : decode rX0_takeOutOfService.2.1 56 = .ok (.iload_n 1, 1) := by decide +kernel
theorem eX0_takeOutOfService_57 : decode rX0_takeOutOfService.2.1 57 = .ok (.aaload, 1) := by decide +kernel
theorem eX0_takeOutOfService_58 : decode rX0_takeOutOfService.2.1 58 = .ok (.iconst 0, 1) := by decide +kernel
theorem eX0_takeOutOfService_59 : decode rX0_takeOutOfService.2.1 59 = .ok (.putfield 106, 3) := by decide +kernel
theorem eX0_takeOutOfService_62 : decode rX0_takeOutOfService.2.1 62 = .ok (.iload_n 2, 1) := by decide +kernel
theorem eX0_takeOutOfService_63 : decode rX0_takeOutOfService.2.1 63 = .ok (.ireturn, 1) := by decide +kernel
theorem eX0_refusalToStart_0 : decode rX0_refusalToStart.2.1 0 = .ok (.iload_n 1, 1) := by decide +kernel
theorem eX0_refusalToStart_1 : decode rX0_refusalToStart.2.1 1 = .ok (.invokestatic 100, 3) := by decide +kernel
theorem eX0_refusalToStart_4 : decode rX0_refusalToStart.2.1 4 = .ok (.ifCond .ne 5, 3) := by decide +kernel
theorem eX0_refusalToStart_7 : decode rX0_refusalToStart.2.1 7 = .ok (.iconst 1, 1) := by decide +kernel
theorem eX0_refusalToStart_8 : decode rX0_refusalToStart.2.1 8 = .ok (.ireturn, 1) := by decide +kernel
theorem eX0_refusalToStart_9 : decode rX0_refusalToStart.2.1 9 = .ok (.aload_n 0, 1) := by decide +kernel
theorem eX0_refusalToStart_10 : decode rX0_refusalToStart.2.1 10 = .ok (.getfield 11, 3) := by decide +kernel
theorem eX0_refusalToStart_13 : decode rX0_refusalToStart.2.1 13 = .ok (.iload_n 1, 1) := by decide +kernel
theorem eX0_refusalToStart_14 : decode rX0_refusalToStart.2.1 14 = .ok (.aaload, 1) := by decide +kernel
theorem eX0_refusalToStart_15 : decode rX0_refusalToStart.2.1 15 = .ok (.getfield 106, 3) := by decide +kernel
theorem eX0_refusalToStart_18 : decode rX0_refusalToStart.2.1 18 = .ok (.ifCond .eq 7, 3) := by decide +kernel
theorem eX0_refusalToStart_21 : decode rX0_refusalToStart.2.1 21 = .ok (.iconst 3, 1) := by decide +kernel
theorem eX0_refusalToStart_22 : decode rX0_refusalToStart.2.1 22 = .ok (.goto 4, 3) := by decide +kernel
theorem eX0_refusalToStart_25 : decode rX0_refusalToStart.2.1 25 = .ok (.iconst 0, 1) := by decide +kernel
theorem eX0_refusalToStart_26 : decode rX0_refusalToStart.2.1 26 = .ok (.ireturn, 1) := by decide +kernel
theorem eX0_putInService_0 : decode rX0_putInService.2.1 0 = .ok (.aload_n 0, 1) := by decide +kernel
theorem eX0_putInService_1 : decode rX0_putInService.2.1 1 = .ok (.getfield 11, 3) := by decide +kernel
theorem eX0_putInService_4 : decode rX0_putInService.2.1 4 = .ok (.iload_n 1, 1) := by decide +kernel
theorem eX0_putInService_5 : decode rX0_putInService.2.1 5 = .ok (.aaload, 1) := by decide +kernel
theorem eX0_putInService_6 : decode rX0_putInService.2.1 6 = .ok (.iconst 1, 1) := by decide +kernel
theorem eX0_putInService_7 : decode rX0_putInService.2.1 7 = .ok (.putfield 106, 3) := by decide +kernel
theorem eX0_putInService_10 : decode rX0_putInService.2.1 10 = .ok (.iconst 0, 1) := by decide +kernel
theorem eX0_putInService_11 : decode rX0_putInService.2.1 11 = .ok (.istore_n 2, 1) := by decide +kernel
theorem eX0_putInService_12 : decode rX0_putInService.2.1 12 = .ok (.iconst 0, 1) := by decide +kernel
theorem eX0_putInService_13 : decode rX0_putInService.2.1 13 = .ok (.istore_n 3, 1) := by decide +kernel
theorem eX0_putInService_14 : decode rX0_putInService.2.1 14 = .ok (.iload_n 3, 1) := by decide +kernel
theorem eX0_putInService_15 : decode rX0_putInService.2.1 15 = .ok (.iconst 3, 1) := by decide +kernel
theorem eX0_putInService_16 : decode rX0_putInService.2.1 16 = .ok (.if_icmp .ge 24, 3) := by decide +kernel
theorem eX0_putInService_19 : decode rX0_putInService.2.1 19 = .ok (.aload_n 0, 1) := by decide +kernel
theorem eX0_putInService_20 : decode rX0_putInService.2.1 20 = .ok (.getfield 11, 3) := by decide +kernel
theorem eX0_putInService_23 : decode rX0_putInService.2.1 23 = .ok (.iload_n 3, 1) := by decide +kernel
theorem eX0_putInService_24 : decode rX0_putInService.2.1 24 = .ok (.aaload, 1) := by decide +kernel
theorem eX0_putInService_25 : decode rX0_putInService.2.1 25 = .ok (.getfield 106, 3) := by decide +kernel
theorem eX0_putInService_28 : decode rX0_putInService.2.1 28 = .ok (.ifCond .eq 6, 3) := by decide +kernel
theorem eX0_putInService_31 : decode rX0_putInService.2.1 31 = .ok (.iinc 2 1, 3) := by decide +kernel
theorem eX0_putInService_34 : decode rX0_putInService.2.1 34 = .ok (.iinc 3 1, 3) := by decide +kernel
theorem eX0_putInService_37 : decode rX0_putInService.2.1 37 = .ok (.goto (-23), 3) := by decide +kernel
theorem eX0_putInService_40 : decode rX0_putInService.2.1 40 = .ok (.iload_n 2, 1) := by decide +kernel
theorem eX0_putInService_41 : decode rX0_putInService.2.1 41 = .ok (.ireturn, 1) := by decide +kernel
theorem eX0_refusalToLimit_0 : decode rX0_refusalToLimit.2.1 0 = .ok (.iload_n 1, 1) := by decide +kernel
theorem eX0_refusalToLimit_1 : decode rX0_refusalToLimit.2.1 1 = .ok (.invokestatic 100, 3) := by decide +kernel
theorem eX0_refusalToLimit_4 : decode rX0_refusalToLimit.2.1 4 = .ok (.ifCond .ne 5, 3) := by decide +kernel
theorem eX0_refusalToLimit_7 : decode rX0_refusalToLimit.2.1 7 = .ok (.iconst 1, 1) := by decide +kernel
theorem eX0_refusalToLimit_8 : decode rX0_refusalToLimit.2.1 8 = .ok (.ireturn, 1) := by decide +kernel
theorem eX0_refusalToLimit_9 : decode rX0_refusalToLimit.2.1 9 = .ok (.iload_n 2, 1) := by decide +kernel
theorem eX0_refusalToLimit_10 : decode rX0_refusalToLimit.2.1 10 = .ok (.bipush 100, 2) := by decide +kernel
theorem eX0_refusalToLimit_12 : decode rX0_refusalToLimit.2.1 12 = .ok (.if_icmp .lt 10, 3) := by decide +kernel
theorem eX0_refusalToLimit_15 : decode rX0_refusalToLimit.2.1 15 = .ok (.iload_n 2, 1) := by decide +kernel
theorem eX0_refusalToLimit_16 : decode rX0_refusalToLimit.2.1 16 = .ok (.sipush 900, 3) := by decide +kernel
theorem eX0_refusalToLimit_19 : decode rX0_refusalToLimit.2.1 19 = .ok (.if_icmp .le 5, 3) := by decide +kernel
theorem eX0_refusalToLimit_22 : decode rX0_refusalToLimit.2.1 22 = .ok (.iconst 2, 1) := by decide +kernel
theorem eX0_refusalToLimit_23 : decode rX0_refusalToLimit.2.1 23 = .ok (.ireturn, 1) := by decide +kernel
theorem eX0_refusalToLimit_24 : decode rX0_refusalToLimit.2.1 24 = .ok (.aload_n 0, 1) := by decide +kernel
theorem eX0_refusalToLimit_25 : decode rX0_refusalToLimit.2.1 25 = .ok (.getfield 11, 3) := by decide +kernel
theorem eX0_refusalToLimit_28 : decode rX0_refusalToLimit.2.1 28 = .ok (.iload_n 1, 1) := by decide +kernel
theorem eX0_refusalToLimit_29 : decode rX0_refusalToLimit.2.1 29 = .ok (.aaload, 1) := by decide +kernel
theorem eX0_refusalToLimit_30 : decode rX0_refusalToLimit.2.1 30 = .ok (.getfield 109, 3) := by decide +kernel
theorem eX0_refusalToLimit_33 : decode rX0_refusalToLimit.2.1 33 = .ok (.iload_n 2, 1) := by decide +kernel
theorem eX0_refusalToLimit_34 : decode rX0_refusalToLimit.2.1 34 = .ok (.if_icmp .le 7, 3) := by decide +kernel
theorem eX0_refusalToLimit_37 : decode rX0_refusalToLimit.2.1 37 = .ok (.iconst 4, 1) := by decide +kernel
theorem eX0_refusalToLimit_38 : decode rX0_refusalToLimit.2.1 38 = .ok (.goto 4, 3) := by decide +kernel
theorem eX0_refusalToLimit_41 : decode rX0_refusalToLimit.2.1 41 = .ok (.iconst 0, 1) := by decide +kernel
theorem eX0_refusalToLimit_42 : decode rX0_refusalToLimit.2.1 42 = .ok (.ireturn, 1) := by decide +kernel
theorem eX0_limit_0 : decode rX0_limit.2.1 0 = .ok (.aload_n 0, 1) := by decide +kernel
theorem eX0_limit_1 : decode rX0_limit.2.1 1 = .ok (.getfield 11, 3) := by decide +kernel
theorem eX0_limit_4 : decode rX0_limit.2.1 4 = .ok (.iload_n 1, 1) := by decide +kernel
theorem eX0_limit_5 : decode rX0_limit.2.1 5 = .ok (.aaload, 1) := by decide +kernel
theorem eX0_limit_6 : decode rX0_limit.2.1 6 = .ok (.getfield 112, 3) := by decide +kernel
theorem eX0_limit_9 : decode rX0_limit.2.1 9 = .ok (.istore_n 3, 1) := by decide +kernel
theorem eX0_limit_10 : decode rX0_limit.2.1 10 = .ok (.aload_n 0, 1) := by decide +kernel
theorem eX0_limit_11 : decode rX0_limit.2.1 11 = .ok (.getfield 11, 3) := by decide +kernel
theorem eX0_limit_14 : decode rX0_limit.2.1 14 = .ok (.iload_n 1, 1) := by decide +kernel
theorem eX0_limit_15 : decode rX0_limit.2.1 15 = .ok (.aaload, 1) := by decide +kernel
theorem eX0_limit_16 : decode rX0_limit.2.1 16 = .ok (.iload_n 2, 1) := by decide +kernel
theorem eX0_limit_17 : decode rX0_limit.2.1 17 = .ok (.putfield 112, 3) := by decide +kernel
theorem eX0_limit_20 : decode rX0_limit.2.1 20 = .ok (.iload_n 3, 1) := by decide +kernel
theorem eX0_limit_21 : decode rX0_limit.2.1 21 = .ok (.ireturn, 1) := by decide +kernel
theorem eX0_refusalToPass_0 : decode rX0_refusalToPass.2.1 0 = .ok (.iload_n 1, 1) := by decide +kernel
theorem eX0_refusalToPass_1 : decode rX0_refusalToPass.2.1 1 = .ok (.iconst 1, 1) := by decide +kernel
theorem eX0_refusalToPass_2 : decode rX0_refusalToPass.2.1 2 = .ok (.if_icmp .lt 13, 3) := by decide +kernel
theorem eX0_refusalToPass_5 : decode rX0_refusalToPass.2.1 5 = .ok (.iload_n 1, 1) := by decide +kernel
theorem eX0_refusalToPass_6 : decode rX0_refusalToPass.2.1 6 = .ok (.bipush 30, 2) := by decide +kernel
theorem eX0_refusalToPass_8 : decode rX0_refusalToPass.2.1 8 = .ok (.if_icmp .gt 7, 3) := by decide +kernel
theorem eX0_refusalToPass_11 : decode rX0_refusalToPass.2.1 11 = .ok (.iconst 0, 1) := by decide +kernel
theorem eX0_refusalToPass_12 : decode rX0_refusalToPass.2.1 12 = .ok (.goto 4, 3) := by decide +kernel
theorem eX0_refusalToPass_15 : decode rX0_refusalToPass.2.1 15 = .ok (.iconst 2, 1) := by decide +kernel
theorem eX0_refusalToPass_16 : decode rX0_refusalToPass.2.1 16 = .ok (.ireturn, 1) := by decide +kernel
theorem eX0_letPass_0 : decode rX0_letPass.2.1 0 = .ok (.aload_n 0, 1) := by decide +kernel
theorem eX0_letPass_1 : decode rX0_letPass.2.1 1 = .ok (.getfield 26, 3) := by decide +kernel
theorem eX0_letPass_4 : decode rX0_letPass.2.1 4 = .ok (.getfield 115, 3) := by decide +kernel
theorem eX0_letPass_7 : decode rX0_letPass.2.1 7 = .ok (.istore_n 2, 1) := by decide +kernel
theorem eX0_letPass_8 : decode rX0_letPass.2.1 8 = .ok (.iconst 0, 1) := by decide +kernel
theorem eX0_letPass_9 : decode rX0_letPass.2.1 9 = .ok (.istore_n 3, 1) := by decide +kernel
theorem eX0_letPass_10 : decode rX0_letPass.2.1 10 = .ok (.iload_n 3, 1) := by decide +kernel
theorem eX0_letPass_11 : decode rX0_letPass.2.1 11 = .ok (.iload_n 1, 1) := by decide +kernel
theorem eX0_letPass_12 : decode rX0_letPass.2.1 12 = .ok (.if_icmp .ge 13, 3) := by decide +kernel
theorem eX0_letPass_15 : decode rX0_letPass.2.1 15 = .ok (.aload_n 0, 1) := by decide +kernel
theorem eX0_letPass_16 : decode rX0_letPass.2.1 16 = .ok (.invokevirtual 118, 3) := by decide +kernel
theorem eX0_letPass_19 : decode rX0_letPass.2.1 19 = .ok (.iinc 3 1, 3) := by decide +kernel
theorem eX0_letPass_22 : decode rX0_letPass.2.1 22 = .ok (.goto (-12), 3) := by decide +kernel
theorem eX0_letPass_25 : decode rX0_letPass.2.1 25 = .ok (.aload_n 0, 1) := by decide +kernel
theorem eX0_letPass_26 : decode rX0_letPass.2.1 26 = .ok (.getfield 26, 3) := by decide +kernel
theorem eX0_letPass_29 : decode rX0_letPass.2.1 29 = .ok (.getfield 115, 3) := by decide +kernel
theorem eX0_letPass_32 : decode rX0_letPass.2.1 32 = .ok (.iload_n 2, 1) := by decide +kernel
theorem eX0_letPass_33 : decode rX0_letPass.2.1 33 = .ok (.isub, 1) := by decide +kernel
theorem eX0_letPass_34 : decode rX0_letPass.2.1 34 = .ok (.ireturn, 1) := by decide +kernel
theorem eX0_refusalToPerform_0 : decode rX0_refusalToPerform.2.1 0 = .ok (.iload_n 1, 1) := by decide +kernel
theorem eX0_refusalToPerform_1 : decode rX0_refusalToPerform.2.1 1 = .ok (.tableswitch 111 0 6 #[43, 57, 65, 76, 84, 92, 103], 43) := by decide +kernel
theorem eX0_refusalToPerform_44 : decode rX0_refusalToPerform.2.1 44 = .ok (.aload_n 0, 1) := by decide +kernel
theorem eX0_refusalToPerform_45 : decode rX0_refusalToPerform.2.1 45 = .ok (.aload_n 2, 1) := by decide +kernel
theorem eX0_refusalToPerform_46 : decode rX0_refusalToPerform.2.1 46 = .ok (.iconst 0, 1) := by decide +kernel
theorem eX0_refusalToPerform_47 : decode rX0_refusalToPerform.2.1 47 = .ok (.iaload, 1) := by decide +kernel
theorem eX0_refusalToPerform_48 : decode rX0_refusalToPerform.2.1 48 = .ok (.aload_n 2, 1) := by decide +kernel
theorem eX0_refusalToPerform_49 : decode rX0_refusalToPerform.2.1 49 = .ok (.iconst 1, 1) := by decide +kernel
theorem eX0_refusalToPerform_50 : decode rX0_refusalToPerform.2.1 50 = .ok (.iaload, 1) := by decide +kernel
theorem eX0_refusalToPerform_51 : decode rX0_refusalToPerform.2.1 51 = .ok (.aload_n 2, 1) := by decide +kernel
theorem eX0_refusalToPerform_52 : decode rX0_refusalToPerform.2.1 52 = .ok (.iconst 2, 1) := by decide +kernel
theorem eX0_refusalToPerform_53 : decode rX0_refusalToPerform.2.1 53 = .ok (.iaload, 1) := by decide +kernel
theorem eX0_refusalToPerform_54 : decode rX0_refusalToPerform.2.1 54 = .ok (.invokevirtual 121, 3) := by decide +kernel
theorem eX0_refusalToPerform_57 : decode rX0_refusalToPerform.2.1 57 = .ok (.ireturn, 1) := by decide +kernel
theorem eX0_refusalToPerform_58 : decode rX0_refusalToPerform.2.1 58 = .ok (.aload_n 0, 1) := by decide +kernel
theorem eX0_refusalToPerform_59 : decode rX0_refusalToPerform.2.1 59 = .ok (.aload_n 2, 1) := by decide +kernel
theorem eX0_refusalToPerform_60 : decode rX0_refusalToPerform.2.1 60 = .ok (.iconst 0, 1) := by decide +kernel
theorem eX0_refusalToPerform_61 : decode rX0_refusalToPerform.2.1 61 = .ok (.iaload, 1) := by decide +kernel
theorem eX0_refusalToPerform_62 : decode rX0_refusalToPerform.2.1 62 = .ok (.invokevirtual 125, 3) := by decide +kernel
theorem eX0_refusalToPerform_65 : decode rX0_refusalToPerform.2.1 65 = .ok (.ireturn, 1) := by decide +kernel
theorem eX0_refusalToPerform_66 : decode rX0_refusalToPerform.2.1 66 = .ok (.aload_n 0, 1) := by decide +kernel
theorem eX0_refusalToPerform_67 : decode rX0_refusalToPerform.2.1 67 = .ok (.aload_n 2, 1) := by decide +kernel
theorem eX0_refusalToPerform_68 : decode rX0_refusalToPerform.2.1 68 = .ok (.iconst 0, 1) := by decide +kernel
theorem eX0_refusalToPerform_69 : decode rX0_refusalToPerform.2.1 69 = .ok (.iaload, 1) := by decide +kernel
theorem eX0_refusalToPerform_70 : decode rX0_refusalToPerform.2.1 70 = .ok (.aload_n 2, 1) := by decide +kernel
theorem eX0_refusalToPerform_71 : decode rX0_refusalToPerform.2.1 71 = .ok (.iconst 1, 1) := by decide +kernel
theorem eX0_refusalToPerform_72 : decode rX0_refusalToPerform.2.1 72 = .ok (.iaload, 1) := by decide +kernel
theorem eX0_refusalToPerform_73 : decode rX0_refusalToPerform.2.1 73 = .ok (.invokevirtual 129, 3) := by decide +kernel
theorem eX0_refusalToPerform_76 : decode rX0_refusalToPerform.2.1 76 = .ok (.ireturn, 1) := by decide +kernel
theorem eX0_refusalToPerform_77 : decode rX0_refusalToPerform.2.1 77 = .ok (.aload_n 0, 1) := by decide +kernel
theorem eX0_refusalToPerform_78 : decode rX0_refusalToPerform.2.1 78 = .ok (.aload_n 2, 1) := by decide +kernel
theorem eX0_refusalToPerform_79 : decode rX0_refusalToPerform.2.1 79 = .ok (.iconst 0, 1) := by decide +kernel
theorem eX0_refusalToPerform_80 : decode rX0_refusalToPerform.2.1 80 = .ok (.iaload, 1) := by decide +kernel
theorem eX0_refusalToPerform_81 : decode rX0_refusalToPerform.2.1 81 = .ok (.invokevirtual 132, 3) := by decide +kernel
theorem eX0_refusalToPerform_84 : decode rX0_refusalToPerform.2.1 84 = .ok (.ireturn, 1) := by decide +kernel
theorem eX0_refusalToPerform_85 : decode rX0_refusalToPerform.2.1 85 = .ok (.aload_n 0, 1) := by decide +kernel
theorem eX0_refusalToPerform_86 : decode rX0_refusalToPerform.2.1 86 = .ok (.aload_n 2, 1) := by decide +kernel
theorem eX0_refusalToPerform_87 : decode rX0_refusalToPerform.2.1 87 = .ok (.iconst 0, 1) := by decide +kernel
theorem eX0_refusalToPerform_88 : decode rX0_refusalToPerform.2.1 88 = .ok (.iaload, 1) := by decide +kernel
theorem eX0_refusalToPerform_89 : decode rX0_refusalToPerform.2.1 89 = .ok (.invokevirtual 135, 3) := by decide +kernel
theorem eX0_refusalToPerform_92 : decode rX0_refusalToPerform.2.1 92 = .ok (.ireturn, 1) := by decide +kernel
theorem eX0_refusalToPerform_93 : decode rX0_refusalToPerform.2.1 93 = .ok (.aload_n 0, 1) := by decide +kernel
theorem eX0_refusalToPerform_94 : decode rX0_refusalToPerform.2.1 94 = .ok (.aload_n 2, 1) := by decide +kernel
theorem eX0_refusalToPerform_95 : decode rX0_refusalToPerform.2.1 95 = .ok (.iconst 0, 1) := by decide +kernel
theorem eX0_refusalToPerform_96 : decode rX0_refusalToPerform.2.1 96 = .ok (.iaload, 1) := by decide +kernel
theorem eX0_refusalToPerform_97 : decode rX0_refusalToPerform.2.1 97 = .ok (.aload_n 2, 1) := by decide +kernel
theorem eX0_refusalToPerform_98 : decode rX0_refusalToPerform.2.1 98 = .ok (.iconst 1, 1) := by decide +kernel
theorem eX0_refusalToPerform_99 : decode rX0_refusalToPerform.2.1 99 = .ok (.iaload, 1) := by decide +kernel
theorem eX0_refusalToPerform_100 : decode rX0_refusalToPerform.2.1 100 = .ok (.invokevirtual 138, 3) := by decide +kernel
theorem eX0_refusalToPerform_103 : decode rX0_refusalToPerform.2.1 103 = .ok (.ireturn, 1) := by decide +kernel
theorem eX0_refusalToPerform_104 : decode rX0_refusalToPerform.2.1 104 = .ok (.aload_n 0, 1) := by decide +kernel
theorem eX0_refusalToPerform_105 : decode rX0_refusalToPerform.2.1 105 = .ok (.aload_n 2, 1) := by decide +kernel
theorem eX0_refusalToPerform_106 : decode rX0_refusalToPerform.2.1 106 = .ok (.iconst 0, 1) := by decide +kernel
theorem eX0_refusalToPerform_107 : decode rX0_refusalToPerform.2.1 107 = .ok (.iaload, 1) := by decide +kernel
theorem eX0_refusalToPerform_108 : decode rX0_refusalToPerform.2.1 108 = .ok (.invokevirtual 141, 3) := by decide +kernel
theorem eX0_refusalToPerform_111 : decode rX0_refusalToPerform.2.1 111 = .ok (.ireturn, 1) := by decide +kernel
theorem eX0_refusalToPerform_112 : decode rX0_refusalToPerform.2.1 112 = .ok (.iconst 0, 1) := by decide +kernel
theorem eX0_refusalToPerform_113 : decode rX0_refusalToPerform.2.1 113 = .ok (.ireturn, 1) := by decide +kernel
theorem eX0_perform_0 : decode rX0_perform.2.1 0 = .ok (.iload_n 1, 1) := by decide +kernel
theorem eX0_perform_1 : decode rX0_perform.2.1 1 = .ok (.tableswitch 111 0 6 #[43, 57, 65, 76, 84, 92, 103], 43) := by decide +kernel
theorem eX0_perform_44 : decode rX0_perform.2.1 44 = .ok (.aload_n 0, 1) := by decide +kernel
theorem eX0_perform_45 : decode rX0_perform.2.1 45 = .ok (.aload_n 2, 1) := by decide +kernel
theorem eX0_perform_46 : decode rX0_perform.2.1 46 = .ok (.iconst 0, 1) := by decide +kernel
theorem eX0_perform_47 : decode rX0_perform.2.1 47 = .ok (.iaload, 1) := by decide +kernel
theorem eX0_perform_48 : decode rX0_perform.2.1 48 = .ok (.aload_n 2, 1) := by decide +kernel
theorem eX0_perform_49 : decode rX0_perform.2.1 49 = .ok (.iconst 1, 1) := by decide +kernel
theorem eX0_perform_50 : decode rX0_perform.2.1 50 = .ok (.iaload, 1) := by decide +kernel
theorem eX0_perform_51 : decode rX0_perform.2.1 51 = .ok (.aload_n 2, 1) := by decide +kernel
theorem eX0_perform_52 : decode rX0_perform.2.1 52 = .ok (.iconst 2, 1) := by decide +kernel
theorem eX0_perform_53 : decode rX0_perform.2.1 53 = .ok (.iaload, 1) := by decide +kernel
theorem eX0_perform_54 : decode rX0_perform.2.1 54 = .ok (.invokevirtual 144, 3) := by decide +kernel
theorem eX0_perform_57 : decode rX0_perform.2.1 57 = .ok (.ireturn, 1) := by decide +kernel
theorem eX0_perform_58 : decode rX0_perform.2.1 58 = .ok (.aload_n 0, 1) := by decide +kernel
theorem eX0_perform_59 : decode rX0_perform.2.1 59 = .ok (.aload_n 2, 1) := by decide +kernel
theorem eX0_perform_60 : decode rX0_perform.2.1 60 = .ok (.iconst 0, 1) := by decide +kernel
theorem eX0_perform_61 : decode rX0_perform.2.1 61 = .ok (.iaload, 1) := by decide +kernel
theorem eX0_perform_62 : decode rX0_perform.2.1 62 = .ok (.invokevirtual 147, 3) := by decide +kernel
theorem eX0_perform_65 : decode rX0_perform.2.1 65 = .ok (.ireturn, 1) := by decide +kernel
theorem eX0_perform_66 : decode rX0_perform.2.1 66 = .ok (.aload_n 0, 1) := by decide +kernel
theorem eX0_perform_67 : decode rX0_perform.2.1 67 = .ok (.aload_n 2, 1) := by decide +kernel
theorem eX0_perform_68 : decode rX0_perform.2.1 68 = .ok (.iconst 0, 1) := by decide +kernel
theorem eX0_perform_69 : decode rX0_perform.2.1 69 = .ok (.iaload, 1) := by decide +kernel
theorem eX0_perform_70 : decode rX0_perform.2.1 70 = .ok (.aload_n 2, 1) := by decide +kernel
theorem eX0_perform_71 : decode rX0_perform.2.1 71 = .ok (.iconst 1, 1) := by decide +kernel
theorem eX0_perform_72 : decode rX0_perform.2.1 72 = .ok (.iaload, 1) := by decide +kernel
theorem eX0_perform_73 : decode rX0_perform.2.1 73 = .ok (.invokevirtual 150, 3) := by decide +kernel
theorem eX0_perform_76 : decode rX0_perform.2.1 76 = .ok (.ireturn, 1) := by decide +kernel
theorem eX0_perform_77 : decode rX0_perform.2.1 77 = .ok (.aload_n 0, 1) := by decide +kernel
theorem eX0_perform_78 : decode rX0_perform.2.1 78 = .ok (.aload_n 2, 1) := by decide +kernel
theorem eX0_perform_79 : decode rX0_perform.2.1 79 = .ok (.iconst 0, 1) := by decide +kernel
theorem eX0_perform_80 : decode rX0_perform.2.1 80 = .ok (.iaload, 1) := by decide +kernel
theorem eX0_perform_81 : decode rX0_perform.2.1 81 = .ok (.invokevirtual 153, 3) := by decide +kernel
theorem eX0_perform_84 : decode rX0_perform.2.1 84 = .ok (.ireturn, 1) := by decide +kernel
theorem eX0_perform_85 : decode rX0_perform.2.1 85 = .ok (.aload_n 0, 1) := by decide +kernel
theorem eX0_perform_86 : decode rX0_perform.2.1 86 = .ok (.aload_n 2, 1) := by decide +kernel
theorem eX0_perform_87 : decode rX0_perform.2.1 87 = .ok (.iconst 0, 1) := by decide +kernel
theorem eX0_perform_88 : decode rX0_perform.2.1 88 = .ok (.iaload, 1) := by decide +kernel
theorem eX0_perform_89 : decode rX0_perform.2.1 89 = .ok (.invokevirtual 156, 3) := by decide +kernel
theorem eX0_perform_92 : decode rX0_perform.2.1 92 = .ok (.ireturn, 1) := by decide +kernel
theorem eX0_perform_93 : decode rX0_perform.2.1 93 = .ok (.aload_n 0, 1) := by decide +kernel
theorem eX0_perform_94 : decode rX0_perform.2.1 94 = .ok (.aload_n 2, 1) := by decide +kernel
theorem eX0_perform_95 : decode rX0_perform.2.1 95 = .ok (.iconst 0, 1) := by decide +kernel
theorem eX0_perform_96 : decode rX0_perform.2.1 96 = .ok (.iaload, 1) := by decide +kernel
theorem eX0_perform_97 : decode rX0_perform.2.1 97 = .ok (.aload_n 2, 1) := by decide +kernel
theorem eX0_perform_98 : decode rX0_perform.2.1 98 = .ok (.iconst 1, 1) := by decide +kernel
theorem eX0_perform_99 : decode rX0_perform.2.1 99 = .ok (.iaload, 1) := by decide +kernel
theorem eX0_perform_100 : decode rX0_perform.2.1 100 = .ok (.invokevirtual 159, 3) := by decide +kernel
theorem eX0_perform_103 : decode rX0_perform.2.1 103 = .ok (.ireturn, 1) := by decide +kernel
theorem eX0_perform_104 : decode rX0_perform.2.1 104 = .ok (.aload_n 0, 1) := by decide +kernel
theorem eX0_perform_105 : decode rX0_perform.2.1 105 = .ok (.aload_n 2, 1) := by decide +kernel
theorem eX0_perform_106 : decode rX0_perform.2.1 106 = .ok (.iconst 0, 1) := by decide +kernel
theorem eX0_perform_107 : decode rX0_perform.2.1 107 = .ok (.iaload, 1) := by decide +kernel
theorem eX0_perform_108 : decode rX0_perform.2.1 108 = .ok (.invokevirtual 162, 3) := by decide +kernel
theorem eX0_perform_111 : decode rX0_perform.2.1 111 = .ok (.ireturn, 1) := by decide +kernel
theorem eX0_perform_112 : decode rX0_perform.2.1 112 = .ok (.aload_n 0, 1) := by decide +kernel
theorem eX0_perform_113 : decode rX0_perform.2.1 113 = .ok (.iconst 1, 1) := by decide +kernel
theorem eX0_perform_114 : decode rX0_perform.2.1 114 = .ok (.invokevirtual 162, 3) := by decide +kernel
theorem eX0_perform_117 : decode rX0_perform.2.1 117 = .ok (.ireturn, 1) := by decide +kernel
theorem eX0_step_0 : decode rX0_step.2.1 0 = .ok (.aload_n 0, 1) := by decide +kernel
theorem eX0_step_1 : decode rX0_step.2.1 1 = .ok (.dup, 1) := by decide +kernel
theorem eX0_step_2 : decode rX0_step.2.1 2 = .ok (.getfield 37, 3) := by decide +kernel
theorem eX0_step_5 : decode rX0_step.2.1 5 = .ok (.iconst 1, 1) := by decide +kernel
theorem eX0_step_6 : decode rX0_step.2.1 6 = .ok (.iadd, 1) := by decide +kernel
theorem eX0_step_7 : decode rX0_step.2.1 7 = .ok (.putfield 37, 3) := by decide +kernel
theorem eX0_step_10 : decode rX0_step.2.1 10 = .ok (.iconst 0, 1) := by decide +kernel
theorem eX0_step_11 : decode rX0_step.2.1 11 = .ok (.istore_n 1, 1) := by decide +kernel
theorem eX0_step_12 : decode rX0_step.2.1 12 = .ok (.iload_n 1, 1) := by decide +kernel
theorem eX0_step_13 : decode rX0_step.2.1 13 = .ok (.aload_n 0, 1) := by decide +kernel
theorem eX0_step_14 : decode rX0_step.2.1 14 = .ok (.getfield 30, 3) := by decide +kernel
theorem eX0_step_17 : decode rX0_step.2.1 17 = .ok (.if_icmp .ge 57, 3) := by decide +kernel
theorem eX0_step_20 : decode rX0_step.2.1 20 = .ok (.aload_n 0, 1) := by decide +kernel
theorem eX0_step_21 : decode rX0_step.2.1 21 = .ok (.getfield 19, 3) := by decide +kernel
theorem eX0_step_24 : decode rX0_step.2.1 24 = .ok (.iload_n 1, 1) := by decide +kernel
theorem eX0_step_25 : decode rX0_step.2.1 25 = .ok (.aaload, 1) := by decide +kernel
theorem eX0_step_26 : decode rX0_step.2.1 26 = .ok (.astore_n 2, 1) := by decide +kernel
theorem eX0_step_27 : decode rX0_step.2.1 27 = .ok (.aload_n 2, 1) := by decide +kernel
theorem eX0_step_28 : decode rX0_step.2.1 28 = .ok (.getfield 86, 3) := by decide +kernel
theorem eX0_step_31 : decode rX0_step.2.1 31 = .ok (.ifCond .ne 37, 3) := by decide +kernel
theorem eX0_step_34 : decode rX0_step.2.1 34 = .ok (.aload_n 2, 1) := by decide +kernel
theorem eX0_step_35 : decode rX0_step.2.1 35 = .ok (.getfield 94, 3) := by decide +kernel
theorem eX0_step_38 : decode rX0_step.2.1 38 = .ok (.iconst (-1), 1) := by decide +kernel
theorem eX0_step_39 : decode rX0_step.2.1 39 = .ok (.if_icmp .ne 19, 3) := by decide +kernel
theorem eX0_step_42 : decode rX0_step.2.1 42 = .ok (.aload_n 2, 1) := by decide +kernel
theorem eX0_step_43 : decode rX0_step.2.1 43 = .ok (.aload_n 0, 1) := by decide +kernel
theorem eX0_step_44 : decode rX0_step.2.1 44 = .ok (.aload_n 2, 1) := by decide +kernel
theorem eX0_step_45 : decode rX0_step.2.1 45 = .ok (.getfield 74, 3) := by decide +kernel
theorem eX0_step_48 : decode rX0_step.2.1 48 = .ok (.aload_n 2, 1) := by decide +kernel
theorem eX0_step_49 : decode rX0_step.2.1 49 = .ok (.getfield 80, 3) := by decide +kernel
theorem eX0_step_52 : decode rX0_step.2.1 52 = .ok (.invokevirtual 90, 3) := by decide +kernel
theorem eX0_step_55 : decode rX0_step.2.1 55 = .ok (.putfield 94, 3) := by decide +kernel
theorem eX0_step_58 : decode rX0_step.2.1 58 = .ok (.aload_n 2, 1) := by decide +kernel
theorem eX0_step_59 : decode rX0_step.2.1 59 = .ok (.dup, 1) := by decide +kernel
theorem eX0_step_60 : decode rX0_step.2.1 60 = .ok (.getfield 83, 3) := by decide +kernel
theorem eX0_step_63 : decode rX0_step.2.1 63 = .ok (.iconst 1, 1) := by decide +kernel
theorem eX0_step_64 : decode rX0_step.2.1 64 = .ok (.iadd, 1) := by decide +kernel
theorem eX0_step_65 : decode rX0_step.2.1 65 = .ok (.putfield 83, 3) := by decide +kernel
theorem eX0_step_68 : decode rX0_step.2.1 68 = .ok (.iinc 1 1, 3) := by decide +kernel
theorem eX0_step_71 : decode rX0_step.2.1 71 = .ok (.goto (-59), 3) := by decide +kernel
theorem eX0_step_74 : decode rX0_step.2.1 74 = .ok (.iconst 0, 1) := by decide +kernel
theorem eX0_step_75 : decode rX0_step.2.1 75 = .ok (.istore_n 1, 1) := by decide +kernel
theorem eX0_step_76 : decode rX0_step.2.1 76 = .ok (.iload_n 1, 1) := by decide +kernel
theorem eX0_step_77 : decode rX0_step.2.1 77 = .ok (.iconst 3, 1) := by decide +kernel
theorem eX0_step_78 : decode rX0_step.2.1 78 = .ok (.if_icmp .ge 26, 3) := by decide +kernel
theorem eX0_step_81 : decode rX0_step.2.1 81 = .ok (.aload_n 0, 1) := by decide +kernel
theorem eX0_step_82 : decode rX0_step.2.1 82 = .ok (.getfield 11, 3) := by decide +kernel
theorem eX0_step_85 : decode rX0_step.2.1 85 = .ok (.iload_n 1, 1) := by decide +kernel
theorem eX0_step_86 : decode rX0_step.2.1 86 = .ok (.aaload, 1) := by decide +kernel
theorem eX0_step_87 : decode rX0_step.2.1 87 = .ok (.getfield 106, 3) := by decide +kernel
theorem eX0_step_90 : decode rX0_step.2.1 90 = .ok (.ifCond .eq 8, 3) := by decide +kernel
theorem eX0_step_93 : decode rX0_step.2.1 93 = .ok (.aload_n 0, 1) := by decide +kernel
theorem eX0_step_94 : decode rX0_step.2.1 94 = .ok (.iload_n 1, 1) := by decide +kernel
theorem eX0_step_95 : decode rX0_step.2.1 95 = .ok (.invokevirtual 165, 3) := by decide +kernel
theorem eX0_step_98 : decode rX0_step.2.1 98 = .ok (.iinc 1 1, 3) := by decide +kernel
theorem eX0_step_101 : decode rX0_step.2.1 101 = .ok (.goto (-25), 3) := by decide +kernel
theorem eX0_step_104 : decode rX0_step.2.1 104 = .ok (.return_, 1) := by decide +kernel
theorem eX0_act_0 : decode rX0_act.2.1 0 = .ok (.aload_n 0, 1) := by decide +kernel
theorem eX0_act_1 : decode rX0_act.2.1 1 = .ok (.getfield 11, 3) := by decide +kernel
theorem eX0_act_4 : decode rX0_act.2.1 4 = .ok (.iload_n 1, 1) := by decide +kernel
theorem eX0_act_5 : decode rX0_act.2.1 5 = .ok (.aaload, 1) := by decide +kernel
theorem eX0_act_6 : decode rX0_act.2.1 6 = .ok (.astore_n 2, 1) := by decide +kernel
theorem eX0_act_7 : decode rX0_act.2.1 7 = .ok (.aload_n 2, 1) := by decide +kernel
theorem eX0_act_8 : decode rX0_act.2.1 8 = .ok (.getfield 103, 3) := by decide +kernel
theorem eX0_act_11 : decode rX0_act.2.1 11 = .ok (.ifCond .le 14, 3) := by decide +kernel
theorem eX0_act_14 : decode rX0_act.2.1 14 = .ok (.aload_n 2, 1) := by decide +kernel
theorem eX0_act_15 : decode rX0_act.2.1 15 = .ok (.dup, 1) := by decide +kernel
theorem eX0_act_16 : decode rX0_act.2.1 16 = .ok (.getfield 103, 3) := by decide +kernel
theorem eX0_act_19 : decode rX0_act.2.1 19 = .ok (.iconst 1, 1) := by decide +kernel
theorem eX0_act_20 : decode rX0_act.2.1 20 = .ok (.isub, 1) := by decide +kernel
theorem eX0_act_21 : decode rX0_act.2.1 21 = .ok (.putfield 103, 3) := by decide +kernel
theorem eX0_act_24 : decode rX0_act.2.1 24 = .ok (.return_, 1) := by decide +kernel
theorem eX0_act_25 : decode rX0_act.2.1 25 = .ok (.aload_n 0, 1) := by decide +kernel
theorem eX0_act_26 : decode rX0_act.2.1 26 = .ok (.iload_n 1, 1) := by decide +kernel
theorem eX0_act_27 : decode rX0_act.2.1 27 = .ok (.invokevirtual 169, 3) := by decide +kernel
theorem eX0_act_30 : decode rX0_act.2.1 30 = .ok (.istore_n 3, 1) := by decide +kernel
theorem eX0_act_31 : decode rX0_act.2.1 31 = .ok (.iload_n 3, 1) := by decide +kernel
theorem eX0_act_32 : decode rX0_act.2.1 32 = .ok (.aload_n 2, 1) := by decide +kernel
theorem eX0_act_33 : decode rX0_act.2.1 33 = .ok (.getfield 172, 3) := by decide +kernel
theorem eX0_act_36 : decode rX0_act.2.1 36 = .ok (.invokestatic 175, 3) := by decide +kernel
theorem eX0_act_39 : decode rX0_act.2.1 39 = .ok (.ifCond .eq 39, 3) := by decide +kernel
theorem eX0_act_42 : decode rX0_act.2.1 42 = .ok (.aload_n 2, 1) := by decide +kernel
theorem eX0_act_43 : decode rX0_act.2.1 43 = .ok (.iconst 2, 1) := by decide +kernel
theorem eX0_act_44 : decode rX0_act.2.1 44 = .ok (.putfield 103, 3) := by decide +kernel
theorem eX0_act_47 : decode rX0_act.2.1 47 = .ok (.aload_n 2, 1) := by decide +kernel
theorem eX0_act_48 : decode rX0_act.2.1 48 = .ok (.dup, 1) := by decide +kernel
theorem eX0_act_49 : decode rX0_act.2.1 49 = .ok (.getfield 179, 3) := by decide +kernel
theorem eX0_act_52 : decode rX0_act.2.1 52 = .ok (.iconst 1, 1) := by decide +kernel
theorem eX0_act_53 : decode rX0_act.2.1 53 = .ok (.iadd, 1) := by decide +kernel
theorem eX0_act_54 : decode rX0_act.2.1 54 = .ok (.putfield 179, 3) := by decide +kernel
theorem eX0_act_57 : decode rX0_act.2.1 57 = .ok (.aload_n 0, 1) := by decide +kernel
theorem eX0_act_58 : decode rX0_act.2.1 58 = .ok (.dup, 1) := by decide +kernel
theorem eX0_act_59 : decode rX0_act.2.1 59 = .ok (.getfield 49, 3) := by decide +kernel
theorem eX0_act_62 : decode rX0_act.2.1 62 = .ok (.iconst 1, 1) := by decide +kernel
theorem eX0_act_63 : decode rX0_act.2.1 63 = .ok (.iadd, 1) := by decide +kernel
theorem eX0_act_64 : decode rX0_act.2.1 64 = .ok (.putfield 49, 3) := by decide +kernel
theorem eX0_act_67 : decode rX0_act.2.1 67 = .ok (.aload_n 0, 1) := by decide +kernel
theorem eX0_act_68 : decode rX0_act.2.1 68 = .ok (.iload_n 1, 1) := by decide +kernel
theorem eX0_act_69 : decode rX0_act.2.1 69 = .ok (.invokevirtual 182, 3) := by decide +kernel
theorem eX0_act_72 : decode rX0_act.2.1 72 = .ok (.aload_n 0, 1) := by decide +kernel
theorem eX0_act_73 : decode rX0_act.2.1 73 = .ok (.iload_n 1, 1) := by decide +kernel
theorem eX0_act_74 : decode rX0_act.2.1 74 = .ok (.invokevirtual 185, 3) := by decide +kernel
theorem eX0_act_77 : decode rX0_act.2.1 77 = .ok (.return_, 1) := by decide +kernel
theorem eX0_act_78 : decode rX0_act.2.1 78 = .ok (.aload_n 2, 1) := by decide +kernel
theorem eX0_act_79 : decode rX0_act.2.1 79 = .ok (.aload_n 2, 1) := by decide +kernel
theorem eX0_act_80 : decode rX0_act.2.1 80 = .ok (.iload_n 3, 1) := by decide +kernel
theorem eX0_act_81 : decode rX0_act.2.1 81 = .ok (.invokestatic 188, 3) := by decide +kernel
theorem eX0_act_84 : decode rX0_act.2.1 84 = .ok (.putfield 192, 3) := by decide +kernel
theorem eX0_act_87 : decode rX0_act.2.1 87 = .ok (.aload_n 0, 1) := by decide +kernel
theorem eX0_act_88 : decode rX0_act.2.1 88 = .ok (.aload_n 2, 1) := by decide +kernel
theorem eX0_act_89 : decode rX0_act.2.1 89 = .ok (.invokevirtual 195, 3) := by decide +kernel
theorem eX0_act_92 : decode rX0_act.2.1 92 = .ok (.return_, 1) := by decide +kernel
theorem eX0_letOut_0 : decode rX0_letOut.2.1 0 = .ok (.aload_n 0, 1) := by decide +kernel
theorem eX0_letOut_1 : decode rX0_letOut.2.1 1 = .ok (.getfield 11, 3) := by decide +kernel
theorem eX0_letOut_4 : decode rX0_letOut.2.1 4 = .ok (.iload_n 1, 1) := by decide +kernel
theorem eX0_letOut_5 : decode rX0_letOut.2.1 5 = .ok (.aaload, 1) := by decide +kernel
theorem eX0_letOut_6 : decode rX0_letOut.2.1 6 = .ok (.astore_n 2, 1) := by decide +kernel
theorem eX0_letOut_7 : decode rX0_letOut.2.1 7 = .ok (.iconst 0, 1) := by decide +kernel
theorem eX0_letOut_8 : decode rX0_letOut.2.1 8 = .ok (.istore_n 3, 1) := by decide +kernel
theorem eX0_letOut_9 : decode rX0_letOut.2.1 9 = .ok (.iconst 0, 1) := by decide +kernel
theorem eX0_letOut_10 : decode rX0_letOut.2.1 10 = .ok (.istore 4, 2) := by decide +kernel
theorem eX0_letOut_12 : decode rX0_letOut.2.1 12 = .ok (.iload 4, 2) := by decide +kernel
theorem eX0_letOut_14 : decode rX0_letOut.2.1 14 = .ok (.aload_n 0, 1) := by decide +kernel
theorem eX0_letOut_15 : decode rX0_letOut.2.1 15 = .ok (.getfield 30, 3) := by decide +kernel
theorem eX0_letOut_18 : decode rX0_letOut.2.1 18 = .ok (.if_icmp .ge 116, 3) := by decide +kernel
theorem eX0_letOut_21 : decode rX0_letOut.2.1 21 = .ok (.aload_n 0, 1) := by decide +kernel
theorem eX0_letOut_22 : decode rX0_letOut.2.1 22 = .ok (.getfield 19, 3) := by decide +kernel
theorem eX0_letOut_25 : decode rX0_letOut.2.1 25 = .ok (.iload 4, 2) := by decide +kernel
theorem eX0_letOut_27 : decode rX0_letOut.2.1 27 = .ok (.aaload, 1) := by decide +kernel
theorem eX0_letOut_28 : decode rX0_letOut.2.1 28 = .ok (.astore 5, 2) := by decide +kernel
theorem eX0_letOut_30 : decode rX0_letOut.2.1 30 = .ok (.aload 5, 2) := by decide +kernel
theorem eX0_letOut_32 : decode rX0_letOut.2.1 32 = .ok (.getfield 86, 3) := by decide +kernel
theorem eX0_letOut_35 : decode rX0_letOut.2.1 35 = .ok (.ifCond .eq 69, 3) := by decide +kernel
theorem eX0_letOut_38 : decode rX0_letOut.2.1 38 = .ok (.aload 5, 2) := by decide +kernel
theorem eX0_letOut_40 : decode rX0_letOut.2.1 40 = .ok (.getfield 94, 3) := by decide +kernel
theorem eX0_letOut_43 : decode rX0_letOut.2.1 43 = .ok (.iload_n 1, 1) := by decide +kernel
theorem eX0_letOut_44 : decode rX0_letOut.2.1 44 = .ok (.if_icmp .ne 60, 3) := by decide +kernel
theorem eX0_letOut_47 : decode rX0_letOut.2.1 47 = .ok (.aload 5, 2) := by decide +kernel
theorem eX0_letOut_49 : decode rX0_letOut.2.1 49 = .ok (.getfield 77, 3) := by decide +kernel
theorem eX0_letOut_52 : decode rX0_letOut.2.1 52 = .ok (.aload_n 2, 1) := by decide +kernel
theorem eX0_letOut_53 : decode rX0_letOut.2.1 53 = .ok (.getfield 172, 3) := by decide +kernel
theorem eX0_letOut_56 : decode rX0_letOut.2.1 56 = .ok (.if_icmp .ne 48, 3) := by decide +kernel
theorem eX0_letOut_59 : decode rX0_letOut.2.1 59 = .ok (.aload_n 2, 1) := by decide +kernel
theorem eX0_letOut_60 : decode rX0_letOut.2.1 60 = .ok (.dup, 1) := by decide +kernel
theorem eX0_letOut_61 : decode rX0_letOut.2.1 61 = .ok (.getfield 109, 3) := by decide +kernel
theorem eX0_letOut_64 : decode rX0_letOut.2.1 64 = .ok (.aload 5, 2) := by decide +kernel
theorem eX0_letOut_66 : decode rX0_letOut.2.1 66 = .ok (.getfield 80, 3) := by decide +kernel
theorem eX0_letOut_69 : decode rX0_letOut.2.1 69 = .ok (.isub, 1) := by decide +kernel
theorem eX0_letOut_70 : decode rX0_letOut.2.1 70 = .ok (.putfield 109, 3) := by decide +kernel
theorem eX0_letOut_73 : decode rX0_letOut.2.1 73 = .ok (.aload_n 2, 1) := by decide +kernel
theorem eX0_letOut_74 : decode rX0_letOut.2.1 74 = .ok (.dup, 1) := by decide +kernel
theorem eX0_letOut_75 : decode rX0_letOut.2.1 75 = .ok (.getfield 198, 3) := by decide +kernel
theorem eX0_letOut_78 : decode rX0_letOut.2.1 78 = .ok (.iconst 1, 1) := by decide +kernel
theorem eX0_letOut_79 : decode rX0_letOut.2.1 79 = .ok (.isub, 1) := by decide +kernel
theorem eX0_letOut_80 : decode rX0_letOut.2.1 80 = .ok (.putfield 198, 3) := by decide +kernel
theorem eX0_letOut_83 : decode rX0_letOut.2.1 83 = .ok (.aload_n 0, 1) := by decide +kernel
theorem eX0_letOut_84 : decode rX0_letOut.2.1 84 = .ok (.getfield 26, 3) := by decide +kernel
theorem eX0_letOut_87 : decode rX0_letOut.2.1 87 = .ok (.aload 5, 2) := by decide +kernel
theorem eX0_letOut_89 : decode rX0_letOut.2.1 89 = .ok (.getfield 71, 3) := by decide +kernel
theorem eX0_letOut_92 : decode rX0_letOut.2.1 92 = .ok (.iload_n 1, 1) := by decide +kernel
theorem eX0_letOut_93 : decode rX0_letOut.2.1 93 = .ok (.aload 5, 2) := by decide +kernel
theorem eX0_letOut_95 : decode rX0_letOut.2.1 95 = .ok (.getfield 83, 3) := by decide +kernel
theorem eX0_letOut_98 : decode rX0_letOut.2.1 98 = .ok (.invokevirtual 201, 3) := by decide +kernel
theorem eX0_letOut_101 : decode rX0_letOut.2.1 101 = .ok (.goto 27, 3) := by decide +kernel
theorem eX0_letOut_104 : decode rX0_letOut.2.1 104 = .ok (.aload_n 0, 1) := by decide +kernel
theorem eX0_letOut_105 : decode rX0_letOut.2.1 105 = .ok (.getfield 19, 3) := by decide +kernel
theorem eX0_letOut_108 : decode rX0_letOut.2.1 108 = .ok (.iload 4, 2) := by decide +kernel
theorem eX0_letOut_110 : decode rX0_letOut.2.1 110 = .ok (.aload_n 0, 1) := by decide +kernel
theorem eX0_letOut_111 : decode rX0_letOut.2.1 111 = .ok (.getfield 19, 3) := by decide +kernel
theorem eX0_letOut_114 : decode rX0_letOut.2.1 114 = .ok (.iload_n 3, 1) := by decide +kernel
theorem eX0_letOut_115 : decode rX0_letOut.2.1 115 = .ok (.aaload, 1) := by decide +kernel
theorem eX0_letOut_116 : decode rX0_letOut.2.1 116 = .ok (.aastore, 1) := by decide +kernel
theorem eX0_letOut_117 : decode rX0_letOut.2.1 117 = .ok (.aload_n 0, 1) := by decide +kernel
theorem eX0_letOut_118 : decode rX0_letOut.2.1 118 = .ok (.getfield 19, 3) := by decide +kernel
theorem eX0_letOut_121 : decode rX0_letOut.2.1 121 = .ok (.iload_n 3, 1) := by decide +kernel
theorem eX0_letOut_122 : decode rX0_letOut.2.1 122 = .ok (.aload 5, 2) := by decide +kernel
theorem eX0_letOut_124 : decode rX0_letOut.2.1 124 = .ok (.aastore, 1) := by decide +kernel
theorem eX0_letOut_125 : decode rX0_letOut.2.1 125 = .ok (.iinc 3 1, 3) := by decide +kernel
theorem eX0_letOut_128 : decode rX0_letOut.2.1 128 = .ok (.iinc 4 1, 3) := by decide +kernel
theorem eX0_letOut_131 : decode rX0_letOut.2.1 131 = .ok (.goto (-119), 3) := by decide +kernel
theorem eX0_letOut_134 : decode rX0_letOut.2.1 134 = .ok (.aload_n 0, 1) := by decide +kernel
theorem eX0_letOut_135 : decode rX0_letOut.2.1 135 = .ok (.iload_n 3, 1) := by decide +kernel
theorem eX0_letOut_136 : decode rX0_letOut.2.1 136 = .ok (.putfield 30, 3) := by decide +kernel
theorem eX0_letOut_139 : decode rX0_letOut.2.1 139 = .ok (.return_, 1) := by decide +kernel
theorem eX0_letIn_0 : decode rX0_letIn.2.1 0 = .ok (.aload_n 0, 1) := by decide +kernel
theorem eX0_letIn_1 : decode rX0_letIn.2.1 1 = .ok (.getfield 11, 3) := by decide +kernel
theorem eX0_letIn_4 : decode rX0_letIn.2.1 4 = .ok (.iload_n 1, 1) := by decide +kernel
theorem eX0_letIn_5 : decode rX0_letIn.2.1 5 = .ok (.aaload, 1) := by decide +kernel
theorem eX0_letIn_6 : decode rX0_letIn.2.1 6 = .ok (.astore_n 2, 1) := by decide +kernel
theorem eX0_letIn_7 : decode rX0_letIn.2.1 7 = .ok (.iconst 0, 1) := by decide +kernel
theorem eX0_letIn_8 : decode rX0_letIn.2.1 8 = .ok (.istore_n 3, 1) := by decide +kernel
theorem eX0_letIn_9 : decode rX0_letIn.2.1 9 = .ok (.iload_n 3, 1) := by decide +kernel
theorem eX0_letIn_10 : decode rX0_letIn.2.1 10 = .ok (.aload_n 0, 1) := by decide +kernel
theorem eX0_letIn_11 : decode rX0_letIn.2.1 11 = .ok (.getfield 30, 3) := by decide +kernel
theorem eX0_letIn_14 : decode rX0_letIn.2.1 14 = .ok (.if_icmp .ge 105, 3) := by decide +kernel
theorem eX0_letIn_17 : decode rX0_letIn.2.1 17 = .ok (.aload_n 0, 1) := by decide +kernel
theorem eX0_letIn_18 : decode rX0_letIn.2.1 18 = .ok (.getfield 19, 3) := by decide +kernel
theorem eX0_letIn_21 : decode rX0_letIn.2.1 21 = .ok (.iload_n 3, 1) := by decide +kernel
theorem eX0_letIn_22 : decode rX0_letIn.2.1 22 = .ok (.aaload, 1) := by decide +kernel
theorem eX0_letIn_23 : decode rX0_letIn.2.1 23 = .ok (.astore 4, 2) := by decide +kernel
theorem eX0_letIn_25 : decode rX0_letIn.2.1 25 = .ok (.aload 4, 2) := by decide +kernel
theorem eX0_letIn_27 : decode rX0_letIn.2.1 27 = .ok (.getfield 86, 3) := by decide +kernel
theorem eX0_letIn_30 : decode rX0_letIn.2.1 30 = .ok (.ifCond .ne 83, 3) := by decide +kernel
theorem eX0_letIn_33 : decode rX0_letIn.2.1 33 = .ok (.aload 4, 2) := by decide +kernel
theorem eX0_letIn_35 : decode rX0_letIn.2.1 35 = .ok (.getfield 94, 3) := by decide +kernel
theorem eX0_letIn_38 : decode rX0_letIn.2.1 38 = .ok (.iload_n 1, 1) := by decide +kernel
theorem eX0_letIn_39 : decode rX0_letIn.2.1 39 = .ok (.if_icmp .ne 74, 3) := by decide +kernel
theorem eX0_letIn_42 : decode rX0_letIn.2.1 42 = .ok (.aload 4, 2) := by decide +kernel
theorem eX0_letIn_44 : decode rX0_letIn.2.1 44 = .ok (.getfield 74, 3) := by decide +kernel
theorem eX0_letIn_47 : decode rX0_letIn.2.1 47 = .ok (.aload_n 2, 1) := by decide +kernel
theorem eX0_letIn_48 : decode rX0_letIn.2.1 48 = .ok (.getfield 172, 3) := by decide +kernel
theorem eX0_letIn_51 : decode rX0_letIn.2.1 51 = .ok (.if_icmp .eq 6, 3) := by decide +kernel
theorem eX0_letIn_54 : decode rX0_letIn.2.1 54 = .ok (.goto 59, 3) := by decide +kernel
theorem eX0_letIn_57 : decode rX0_letIn.2.1 57 = .ok (.aload_n 2, 1) := by decide +kernel
theorem eX0_letIn_58 : decode rX0_letIn.2.1 58 = .ok (.getfield 109, 3) := by decide +kernel
theorem eX0_letIn_61 : decode rX0_letIn.2.1 61 = .ok (.aload 4, 2) := by decide +kernel
theorem eX0_letIn_63 : decode rX0_letIn.2.1 63 = .ok (.getfield 80, 3) := by decide +kernel
theorem eX0_letIn_66 : decode rX0_letIn.2.1 66 = .ok (.iadd, 1) := by decide +kernel
theorem eX0_letIn_67 : decode rX0_letIn.2.1 67 = .ok (.aload_n 2, 1) := by decide +kernel
theorem eX0_letIn_68 : decode rX0_letIn.2.1 68 = .ok (.getfield 112, 3) := by decide +kernel
theorem eX0_letIn_71 : decode rX0_letIn.2.1 71 = .ok (.if_icmp .gt 36, 3) := by decide +kernel
theorem eX0_letIn_74 : decode rX0_letIn.2.1 74 = .ok (.aload 4, 2) := by decide +kernel
theorem eX0_letIn_76 : decode rX0_letIn.2.1 76 = .ok (.iconst 1, 1) := by decide +kernel
theorem eX0_letIn_77 : decode rX0_letIn.2.1 77 = .ok (.putfield 86, 3) := by decide +kernel
theorem eX0_letIn_80 : decode rX0_letIn.2.1 80 = .ok (.aload_n 2, 1) := by decide +kernel
theorem eX0_letIn_81 : decode rX0_letIn.2.1 81 = .ok (.dup, 1) := by decide +kernel
theorem eX0_letIn_82 : decode rX0_letIn.2.1 82 = .ok (.getfield 109, 3) := by decide +kernel
theorem eX0_letIn_85 : decode rX0_letIn.2.1 85 = .ok (.aload 4, 2) := by decide +kernel
theorem eX0_letIn_87 : decode rX0_letIn.2.1 87 = .ok (.getfield 80, 3) := by decide +kernel
theorem eX0_letIn_90 : decode rX0_letIn.2.1 90 = .ok (.iadd, 1) := by decide +kernel
theorem eX0_letIn_91 : decode rX0_letIn.2.1 91 = .ok (.putfield 109, 3) := by decide +kernel
theorem eX0_letIn_94 : decode rX0_letIn.2.1 94 = .ok (.aload_n 2, 1) := by decide +kernel
theorem eX0_letIn_95 : decode rX0_letIn.2.1 95 = .ok (.dup, 1) := by decide +kernel
theorem eX0_letIn_96 : decode rX0_letIn.2.1 96 = .ok (.getfield 198, 3) := by decide +kernel
theorem eX0_letIn_99 : decode rX0_letIn.2.1 99 = .ok (.iconst 1, 1) := by decide +kernel
theorem eX0_letIn_100 : decode rX0_letIn.2.1 100 = .ok (.iadd, 1) := by decide +kernel
theorem eX0_letIn_101 : decode rX0_letIn.2.1 101 = .ok (.putfield 198, 3) := by decide +kernel
theorem eX0_letIn_104 : decode rX0_letIn.2.1 104 = .ok (.goto 9, 3) := by decide +kernel
theorem eX0_letIn_107 : decode rX0_letIn.2.1 107 = .ok (.aload 4, 2) := by decide +kernel
theorem eX0_letIn_109 : decode rX0_letIn.2.1 109 = .ok (.iconst (-1), 1) := by decide +kernel
theorem eX0_letIn_110 : decode rX0_letIn.2.1 110 = .ok (.putfield 94, 3) := by decide +kernel
theorem eX0_letIn_113 : decode rX0_letIn.2.1 113 = .ok (.iinc 3 1, 3) := by decide +kernel
theorem eX0_letIn_116 : decode rX0_letIn.2.1 116 = .ok (.goto (-107), 3) := by decide +kernel
theorem eX0_letIn_119 : decode rX0_letIn.2.1 119 = .ok (.return_, 1) := by decide +kernel
theorem eX0_move_0 : decode rX0_move.2.1 0 = .ok (.aload_n 1, 1) := by decide +kernel
theorem eX0_move_1 : decode rX0_move.2.1 1 = .ok (.dup, 1) := by decide +kernel
theorem eX0_move_2 : decode rX0_move.2.1 2 = .ok (.getfield 172, 3) := by decide +kernel
theorem eX0_move_5 : decode rX0_move.2.1 5 = .ok (.aload_n 1, 1) := by decide +kernel
theorem eX0_move_6 : decode rX0_move.2.1 6 = .ok (.getfield 192, 3) := by decide +kernel
theorem eX0_move_9 : decode rX0_move.2.1 9 = .ok (.iadd, 1) := by decide +kernel
theorem eX0_move_10 : decode rX0_move.2.1 10 = .ok (.putfield 172, 3) := by decide +kernel
theorem eX0_move_13 : decode rX0_move.2.1 13 = .ok (.aload_n 1, 1) := by decide +kernel
theorem eX0_move_14 : decode rX0_move.2.1 14 = .ok (.getfield 192, 3) := by decide +kernel
theorem eX0_move_17 : decode rX0_move.2.1 17 = .ok (.iconst 1, 1) := by decide +kernel
theorem eX0_move_18 : decode rX0_move.2.1 18 = .ok (.if_icmp .ne 46, 3) := by decide +kernel
theorem eX0_move_21 : decode rX0_move.2.1 21 = .ok (.aload_n 1, 1) := by decide +kernel
theorem eX0_move_22 : decode rX0_move.2.1 22 = .ok (.getfield 109, 3) := by decide +kernel
theorem eX0_move_25 : decode rX0_move.2.1 25 = .ok (.bipush 100, 2) := by decide +kernel
theorem eX0_move_27 : decode rX0_move.2.1 27 = .ok (.idiv, 1) := by decide +kernel
theorem eX0_move_28 : decode rX0_move.2.1 28 = .ok (.istore_n 2, 1) := by decide +kernel
theorem eX0_move_29 : decode rX0_move.2.1 29 = .ok (.aload_n 1, 1) := by decide +kernel
theorem eX0_move_30 : decode rX0_move.2.1 30 = .ok (.dup, 1) := by decide +kernel
theorem eX0_move_31 : decode rX0_move.2.1 31 = .ok (.getfield 179, 3) := by decide +kernel
theorem eX0_move_34 : decode rX0_move.2.1 34 = .ok (.iconst 2, 1) := by decide +kernel
theorem eX0_move_35 : decode rX0_move.2.1 35 = .ok (.iload_n 2, 1) := by decide +kernel
theorem eX0_move_36 : decode rX0_move.2.1 36 = .ok (.iadd, 1) := by decide +kernel
theorem eX0_move_37 : decode rX0_move.2.1 37 = .ok (.iadd, 1) := by decide +kernel
theorem eX0_move_38 : decode rX0_move.2.1 38 = .ok (.putfield 179, 3) := by decide +kernel
theorem eX0_move_41 : decode rX0_move.2.1 41 = .ok (.aload_n 0, 1) := by decide +kernel
theorem eX0_move_42 : decode rX0_move.2.1 42 = .ok (.dup, 1) := by decide +kernel
theorem eX0_move_43 : decode rX0_move.2.1 43 = .ok (.getfield 40, 3) := by decide +kernel
theorem eX0_move_46 : decode rX0_move.2.1 46 = .ok (.iconst 1, 1) := by decide +kernel
theorem eX0_move_47 : decode rX0_move.2.1 47 = .ok (.iadd, 1) := by decide +kernel
theorem eX0_move_48 : decode rX0_move.2.1 48 = .ok (.putfield 40, 3) := by decide +kernel
theorem eX0_move_51 : decode rX0_move.2.1 51 = .ok (.aload_n 0, 1) := by decide +kernel
theorem eX0_move_52 : decode rX0_move.2.1 52 = .ok (.dup, 1) := by decide +kernel
theorem eX0_move_53 : decode rX0_move.2.1 53 = .ok (.getfield 46, 3) := by decide +kernel
theorem eX0_move_56 : decode rX0_move.2.1 56 = .ok (.iload_n 2, 1) := by decide +kernel
theorem eX0_move_57 : decode rX0_move.2.1 57 = .ok (.iadd, 1) := by decide +kernel
theorem eX0_move_58 : decode rX0_move.2.1 58 = .ok (.putfield 46, 3) := by decide +kernel
theorem eX0_move_61 : decode rX0_move.2.1 61 = .ok (.goto 31, 3) := by decide +kernel
theorem eX0_move_64 : decode rX0_move.2.1 64 = .ok (.aload_n 1, 1) := by decide +kernel
theorem eX0_move_65 : decode rX0_move.2.1 65 = .ok (.getfield 192, 3) := by decide +kernel
theorem eX0_move_68 : decode rX0_move.2.1 68 = .ok (.iconst (-1), 1) := by decide +kernel
theorem eX0_move_69 : decode rX0_move.2.1 69 = .ok (.if_icmp .ne 23, 3) := by decide +kernel
theorem eX0_move_72 : decode rX0_move.2.1 72 = .ok (.aload_n 1, 1) := by decide +kernel
theorem eX0_move_73 : decode rX0_move.2.1 73 = .ok (.dup, 1) := by decide +kernel
theorem eX0_move_74 : decode rX0_move.2.1 74 = .ok (.getfield 179, 3) := by decide +kernel
theorem eX0_move_77 : decode rX0_move.2.1 77 = .ok (.iconst 1, 1) := by decide +kernel
theorem eX0_move_78 : decode rX0_move.2.1 78 = .ok (.iadd, 1) := by decide +kernel
theorem eX0_move_79 : decode rX0_move.2.1 79 = .ok (.putfield 179, 3) := by decide +kernel
theorem eX0_move_82 : decode rX0_move.2.1 82 = .ok (.aload_n 0, 1) := by decide +kernel
theorem eX0_move_83 : decode rX0_move.2.1 83 = .ok (.dup, 1) := by decide +kernel
theorem eX0_move_84 : decode rX0_move.2.1 84 = .ok (.getfield 43, 3) := by decide +kernel
theorem eX0_move_87 : decode rX0_move.2.1 87 = .ok (.iconst 1, 1) := by decide +kernel
theorem eX0_move_88 : decode rX0_move.2.1 88 = .ok (.iadd, 1) := by decide +kernel
theorem eX0_move_89 : decode rX0_move.2.1 89 = .ok (.putfield 43, 3) := by decide +kernel
theorem eX0_move_92 : decode rX0_move.2.1 92 = .ok (.return_, 1) := by decide +kernel
theorem eX0_stopsOf_0 : decode rX0_stopsOf.2.1 0 = .ok (.iconst 0, 1) := by decide +kernel
theorem eX0_stopsOf_1 : decode rX0_stopsOf.2.1 1 = .ok (.istore_n 2, 1) := by decide +kernel
theorem eX0_stopsOf_2 : decode rX0_stopsOf.2.1 2 = .ok (.iconst 0, 1) := by decide +kernel
theorem eX0_stopsOf_3 : decode rX0_stopsOf.2.1 3 = .ok (.istore_n 3, 1) := by decide +kernel
theorem eX0_stopsOf_4 : decode rX0_stopsOf.2.1 4 = .ok (.iload_n 3, 1) := by decide +kernel
theorem eX0_stopsOf_5 : decode rX0_stopsOf.2.1 5 = .ok (.aload_n 0, 1) := by decide +kernel
theorem eX0_stopsOf_6 : decode rX0_stopsOf.2.1 6 = .ok (.getfield 30, 3) := by decide +kernel
theorem eX0_stopsOf_9 : decode rX0_stopsOf.2.1 9 = .ok (.if_icmp .ge 52, 3) := by decide +kernel
theorem eX0_stopsOf_12 : decode rX0_stopsOf.2.1 12 = .ok (.aload_n 0, 1) := by decide +kernel
theorem eX0_stopsOf_13 : decode rX0_stopsOf.2.1 13 = .ok (.getfield 19, 3) := by decide +kernel
theorem eX0_stopsOf_16 : decode rX0_stopsOf.2.1 16 = .ok (.iload_n 3, 1) := by decide +kernel
theorem eX0_stopsOf_17 : decode rX0_stopsOf.2.1 17 = .ok (.aaload, 1) := by decide +kernel
theorem eX0_stopsOf_18 : decode rX0_stopsOf.2.1 18 = .ok (.astore 4, 2) := by decide +kernel
theorem eX0_stopsOf_20 : decode rX0_stopsOf.2.1 20 = .ok (.aload 4, 2) := by decide +kernel
theorem eX0_stopsOf_22 : decode rX0_stopsOf.2.1 22 = .ok (.getfield 94, 3) := by decide +kernel
theorem eX0_stopsOf_25 : decode rX0_stopsOf.2.1 25 = .ok (.iload_n 1, 1) := by decide +kernel
theorem eX0_stopsOf_26 : decode rX0_stopsOf.2.1 26 = .ok (.if_icmp .ne 29, 3) := by decide +kernel
theorem eX0_stopsOf_29 : decode rX0_stopsOf.2.1 29 = .ok (.iload_n 2, 1) := by decide +kernel
theorem eX0_stopsOf_30 : decode rX0_stopsOf.2.1 30 = .ok (.iconst 1, 1) := by decide +kernel
theorem eX0_stopsOf_31 : decode rX0_stopsOf.2.1 31 = .ok (.aload 4, 2) := by decide +kernel
theorem eX0_stopsOf_33 : decode rX0_stopsOf.2.1 33 = .ok (.getfield 86, 3) := by decide +kernel
theorem eX0_stopsOf_36 : decode rX0_stopsOf.2.1 36 = .ok (.ifCond .eq 11, 3) := by decide +kernel
theorem eX0_stopsOf_39 : decode rX0_stopsOf.2.1 39 = .ok (.aload 4, 2) := by decide +kernel
theorem eX0_stopsOf_41 : decode rX0_stopsOf.2.1 41 = .ok (.getfield 77, 3) := by decide +kernel
theorem eX0_stopsOf_44 : decode rX0_stopsOf.2.1 44 = .ok (.goto 8, 3) := by decide +kernel
theorem eX0_stopsOf_47 : decode rX0_stopsOf.2.1 47 = .ok (.aload 4, 2) := by decide +kernel
theorem eX0_stopsOf_49 : decode rX0_stopsOf.2.1 49 = .ok (.getfield 74, 3) := by decide +kernel
theorem eX0_stopsOf_52 : decode rX0_stopsOf.2.1 52 = .ok (.ishl, 1) := by decide +kernel
theorem eX0_stopsOf_53 : decode rX0_stopsOf.2.1 53 = .ok (.ior, 1) := by decide +kernel
theorem eX0_stopsOf_54 : decode rX0_stopsOf.2.1 54 = .ok (.istore_n 2, 1) := by decide +kernel
theorem eX0_stopsOf_55 : decode rX0_stopsOf.2.1 55 = .ok (.iinc 3 1, 3) := by decide +kernel
theorem eX0_stopsOf_58 : decode rX0_stopsOf.2.1 58 = .ok (.goto (-54), 3) := by decide +kernel
theorem eX0_stopsOf_61 : decode rX0_stopsOf.2.1 61 = .ok (.iload_n 2, 1) := by decide +kernel
theorem eX0_stopsOf_62 : decode rX0_stopsOf.2.1 62 = .ok (.ireturn, 1) := by decide +kernel
theorem eX0_estimateByFormula_0 : decode rX0_estimateByFormula.2.1 0 = .ok (.aload_n 0, 1) := by decide +kernel
theorem eX0_estimateByFormula_1 : decode rX0_estimateByFormula.2.1 1 = .ok (.getfield 11, 3) := by decide +kernel
theorem eX0_estimateByFormula_4 : decode rX0_estimateByFormula.2.1 4 = .ok (.iload_n 1, 1) := by decide +kernel
theorem eX0_estimateByFormula_5 : decode rX0_estimateByFormula.2.1 5 = .ok (.aaload, 1) := by decide +kernel
theorem eX0_estimateByFormula_6 : decode rX0_estimateByFormula.2.1 6 = .ok (.astore_n 3, 1) := by decide +kernel
theorem eX0_estimateByFormula_7 : decode rX0_estimateByFormula.2.1 7 = .ok (.iload_n 2, 1) := by decide +kernel
theorem eX0_estimateByFormula_8 : decode rX0_estimateByFormula.2.1 8 = .ok (.aload_n 3, 1) := by decide +kernel
theorem eX0_estimateByFormula_9 : decode rX0_estimateByFormula.2.1 9 = .ok (.getfield 172, 3) := by decide +kernel
theorem eX0_estimateByFormula_12 : decode rX0_estimateByFormula.2.1 12 = .ok (.isub, 1) := by decide +kernel
theorem eX0_estimateByFormula_13 : decode rX0_estimateByFormula.2.1 13 = .ok (.aload_n 3, 1) := by decide +kernel
theorem eX0_estimateByFormula_14 : decode rX0_estimateByFormula.2.1 14 = .ok (.getfield 192, 3) := by decide +kernel
theorem eX0_estimateByFormula_17 : decode rX0_estimateByFormula.2.1 17 = .ok (.imul, 1) := by decide +kernel
theorem eX0_estimateByFormula_18 : decode rX0_estimateByFormula.2.1 18 = .ok (.istore 4, 2) := by decide +kernel
theorem eX0_estimateByFormula_20 : decode rX0_estimateByFormula.2.1 20 = .ok (.iload_n 2, 1) := by decide +kernel
theorem eX0_estimateByFormula_21 : decode rX0_estimateByFormula.2.1 21 = .ok (.aload_n 3, 1) := by decide +kernel
theorem eX0_estimateByFormula_22 : decode rX0_estimateByFormula.2.1 22 = .ok (.getfield 172, 3) := by decide +kernel
theorem eX0_estimateByFormula_25 : decode rX0_estimateByFormula.2.1 25 = .ok (.isub, 1) := by decide +kernel
theorem eX0_estimateByFormula_26 : decode rX0_estimateByFormula.2.1 26 = .ok (.invokestatic 205, 3) := by decide +kernel
theorem eX0_estimateByFormula_29 : decode rX0_estimateByFormula.2.1 29 = .ok (.istore 5, 2) := by decide +kernel
theorem eX0_estimateByFormula_31 : decode rX0_estimateByFormula.2.1 31 = .ok (.iload 4, 2) := by decide +kernel
theorem eX0_estimateByFormula_33 : decode rX0_estimateByFormula.2.1 33 = .ok (.ifCond .ge 26, 3) := by decide +kernel
theorem eX0_estimateByFormula_36 : decode rX0_estimateByFormula.2.1 36 = .ok (.iload 5, 2) := by decide +kernel
theorem eX0_estimateByFormula_38 : decode rX0_estimateByFormula.2.1 38 = .ok (.iconst 2, 1) := by decide +kernel
theorem eX0_estimateByFormula_39 : decode rX0_estimateByFormula.2.1 39 = .ok (.aload_n 0, 1) := by decide +kernel
theorem eX0_estimateByFormula_40 : decode rX0_estimateByFormula.2.1 40 = .ok (.iload_n 1, 1) := by decide +kernel
theorem eX0_estimateByFormula_41 : decode rX0_estimateByFormula.2.1 41 = .ok (.invokevirtual 169, 3) := by decide +kernel
theorem eX0_estimateByFormula_44 : decode rX0_estimateByFormula.2.1 44 = .ok (.aload_n 3, 1) := by decide +kernel
theorem eX0_estimateByFormula_45 : decode rX0_estimateByFormula.2.1 45 = .ok (.getfield 172, 3) := by decide +kernel
theorem eX0_estimateByFormula_48 : decode rX0_estimateByFormula.2.1 48 = .ok (.aload_n 3, 1) := by decide +kernel
theorem eX0_estimateByFormula_49 : decode rX0_estimateByFormula.2.1 49 = .ok (.getfield 192, 3) := by decide +kernel
theorem eX0_estimateByFormula_52 : decode rX0_estimateByFormula.2.1 52 = .ok (.invokestatic 210, 3) := by decide +kernel
theorem eX0_estimateByFormula_55 : decode rX0_estimateByFormula.2.1 55 = .ok (.imul, 1) := by decide +kernel
theorem eX0_estimateByFormula_56 : decode rX0_estimateByFormula.2.1 56 = .ok (.iadd, 1) := by decide +kernel
theorem eX0_estimateByFormula_57 : decode rX0_estimateByFormula.2.1 57 = .ok (.istore 5, 2) := by decide +kernel
theorem eX0_estimateByFormula_59 : decode rX0_estimateByFormula.2.1 59 = .ok (.aload_n 3, 1) := by decide +kernel
theorem eX0_estimateByFormula_60 : decode rX0_estimateByFormula.2.1 60 = .ok (.getfield 198, 3) := by decide +kernel
theorem eX0_estimateByFormula_63 : decode rX0_estimateByFormula.2.1 63 = .ok (.iload 5, 2) := by decide +kernel
theorem eX0_estimateByFormula_65 : decode rX0_estimateByFormula.2.1 65 = .ok (.iadd, 1) := by decide +kernel
theorem eX0_estimateByFormula_66 : decode rX0_estimateByFormula.2.1 66 = .ok (.ireturn, 1) := by decide +kernel
theorem eX0_estimateByMoving_0 : decode rX0_estimateByMoving.2.1 0 = .ok (.aload_n 0, 1) := by decide +kernel
theorem eX0_estimateByMoving_1 : decode rX0_estimateByMoving.2.1 1 = .ok (.getfield 11, 3) := by decide +kernel
theorem eX0_estimateByMoving_4 : decode rX0_estimateByMoving.2.1 4 = .ok (.iload_n 1, 1) := by decide +kernel
theorem eX0_estimateByMoving_5 : decode rX0_estimateByMoving.2.1 5 = .ok (.aaload, 1) := by decide +kernel
theorem eX0_estimateByMoving_6 : decode rX0_estimateByMoving.2.1 6 = .ok (.astore_n 3, 1) := by decide +kernel
theorem eX0_estimateByMoving_7 : decode rX0_estimateByMoving.2.1 7 = .ok (.aload_n 0, 1) := by decide +kernel
theorem eX0_estimateByMoving_8 : decode rX0_estimateByMoving.2.1 8 = .ok (.iload_n 1, 1) := by decide +kernel
theorem eX0_estimateByMoving_9 : decode rX0_estimateByMoving.2.1 9 = .ok (.invokevirtual 169, 3) := by decide +kernel
theorem eX0_estimateByMoving_12 : decode rX0_estimateByMoving.2.1 12 = .ok (.istore 4, 2) := by decide +kernel
theorem eX0_estimateByMoving_14 : decode rX0_estimateByMoving.2.1 14 = .ok (.aload_n 3, 1) := by decide +kernel
theorem eX0_estimateByMoving_15 : decode rX0_estimateByMoving.2.1 15 = .ok (.getfield 172, 3) := by decide +kernel
theorem eX0_estimateByMoving_18 : decode rX0_estimateByMoving.2.1 18 = .ok (.istore 5, 2) := by decide +kernel
theorem eX0_estimateByMoving_20 : decode rX0_estimateByMoving.2.1 20 = .ok (.aload_n 3, 1) := by decide +kernel
theorem eX0_estimateByMoving_21 : decode rX0_estimateByMoving.2.1 21 = .ok (.getfield 192, 3) := by decide +kernel
theorem eX0_estimateByMoving_24 : decode rX0_estimateByMoving.2.1 24 = .ok (.ifCond .ne 12, 3) := by decide +kernel
theorem eX0_estimateByMoving_27 : decode rX0_estimateByMoving.2.1 27 = .ok (.iload_n 2, 1) := by decide +kernel
theorem eX0_estimateByMoving_28 : decode rX0_estimateByMoving.2.1 28 = .ok (.iload 5, 2) := by decide +kernel
theorem eX0_estimateByMoving_30 : decode rX0_estimateByMoving.2.1 30 = .ok (.invokestatic 213, 3) := by decide +kernel
theorem eX0_estimateByMoving_33 : decode rX0_estimateByMoving.2.1 33 = .ok (.goto 7, 3) := by decide +kernel
theorem eX0_estimateByMoving_36 : decode rX0_estimateByMoving.2.1 36 = .ok (.aload_n 3, 1) := by decide +kernel
theorem eX0_estimateByMoving_37 : decode rX0_estimateByMoving.2.1 37 = .ok (.getfield 192, 3) := by decide +kernel
theorem eX0_estimateByMoving_40 : decode rX0_estimateByMoving.2.1 40 = .ok (.istore 6, 2) := by decide +kernel
theorem eX0_estimateByMoving_42 : decode rX0_estimateByMoving.2.1 42 = .ok (.iconst 0, 1) := by decide +kernel
theorem eX0_estimateByMoving_43 : decode rX0_estimateByMoving.2.1 43 = .ok (.istore 7, 2) := by decide +kernel
theorem eX0_estimateByMoving_45 : decode rX0_estimateByMoving.2.1 45 = .ok (.iconst 0, 1) := by decide +kernel
theorem eX0_estimateByMoving_46 : decode rX0_estimateByMoving.2.1 46 = .ok (.istore 8, 2) := by decide +kernel
theorem eX0_estimateByMoving_48 : decode rX0_estimateByMoving.2.1 48 = .ok (.iload 8, 2) := by decide +kernel
theorem eX0_estimateByMoving_50 : decode rX0_estimateByMoving.2.1 50 = .ok (.bipush 20, 2) := by decide +kernel
theorem eX0_estimateByMoving_52 : decode rX0_estimateByMoving.2.1 52 = .ok (.if_icmp .ge 64, 3) := by decide +kernel
theorem eX0_estimateByMoving_55 : decode rX0_estimateByMoving.2.1 55 = .ok (.iload 5, 2) := by decide +kernel
theorem eX0_estimateByMoving_57 : decode rX0_estimateByMoving.2.1 57 = .ok (.iload_n 2, 1) := by decide +kernel
theorem eX0_estimateByMoving_58 : decode rX0_estimateByMoving.2.1 58 = .ok (.if_icmp .eq 58, 3) := by decide +kernel
theorem eX0_estimateByMoving_61 : decode rX0_estimateByMoving.2.1 61 = .ok (.iload_n 2, 1) := by decide +kernel
theorem eX0_estimateByMoving_62 : decode rX0_estimateByMoving.2.1 62 = .ok (.iload 5, 2) := by decide +kernel
theorem eX0_estimateByMoving_64 : decode rX0_estimateByMoving.2.1 64 = .ok (.isub, 1) := by decide +kernel
theorem eX0_estimateByMoving_65 : decode rX0_estimateByMoving.2.1 65 = .ok (.iload 6, 2) := by decide +kernel
theorem eX0_estimateByMoving_67 : decode rX0_estimateByMoving.2.1 67 = .ok (.imul, 1) := by decide +kernel
theorem eX0_estimateByMoving_68 : decode rX0_estimateByMoving.2.1 68 = .ok (.ifCond .ge 7, 3) := by decide +kernel
theorem eX0_estimateByMoving_71 : decode rX0_estimateByMoving.2.1 71 = .ok (.iconst 1, 1) := by decide +kernel
theorem eX0_estimateByMoving_72 : decode rX0_estimateByMoving.2.1 72 = .ok (.goto 4, 3) := by decide +kernel
theorem eX0_estimateByMoving_75 : decode rX0_estimateByMoving.2.1 75 = .ok (.iconst 0, 1) := by decide +kernel
theorem eX0_estimateByMoving_76 : decode rX0_estimateByMoving.2.1 76 = .ok (.istore 9, 2) := by decide +kernel
theorem eX0_estimateByMoving_78 : decode rX0_estimateByMoving.2.1 78 = .ok (.iload 9, 2) := by decide +kernel
theorem eX0_estimateByMoving_80 : decode rX0_estimateByMoving.2.1 80 = .ok (.ifCond .eq 20, 3) := by decide +kernel
theorem eX0_estimateByMoving_83 : decode rX0_estimateByMoving.2.1 83 = .ok (.iload 4, 2) := by decide +kernel
theorem eX0_estimateByMoving_85 : decode rX0_estimateByMoving.2.1 85 = .ok (.iload 5, 2) := by decide +kernel
theorem eX0_estimateByMoving_87 : decode rX0_estimateByMoving.2.1 87 = .ok (.iload 6, 2) := by decide +kernel
theorem eX0_estimateByMoving_89 : decode rX0_estimateByMoving.2.1 89 = .ok (.invokestatic 218, 3) := by decide +kernel
theorem eX0_estimateByMoving_92 : decode rX0_estimateByMoving.2.1 92 = .ok (.ifCond .ne 8, 3) := by decide +kernel
theorem eX0_estimateByMoving_95 : decode rX0_estimateByMoving.2.1 95 = .ok (.iload 6, 2) := by decide +kernel
theorem eX0_estimateByMoving_97 : decode rX0_estimateByMoving.2.1 97 = .ok (.ineg, 1) := by decide +kernel
theorem eX0_estimateByMoving_98 : decode rX0_estimateByMoving.2.1 98 = .ok (.istore 6, 2) := by decide +kernel
theorem eX0_estimateByMoving_100 : decode rX0_estimateByMoving.2.1 100 = .ok (.iload 5, 2) := by decide +kernel
theorem eX0_estimateByMoving_102 : decode rX0_estimateByMoving.2.1 102 = .ok (.iload 6, 2) := by decide +kernel
theorem eX0_estimateByMoving_104 : decode rX0_estimateByMoving.2.1 104 = .ok (.iadd, 1) := by decide +kernel
theorem eX0_estimateByMoving_105 : decode rX0_estimateByMoving.2.1 105 = .ok (.istore 5, 2) := by decide +kernel
theorem eX0_estimateByMoving_107 : decode rX0_estimateByMoving.2.1 107 = .ok (.iinc 7 1, 3) := by decide +kernel
theorem eX0_estimateByMoving_110 : decode rX0_estimateByMoving.2.1 110 = .ok (.iinc 8 1, 3) := by decide +kernel
theorem eX0_estimateByMoving_113 : decode rX0_estimateByMoving.2.1 113 = .ok (.goto (-65), 3) := by decide +kernel
theorem eX0_estimateByMoving_116 : decode rX0_estimateByMoving.2.1 116 = .ok (.aload_n 3, 1) := by decide +kernel
theorem eX0_estimateByMoving_117 : decode rX0_estimateByMoving.2.1 117 = .ok (.getfield 198, 3) := by decide +kernel
theorem eX0_estimateByMoving_120 : decode rX0_estimateByMoving.2.1 120 = .ok (.iload 7, 2) := by decide +kernel
theorem eX0_estimateByMoving_122 : decode rX0_estimateByMoving.2.1 122 = .ok (.iadd, 1) := by decide +kernel
theorem eX0_estimateByMoving_123 : decode rX0_estimateByMoving.2.1 123 = .ok (.ireturn, 1) := by decide +kernel
theorem eX0_chooseCar_0 : decode rX0_chooseCar.2.1 0 = .ok (.iconst (-1), 1) := by decide +kernel
theorem eX0_chooseCar_1 : decode rX0_chooseCar.2.1 1 = .ok (.istore_n 3, 1) := by decide +kernel
theorem eX0_chooseCar_2 : decode rX0_chooseCar.2.1 2 = .ok (.iconst 0, 1) := by decide +kernel
theorem eX0_chooseCar_3 : decode rX0_chooseCar.2.1 3 = .ok (.istore 4, 2) := by decide +kernel
theorem eX0_chooseCar_5 : decode rX0_chooseCar.2.1 5 = .ok (.iconst 0, 1) := by decide +kernel
theorem eX0_chooseCar_6 : decode rX0_chooseCar.2.1 6 = .ok (.istore 5, 2) := by decide +kernel
theorem eX0_chooseCar_8 : decode rX0_chooseCar.2.1 8 = .ok (.iload 5, 2) := by decide +kernel
theorem eX0_chooseCar_10 : decode rX0_chooseCar.2.1 10 = .ok (.iconst 3, 1) := by decide +kernel
theorem eX0_chooseCar_11 : decode rX0_chooseCar.2.1 11 = .ok (.if_icmp .ge 69, 3) := by decide +kernel
theorem eX0_chooseCar_14 : decode rX0_chooseCar.2.1 14 = .ok (.aload_n 0, 1) := by decide +kernel
theorem eX0_chooseCar_15 : decode rX0_chooseCar.2.1 15 = .ok (.getfield 11, 3) := by decide +kernel
theorem eX0_chooseCar_18 : decode rX0_chooseCar.2.1 18 = .ok (.iload 5, 2) := by decide +kernel
theorem eX0_chooseCar_20 : decode rX0_chooseCar.2.1 20 = .ok (.aaload, 1) := by decide +kernel
theorem eX0_chooseCar_21 : decode rX0_chooseCar.2.1 21 = .ok (.astore 6, 2) := by decide +kernel
theorem eX0_chooseCar_23 : decode rX0_chooseCar.2.1 23 = .ok (.aload 6, 2) := by decide +kernel
theorem eX0_chooseCar_25 : decode rX0_chooseCar.2.1 25 = .ok (.getfield 106, 3) := by decide +kernel
theorem eX0_chooseCar_28 : decode rX0_chooseCar.2.1 28 = .ok (.ifCond .eq 46, 3) := by decide +kernel
theorem eX0_chooseCar_31 : decode rX0_chooseCar.2.1 31 = .ok (.aload 6, 2) := by decide +kernel
theorem eX0_chooseCar_33 : decode rX0_chooseCar.2.1 33 = .ok (.getfield 109, 3) := by decide +kernel
theorem eX0_chooseCar_36 : decode rX0_chooseCar.2.1 36 = .ok (.iload_n 2, 1) := by decide +kernel
theorem eX0_chooseCar_37 : decode rX0_chooseCar.2.1 37 = .ok (.iadd, 1) := by decide +kernel
theorem eX0_chooseCar_38 : decode rX0_chooseCar.2.1 38 = .ok (.aload 6, 2) := by decide +kernel
theorem eX0_chooseCar_40 : decode rX0_chooseCar.2.1 40 = .ok (.getfield 112, 3) := by decide +kernel
theorem eX0_chooseCar_43 : decode rX0_chooseCar.2.1 43 = .ok (.if_icmp .gt 31, 3) := by decide +kernel
theorem eX0_chooseCar_46 : decode rX0_chooseCar.2.1 46 = .ok (.aload_n 0, 1) := by decide +kernel
theorem eX0_chooseCar_47 : decode rX0_chooseCar.2.1 47 = .ok (.iload 5, 2) := by decide +kernel
theorem eX0_chooseCar_49 : decode rX0_chooseCar.2.1 49 = .ok (.iload_n 1, 1) := by decide +kernel
theorem eX0_chooseCar_50 : decode rX0_chooseCar.2.1 50 = .ok (.invokevirtual 221, 3) := by decide +kernel
theorem eX0_chooseCar_53 : decode rX0_chooseCar.2.1 53 = .ok (.istore 7, 2) := by decide +kernel
theorem eX0_chooseCar_55 : decode rX0_chooseCar.2.1 55 = .ok (.iload_n 3, 1) := by decide +kernel
theorem eX0_chooseCar_56 : decode rX0_chooseCar.2.1 56 = .ok (.iconst (-1), 1) := by decide +kernel
theorem eX0_chooseCar_57 : decode rX0_chooseCar.2.1 57 = .ok (.if_icmp .eq 10, 3) := by decide +kernel
theorem eX0_chooseCar_60 : decode rX0_chooseCar.2.1 60 = .ok (.iload 7, 2) := by decide +kernel
theorem eX0_chooseCar_62 : decode rX0_chooseCar.2.1 62 = .ok (.iload 4, 2) := by decide +kernel
theorem eX0_chooseCar_64 : decode rX0_chooseCar.2.1 64 = .ok (.if_icmp .ge 10, 3) := by decide +kernel
theorem eX0_chooseCar_67 : decode rX0_chooseCar.2.1 67 = .ok (.iload 5, 2) := by decide +kernel
theorem eX0_chooseCar_69 : decode rX0_chooseCar.2.1 69 = .ok (.istore_n 3, 1) := by decide +kernel
theorem eX0_chooseCar_70 : decode rX0_chooseCar.2.1 70 = .ok (.iload 7, 2) := by decide +kernel
theorem eX0_chooseCar_72 : decode rX0_chooseCar.2.1 72 = .ok (.istore 4, 2) := by decide +kernel
theorem eX0_chooseCar_74 : decode rX0_chooseCar.2.1 74 = .ok (.iinc 5 1, 3) := by decide +kernel
theorem eX0_chooseCar_77 : decode rX0_chooseCar.2.1 77 = .ok (.goto (-69), 3) := by decide +kernel
theorem eX0_chooseCar_80 : decode rX0_chooseCar.2.1 80 = .ok (.iload_n 3, 1) := by decide +kernel
theorem eX0_chooseCar_81 : decode rX0_chooseCar.2.1 81 = .ok (.ireturn, 1) := by decide +kernel
theorem eX0_isPassenger_0 : decode rX0_isPassenger.2.1 0 = .ok (.iload_n 1, 1) := by decide +kernel
theorem eX0_isPassenger_1 : decode rX0_isPassenger.2.1 1 = .ok (.ifCond .lt 15, 3) := by decide +kernel
theorem eX0_isPassenger_4 : decode rX0_isPassenger.2.1 4 = .ok (.iload_n 1, 1) := by decide +kernel
theorem eX0_isPassenger_5 : decode rX0_isPassenger.2.1 5 = .ok (.aload_n 0, 1) := by decide +kernel
theorem eX0_isPassenger_6 : decode rX0_isPassenger.2.1 6 = .ok (.getfield 30, 3) := by decide +kernel
theorem eX0_isPassenger_9 : decode rX0_isPassenger.2.1 9 = .ok (.if_icmp .ge 7, 3) := by decide +kernel
theorem eX0_isPassenger_12 : decode rX0_isPassenger.2.1 12 = .ok (.iconst 1, 1) := by decide +kernel
theorem eX0_isPassenger_13 : decode rX0_isPassenger.2.1 13 = .ok (.goto 4, 3) := by decide +kernel
theorem eX0_isPassenger_16 : decode rX0_isPassenger.2.1 16 = .ok (.iconst 0, 1) := by decide +kernel
theorem eX0_isPassenger_17 : decode rX0_isPassenger.2.1 17 = .ok (.ireturn, 1) := by decide +kernel
theorem eX0_indexOf_0 : decode rX0_indexOf.2.1 0 = .ok (.iconst 0, 1) := by decide +kernel
theorem eX0_indexOf_1 : decode rX0_indexOf.2.1 1 = .ok (.istore_n 2, 1) := by decide +kernel
theorem eX0_indexOf_2 : decode rX0_indexOf.2.1 2 = .ok (.iload_n 2, 1) := by decide +kernel
theorem eX0_indexOf_3 : decode rX0_indexOf.2.1 3 = .ok (.aload_n 0, 1) := by decide +kernel
theorem eX0_indexOf_4 : decode rX0_indexOf.2.1 4 = .ok (.getfield 30, 3) := by decide +kernel
theorem eX0_indexOf_7 : decode rX0_indexOf.2.1 7 = .ok (.if_icmp .ge 24, 3) := by decide +kernel
theorem eX0_indexOf_10 : decode rX0_indexOf.2.1 10 = .ok (.aload_n 0, 1) := by decide +kernel
theorem eX0_indexOf_11 : decode rX0_indexOf.2.1 11 = .ok (.getfield 19, 3) := by decide +kernel
theorem eX0_indexOf_14 : decode rX0_indexOf.2.1 14 = .ok (.iload_n 2, 1) := by decide +kernel
theorem eX0_indexOf_15 : decode rX0_indexOf.2.1 15 = .ok (.aaload, 1) := by decide +kernel
theorem eX0_indexOf_16 : decode rX0_indexOf.2.1 16 = .ok (.getfield 71, 3) := by decide +kernel
theorem eX0_indexOf_19 : decode rX0_indexOf.2.1 19 = .ok (.iload_n 1, 1) := by decide +kernel
theorem eX0_indexOf_20 : decode rX0_indexOf.2.1 20 = .ok (.if_icmp .ne 5, 3) := by decide +kernel
theorem eX0_indexOf_23 : decode rX0_indexOf.2.1 23 = .ok (.iload_n 2, 1) := by decide +kernel
theorem eX0_indexOf_24 : decode rX0_indexOf.2.1 24 = .ok (.ireturn, 1) := by decide +kernel
theorem eX0_indexOf_25 : decode rX0_indexOf.2.1 25 = .ok (.iinc 2 1, 3) := by decide +kernel
theorem eX0_indexOf_28 : decode rX0_indexOf.2.1 28 = .ok (.goto (-26), 3) := by decide +kernel
theorem eX0_indexOf_31 : decode rX0_indexOf.2.1 31 = .ok (.iconst (-1), 1) := by decide +kernel
theorem eX0_indexOf_32 : decode rX0_indexOf.2.1 32 = .ok (.ireturn, 1) := by decide +kernel
theorem eX0_isRiding_0 : decode rX0_isRiding.2.1 0 = .ok (.aload_n 0, 1) := by decide +kernel
theorem eX0_isRiding_1 : decode rX0_isRiding.2.1 1 = .ok (.iload_n 1, 1) := by decide +kernel
theorem eX0_isRiding_2 : decode rX0_isRiding.2.1 2 = .ok (.invokevirtual 224, 3) := by decide +kernel
theorem eX0_isRiding_5 : decode rX0_isRiding.2.1 5 = .ok (.istore_n 2, 1) := by decide +kernel
theorem eX0_isRiding_6 : decode rX0_isRiding.2.1 6 = .ok (.iload_n 2, 1) := by decide +kernel
theorem eX0_isRiding_7 : decode rX0_isRiding.2.1 7 = .ok (.iconst (-1), 1) := by decide +kernel
theorem eX0_isRiding_8 : decode rX0_isRiding.2.1 8 = .ok (.if_icmp .eq 19, 3) := by decide +kernel
theorem eX0_isRiding_11 : decode rX0_isRiding.2.1 11 = .ok (.aload_n 0, 1) := by decide +kernel
theorem eX0_isRiding_12 : decode rX0_isRiding.2.1 12 = .ok (.getfield 19, 3) := by decide +kernel
theorem eX0_isRiding_15 : decode rX0_isRiding.2.1 15 = .ok (.iload_n 2, 1) := by decide +kernel
theorem eX0_isRiding_16 : decode rX0_isRiding.2.1 16 = .ok (.aaload, 1) := by decide +kernel
theorem eX0_isRiding_17 : decode rX0_isRiding.2.1 17 = .ok (.getfield 86, 3) := by decide +kernel
theorem eX0_isRiding_20 : decode rX0_isRiding.2.1 20 = .ok (.ifCond .eq 7, 3) := by decide +kernel
theorem eX0_isRiding_23 : decode rX0_isRiding.2.1 23 = .ok (.iconst 1, 1) := by decide +kernel
theorem eX0_isRiding_24 : decode rX0_isRiding.2.1 24 = .ok (.goto 4, 3) := by decide +kernel
theorem eX0_isRiding_27 : decode rX0_isRiding.2.1 27 = .ok (.iconst 0, 1) := by decide +kernel
theorem eX0_isRiding_28 : decode rX0_isRiding.2.1 28 = .ok (.ireturn, 1) := by decide +kernel
theorem eX0_countAssigned_0 : decode rX0_countAssigned.2.1 0 = .ok (.iconst 0, 1) := by decide +kernel
theorem eX0_countAssigned_1 : decode rX0_countAssigned.2.1 1 = .ok (.istore_n 2, 1) := by decide +kernel
theorem eX0_countAssigned_2 : decode rX0_countAssigned.2.1 2 = .ok (.iconst 0, 1) := by decide +kernel
theorem eX0_countAssigned_3 : decode rX0_countAssigned.2.1 3 = .ok (.istore_n 3, 1) := by decide +kernel
theorem eX0_countAssigned_4 : decode rX0_countAssigned.2.1 4 = .ok (.iload_n 3, 1) := by decide +kernel
theorem eX0_countAssigned_5 : decode rX0_countAssigned.2.1 5 = .ok (.aload_n 0, 1) := by decide +kernel
theorem eX0_countAssigned_6 : decode rX0_countAssigned.2.1 6 = .ok (.getfield 30, 3) := by decide +kernel
theorem eX0_countAssigned_9 : decode rX0_countAssigned.2.1 9 = .ok (.if_icmp .ge 37, 3) := by decide +kernel
theorem eX0_countAssigned_12 : decode rX0_countAssigned.2.1 12 = .ok (.aload_n 0, 1) := by decide +kernel
theorem eX0_countAssigned_13 : decode rX0_countAssigned.2.1 13 = .ok (.getfield 19, 3) := by decide +kernel
theorem eX0_countAssigned_16 : decode rX0_countAssigned.2.1 16 = .ok (.iload_n 3, 1) := by decide +kernel
theorem eX0_countAssigned_17 : decode rX0_countAssigned.2.1 17 = .ok (.aaload, 1) := by decide +kernel
theorem eX0_countAssigned_18 : decode rX0_countAssigned.2.1 18 = .ok (.getfield 86, 3) := by decide +kernel
theorem eX0_countAssigned_21 : decode rX0_countAssigned.2.1 21 = .ok (.ifCond .ne 19, 3) := by decide +kernel
theorem eX0_countAssigned_24 : decode rX0_countAssigned.2.1 24 = .ok (.aload_n 0, 1) := by decide +kernel
theorem eX0_countAssigned_25 : decode rX0_countAssigned.2.1 25 = .ok (.getfield 19, 3) := by decide +kernel
theorem eX0_countAssigned_28 : decode rX0_countAssigned.2.1 28 = .ok (.iload_n 3, 1) := by decide +kernel
theorem eX0_countAssigned_29 : decode rX0_countAssigned.2.1 29 = .ok (.aaload, 1) := by decide +kernel
theorem eX0_countAssigned_30 : decode rX0_countAssigned.2.1 30 = .ok (.getfield 94, 3) := by decide +kernel
theorem eX0_countAssigned_33 : decode rX0_countAssigned.2.1 33 = .ok (.iload_n 1, 1) := by decide +kernel
theorem eX0_countAssigned_34 : decode rX0_countAssigned.2.1 34 = .ok (.if_icmp .ne 6, 3) := by decide +kernel
theorem eX0_countAssigned_37 : decode rX0_countAssigned.2.1 37 = .ok (.iinc 2 1, 3) := by decide +kernel
theorem eX0_countAssigned_40 : decode rX0_countAssigned.2.1 40 = .ok (.iinc 3 1, 3) := by decide +kernel
theorem eX0_countAssigned_43 : decode rX0_countAssigned.2.1 43 = .ok (.goto (-39), 3) := by decide +kernel
theorem eX0_countAssigned_46 : decode rX0_countAssigned.2.1 46 = .ok (.iload_n 2, 1) := by decide +kernel
theorem eX0_countAssigned_47 : decode rX0_countAssigned.2.1 47 = .ok (.ireturn, 1) := by decide +kernel
theorem eX0_countWaiting_0 : decode rX0_countWaiting.2.1 0 = .ok (.iconst 0, 1) := by decide +kernel
theorem eX0_countWaiting_1 : decode rX0_countWaiting.2.1 1 = .ok (.istore_n 2, 1) := by decide +kernel
theorem eX0_countWaiting_2 : decode rX0_countWaiting.2.1 2 = .ok (.iconst 0, 1) := by decide +kernel
theorem eX0_countWaiting_3 : decode rX0_countWaiting.2.1 3 = .ok (.istore_n 3, 1) := by decide +kernel
theorem eX0_countWaiting_4 : decode rX0_countWaiting.2.1 4 = .ok (.iload_n 3, 1) := by decide +kernel
theorem eX0_countWaiting_5 : decode rX0_countWaiting.2.1 5 = .ok (.aload_n 0, 1) := by decide +kernel
theorem eX0_countWaiting_6 : decode rX0_countWaiting.2.1 6 = .ok (.getfield 30, 3) := by decide +kernel
theorem eX0_countWaiting_9 : decode rX0_countWaiting.2.1 9 = .ok (.if_icmp .ge 37, 3) := by decide +kernel
theorem eX0_countWaiting_12 : decode rX0_countWaiting.2.1 12 = .ok (.aload_n 0, 1) := by decide +kernel
theorem eX0_countWaiting_13 : decode rX0_countWaiting.2.1 13 = .ok (.getfield 19, 3) := by decide +kernel
theorem eX0_countWaiting_16 : decode rX0_countWaiting.2.1 16 = .ok (.iload_n 3, 1) := by decide +kernel
theorem eX0_countWaiting_17 : decode rX0_countWaiting.2.1 17 = .ok (.aaload, 1) := by decide +kernel
theorem eX0_countWaiting_18 : decode rX0_countWaiting.2.1 18 = .ok (.getfield 86, 3) := by decide +kernel
theorem eX0_countWaiting_21 : decode rX0_countWaiting.2.1 21 = .ok (.ifCond .ne 19, 3) := by decide +kernel
theorem eX0_countWaiting_24 : decode rX0_countWaiting.2.1 24 = .ok (.aload_n 0, 1) := by decide +kernel
theorem eX0_countWaiting_25 : decode rX0_countWaiting.2.1 25 = .ok (.getfield 19, 3) := by decide +kernel
theorem eX0_countWaiting_28 : decode rX0_countWaiting.2.1 28 = .ok (.iload_n 3, 1) := by decide +kernel
theorem eX0_countWaiting_29 : decode rX0_countWaiting.2.1 29 = .ok (.aaload, 1) := by decide +kernel
theorem eX0_countWaiting_30 : decode rX0_countWaiting.2.1 30 = .ok (.getfield 74, 3) := by decide +kernel
theorem eX0_countWaiting_33 : decode rX0_countWaiting.2.1 33 = .ok (.iload_n 1, 1) := by decide +kernel
theorem eX0_countWaiting_34 : decode rX0_countWaiting.2.1 34 = .ok (.if_icmp .ne 6, 3) := by decide +kernel
theorem eX0_countWaiting_37 : decode rX0_countWaiting.2.1 37 = .ok (.iinc 2 1, 3) := by decide +kernel
theorem eX0_countWaiting_40 : decode rX0_countWaiting.2.1 40 = .ok (.iinc 3 1, 3) := by decide +kernel
theorem eX0_countWaiting_43 : decode rX0_countWaiting.2.1 43 = .ok (.goto (-39), 3) := by decide +kernel
theorem eX0_countWaiting_46 : decode rX0_countWaiting.2.1 46 = .ok (.iload_n 2, 1) := by decide +kernel
theorem eX0_countWaiting_47 : decode rX0_countWaiting.2.1 47 = .ok (.ireturn, 1) := by decide +kernel
theorem eX0_countLongerWaiting_0 : decode rX0_countLongerWaiting.2.1 0 = .ok (.iconst 0, 1) := by decide +kernel
theorem eX0_countLongerWaiting_1 : decode rX0_countLongerWaiting.2.1 1 = .ok (.istore_n 2, 1) := by decide +kernel
theorem eX0_countLongerWaiting_2 : decode rX0_countLongerWaiting.2.1 2 = .ok (.iconst 0, 1) := by decide +kernel
theorem eX0_countLongerWaiting_3 : decode rX0_countLongerWaiting.2.1 3 = .ok (.istore_n 3, 1) := by decide +kernel
theorem eX0_countLongerWaiting_4 : decode rX0_countLongerWaiting.2.1 4 = .ok (.iload_n 3, 1) := by decide +kernel
theorem eX0_countLongerWaiting_5 : decode rX0_countLongerWaiting.2.1 5 = .ok (.aload_n 0, 1) := by decide +kernel
theorem eX0_countLongerWaiting_6 : decode rX0_countLongerWaiting.2.1 6 = .ok (.getfield 30, 3) := by decide +kernel
theorem eX0_countLongerWaiting_9 : decode rX0_countLongerWaiting.2.1 9 = .ok (.if_icmp .ge 21, 3) := by decide +kernel
theorem eX0_countLongerWaiting_12 : decode rX0_countLongerWaiting.2.1 12 = .ok (.aload_n 0, 1) := by decide +kernel
theorem eX0_countLongerWaiting_13 : decode rX0_countLongerWaiting.2.1 13 = .ok (.iload_n 3, 1) := by decide +kernel
theorem eX0_countLongerWaiting_14 : decode rX0_countLongerWaiting.2.1 14 = .ok (.iload_n 1, 1) := by decide +kernel
theorem eX0_countLongerWaiting_15 : decode rX0_countLongerWaiting.2.1 15 = .ok (.invokevirtual 227, 3) := by decide +kernel
theorem eX0_countLongerWaiting_18 : decode rX0_countLongerWaiting.2.1 18 = .ok (.ifCond .eq 6, 3) := by decide +kernel
theorem eX0_countLongerWaiting_21 : decode rX0_countLongerWaiting.2.1 21 = .ok (.iinc 2 1, 3) := by decide +kernel
theorem eX0_countLongerWaiting_24 : decode rX0_countLongerWaiting.2.1 24 = .ok (.iinc 3 1, 3) := by decide +kernel
theorem eX0_countLongerWaiting_27 : decode rX0_countLongerWaiting.2.1 27 = .ok (.goto (-23), 3) := by decide +kernel
theorem eX0_countLongerWaiting_30 : decode rX0_countLongerWaiting.2.1 30 = .ok (.iload_n 2, 1) := by decide +kernel
theorem eX0_countLongerWaiting_31 : decode rX0_countLongerWaiting.2.1 31 = .ok (.ireturn, 1) := by decide +kernel
theorem eX0_waitsBefore_0 : decode rX0_waitsBefore.2.1 0 = .ok (.aload_n 0, 1) := by decide +kernel
theorem eX0_waitsBefore_1 : decode rX0_waitsBefore.2.1 1 = .ok (.getfield 19, 3) := by decide +kernel
theorem eX0_waitsBefore_4 : decode rX0_waitsBefore.2.1 4 = .ok (.iload_n 1, 1) := by decide +kernel
theorem eX0_waitsBefore_5 : decode rX0_waitsBefore.2.1 5 = .ok (.aaload, 1) := by decide +kernel
theorem eX0_waitsBefore_6 : decode rX0_waitsBefore.2.1 6 = .ok (.astore_n 3, 1) := by decide +kernel
theorem eX0_waitsBefore_7 : decode rX0_waitsBefore.2.1 7 = .ok (.aload_n 0, 1) := by decide +kernel
theorem eX0_waitsBefore_8 : decode rX0_waitsBefore.2.1 8 = .ok (.getfield 19, 3) := by decide +kernel
theorem eX0_waitsBefore_11 : decode rX0_waitsBefore.2.1 11 = .ok (.iload_n 2, 1) := by decide +kernel
theorem eX0_waitsBefore_12 : decode rX0_waitsBefore.2.1 12 = .ok (.aaload, 1) := by decide +kernel
theorem eX0_waitsBefore_13 : decode rX0_waitsBefore.2.1 13 = .ok (.astore 4, 2) := by decide +kernel
theorem eX0_waitsBefore_15 : decode rX0_waitsBefore.2.1 15 = .ok (.aload_n 3, 1) := by decide +kernel
theorem eX0_waitsBefore_16 : decode rX0_waitsBefore.2.1 16 = .ok (.getfield 83, 3) := by decide +kernel
theorem eX0_waitsBefore_19 : decode rX0_waitsBefore.2.1 19 = .ok (.aload 4, 2) := by decide +kernel
theorem eX0_waitsBefore_21 : decode rX0_waitsBefore.2.1 21 = .ok (.getfield 83, 3) := by decide +kernel
theorem eX0_waitsBefore_24 : decode rX0_waitsBefore.2.1 24 = .ok (.if_icmp .eq 21, 3) := by decide +kernel
theorem eX0_waitsBefore_27 : decode rX0_waitsBefore.2.1 27 = .ok (.aload_n 3, 1) := by decide +kernel
theorem eX0_waitsBefore_28 : decode rX0_waitsBefore.2.1 28 = .ok (.getfield 83, 3) := by decide +kernel
theorem eX0_waitsBefore_31 : decode rX0_waitsBefore.2.1 31 = .ok (.aload 4, 2) := by decide +kernel
theorem eX0_waitsBefore_33 : decode rX0_waitsBefore.2.1 33 = .ok (.getfield 83, 3) := by decide +kernel
theorem eX0_waitsBefore_36 : decode rX0_waitsBefore.2.1 36 = .ok (.if_icmp .le 7, 3) := by decide +kernel
theorem eX0_waitsBefore_39 : decode rX0_waitsBefore.2.1 39 = .ok (.iconst 1, 1) := by decide +kernel
theorem eX0_waitsBefore_40 : decode rX0_waitsBefore.2.1 40 = .ok (.goto 4, 3) := by decide +kernel
theorem eX0_waitsBefore_43 : decode rX0_waitsBefore.2.1 43 = .ok (.iconst 0, 1) := by decide +kernel
theorem eX0_waitsBefore_44 : decode rX0_waitsBefore.2.1 44 = .ok (.ireturn, 1) := by decide +kernel
theorem eX0_waitsBefore_45 : decode rX0_waitsBefore.2.1 45 = .ok (.aload_n 3, 1) := by decide +kernel
theorem eX0_waitsBefore_46 : decode rX0_waitsBefore.2.1 46 = .ok (.getfield 86, 3) := by decide +kernel
theorem eX0_waitsBefore_49 : decode rX0_waitsBefore.2.1 49 = .ok (.aload 4, 2) := by decide +kernel
theorem eX0_waitsBefore_51 : decode rX0_waitsBefore.2.1 51 = .ok (.getfield 86, 3) := by decide +kernel
theorem eX0_waitsBefore_54 : decode rX0_waitsBefore.2.1 54 = .ok (.if_icmp .eq 9, 3) := by decide +kernel
theorem eX0_waitsBefore_57 : decode rX0_waitsBefore.2.1 57 = .ok (.aload 4, 2) := by decide +kernel
theorem eX0_waitsBefore_59 : decode rX0_waitsBefore.2.1 59 = .ok (.getfield 86, 3) := by decide +kernel
theorem eX0_waitsBefore_62 : decode rX0_waitsBefore.2.1 62 = .ok (.ireturn, 1) := by decide +kernel
theorem eX0_waitsBefore_63 : decode rX0_waitsBefore.2.1 63 = .ok (.iload_n 1, 1) := by decide +kernel
theorem eX0_waitsBefore_64 : decode rX0_waitsBefore.2.1 64 = .ok (.iload_n 2, 1) := by decide +kernel
theorem eX0_waitsBefore_65 : decode rX0_waitsBefore.2.1 65 = .ok (.if_icmp .ge 7, 3) := by decide +kernel
theorem eX0_waitsBefore_68 : decode rX0_waitsBefore.2.1 68 = .ok (.iconst 1, 1) := by decide +kernel
theorem eX0_waitsBefore_69 : decode rX0_waitsBefore.2.1 69 = .ok (.goto 4, 3) := by decide +kernel
theorem eX0_waitsBefore_72 : decode rX0_waitsBefore.2.1 72 = .ok (.iconst 0, 1) := by decide +kernel
theorem eX0_waitsBefore_73 : decode rX0_waitsBefore.2.1 73 = .ok (.ireturn, 1) := by decide +kernel
theorem eX0_countMoreEnergetic_0 : decode rX0_countMoreEnergetic.2.1 0 = .ok (.iconst 0, 1) := by decide +kernel
theorem eX0_countMoreEnergetic_1 : decode rX0_countMoreEnergetic.2.1 1 = .ok (.istore_n 2, 1) := by decide +kernel
theorem eX0_countMoreEnergetic_2 : decode rX0_countMoreEnergetic.2.1 2 = .ok (.iconst 0, 1) := by decide +kernel
theorem eX0_countMoreEnergetic_3 : decode rX0_countMoreEnergetic.2.1 3 = .ok (.istore_n 3, 1) := by decide +kernel
theorem eX0_countMoreEnergetic_4 : decode rX0_countMoreEnergetic.2.1 4 = .ok (.iload_n 3, 1) := by decide +kernel
theorem eX0_countMoreEnergetic_5 : decode rX0_countMoreEnergetic.2.1 5 = .ok (.iconst 3, 1) := by decide +kernel
theorem eX0_countMoreEnergetic_6 : decode rX0_countMoreEnergetic.2.1 6 = .ok (.if_icmp .ge 21, 3) := by decide +kernel
theorem eX0_countMoreEnergetic_9 : decode rX0_countMoreEnergetic.2.1 9 = .ok (.aload_n 0, 1) := by decide +kernel
theorem eX0_countMoreEnergetic_10 : decode rX0_countMoreEnergetic.2.1 10 = .ok (.iload_n 3, 1) := by decide +kernel
theorem eX0_countMoreEnergetic_11 : decode rX0_countMoreEnergetic.2.1 11 = .ok (.iload_n 1, 1) := by decide +kernel
theorem eX0_countMoreEnergetic_12 : decode rX0_countMoreEnergetic.2.1 12 = .ok (.invokevirtual 230, 3) := by decide +kernel
theorem eX0_countMoreEnergetic_15 : decode rX0_countMoreEnergetic.2.1 15 = .ok (.ifCond .eq 6, 3) := by decide +kernel
theorem eX0_countMoreEnergetic_18 : decode rX0_countMoreEnergetic.2.1 18 = .ok (.iinc 2 1, 3) := by decide +kernel
theorem eX0_countMoreEnergetic_21 : decode rX0_countMoreEnergetic.2.1 21 = .ok (.iinc 3 1, 3) := by decide +kernel
theorem eX0_countMoreEnergetic_24 : decode rX0_countMoreEnergetic.2.1 24 = .ok (.goto (-20), 3) := by decide +kernel
theorem eX0_countMoreEnergetic_27 : decode rX0_countMoreEnergetic.2.1 27 = .ok (.iload_n 2, 1) := by decide +kernel
theorem eX0_countMoreEnergetic_28 : decode rX0_countMoreEnergetic.2.1 28 = .ok (.ireturn, 1) := by decide +kernel
theorem eX0_spendsBefore_0 : decode rX0_spendsBefore.2.1 0 = .ok (.aload_n 0, 1) := by decide +kernel
theorem eX0_spendsBefore_1 : decode rX0_spendsBefore.2.1 1 = .ok (.getfield 11, 3) := by decide +kernel
theorem eX0_spendsBefore_4 : decode rX0_spendsBefore.2.1 4 = .ok (.iload_n 1, 1) := by decide +kernel
theorem eX0_spendsBefore_5 : decode rX0_spendsBefore.2.1 5 = .ok (.aaload, 1) := by decide +kernel
theorem eX0_spendsBefore_6 : decode rX0_spendsBefore.2.1 6 = .ok (.astore_n 3, 1) := by decide +kernel
theorem eX0_spendsBefore_7 : decode rX0_spendsBefore.2.1 7 = .ok (.aload_n 0, 1) := by decide +kernel
theorem eX0_spendsBefore_8 : decode rX0_spendsBefore.2.1 8 = .ok (.getfield 11, 3) := by decide +kernel
theorem eX0_spendsBefore_11 : decode rX0_spendsBefore.2.1 11 = .ok (.iload_n 2, 1) := by decide +kernel
theorem eX0_spendsBefore_12 : decode rX0_spendsBefore.2.1 12 = .ok (.aaload, 1) := by decide +kernel
theorem eX0_spendsBefore_13 : decode rX0_spendsBefore.2.1 13 = .ok (.astore 4, 2) := by decide +kernel
theorem eX0_spendsBefore_15 : decode rX0_spendsBefore.2.1 15 = .ok (.aload_n 3, 1) := by decide +kernel
theorem eX0_spendsBefore_16 : decode rX0_spendsBefore.2.1 16 = .ok (.getfield 179, 3) := by decide +kernel
theorem eX0_spendsBefore_19 : decode rX0_spendsBefore.2.1 19 = .ok (.aload 4, 2) := by decide +kernel
theorem eX0_spendsBefore_21 : decode rX0_spendsBefore.2.1 21 = .ok (.getfield 179, 3) := by decide +kernel
theorem eX0_spendsBefore_24 : decode rX0_spendsBefore.2.1 24 = .ok (.if_icmp .eq 21, 3) := by decide +kernel
theorem eX0_spendsBefore_27 : decode rX0_spendsBefore.2.1 27 = .ok (.aload_n 3, 1) := by decide +kernel
theorem eX0_spendsBefore_28 : decode rX0_spendsBefore.2.1 28 = .ok (.getfield 179, 3) := by decide +kernel
theorem eX0_spendsBefore_31 : decode rX0_spendsBefore.2.1 31 = .ok (.aload 4, 2) := by decide +kernel
theorem eX0_spendsBefore_33 : decode rX0_spendsBefore.2.1 33 = .ok (.getfield 179, 3) := by decide +kernel
theorem eX0_spendsBefore_36 : decode rX0_spendsBefore.2.1 36 = .ok (.if_icmp .le 7, 3) := by decide +kernel
theorem eX0_spendsBefore_39 : decode rX0_spendsBefore.2.1 39 = .ok (.iconst 1, 1) := by decide +kernel
theorem eX0_spendsBefore_40 : decode rX0_spendsBefore.2.1 40 = .ok (.goto 4, 3) := by decide +kernel
theorem eX0_spendsBefore_43 : decode rX0_spendsBefore.2.1 43 = .ok (.iconst 0, 1) := by decide +kernel
theorem eX0_spendsBefore_44 : decode rX0_spendsBefore.2.1 44 = .ok (.ireturn, 1) := by decide +kernel
theorem eX0_spendsBefore_45 : decode rX0_spendsBefore.2.1 45 = .ok (.aload_n 3, 1) := by decide +kernel
theorem eX0_spendsBefore_46 : decode rX0_spendsBefore.2.1 46 = .ok (.getfield 109, 3) := by decide +kernel
theorem eX0_spendsBefore_49 : decode rX0_spendsBefore.2.1 49 = .ok (.aload 4, 2) := by decide +kernel
theorem eX0_spendsBefore_51 : decode rX0_spendsBefore.2.1 51 = .ok (.getfield 109, 3) := by decide +kernel
theorem eX0_spendsBefore_54 : decode rX0_spendsBefore.2.1 54 = .ok (.if_icmp .eq 21, 3) := by decide +kernel
theorem eX0_spendsBefore_57 : decode rX0_spendsBefore.2.1 57 = .ok (.aload_n 3, 1) := by decide +kernel
theorem eX0_spendsBefore_58 : decode rX0_spendsBefore.2.1 58 = .ok (.getfield 109, 3) := by decide +kernel
theorem eX0_spendsBefore_61 : decode rX0_spendsBefore.2.1 61 = .ok (.aload 4, 2) := by decide +kernel
theorem eX0_spendsBefore_63 : decode rX0_spendsBefore.2.1 63 = .ok (.getfield 109, 3) := by decide +kernel
theorem eX0_spendsBefore_66 : decode rX0_spendsBefore.2.1 66 = .ok (.if_icmp .le 7, 3) := by decide +kernel
theorem eX0_spendsBefore_69 : decode rX0_spendsBefore.2.1 69 = .ok (.iconst 1, 1) := by decide +kernel
theorem eX0_spendsBefore_70 : decode rX0_spendsBefore.2.1 70 = .ok (.goto 4, 3) := by decide +kernel
theorem eX0_spendsBefore_73 : decode rX0_spendsBefore.2.1 73 = .ok (.iconst 0, 1) := by decide +kernel
theorem eX0_spendsBefore_74 : decode rX0_spendsBefore.2.1 74 = .ok (.ireturn, 1) := by decide +kernel
theorem eX0_spendsBefore_75 : decode rX0_spendsBefore.2.1 75 = .ok (.iload_n 1, 1) := by decide +kernel
theorem eX0_spendsBefore_76 : decode rX0_spendsBefore.2.1 76 = .ok (.iload_n 2, 1) := by decide +kernel
theorem eX0_spendsBefore_77 : decode rX0_spendsBefore.2.1 77 = .ok (.if_icmp .ge 7, 3) := by decide +kernel
theorem eX0_spendsBefore_80 : decode rX0_spendsBefore.2.1 80 = .ok (.iconst 1, 1) := by decide +kernel
theorem eX0_spendsBefore_81 : decode rX0_spendsBefore.2.1 81 = .ok (.goto 4, 3) := by decide +kernel
theorem eX0_spendsBefore_84 : decode rX0_spendsBefore.2.1 84 = .ok (.iconst 0, 1) := by decide +kernel
theorem eX0_spendsBefore_85 : decode rX0_spendsBefore.2.1 85 = .ok (.ireturn, 1) := by decide +kernel
theorem eX0_sumOfAccounts_0 : decode rX0_sumOfAccounts.2.1 0 = .ok (.lconst 0, 1) := by decide +kernel
theorem eX0_sumOfAccounts_1 : decode rX0_sumOfAccounts.2.1 1 = .ok (.lstore_n 1, 1) := by decide +kernel
theorem eX0_sumOfAccounts_2 : decode rX0_sumOfAccounts.2.1 2 = .ok (.iconst 0, 1) := by decide +kernel
theorem eX0_sumOfAccounts_3 : decode rX0_sumOfAccounts.2.1 3 = .ok (.istore_n 3, 1) := by decide +kernel
theorem eX0_sumOfAccounts_4 : decode rX0_sumOfAccounts.2.1 4 = .ok (.iload_n 3, 1) := by decide +kernel
theorem eX0_sumOfAccounts_5 : decode rX0_sumOfAccounts.2.1 5 = .ok (.iconst 3, 1) := by decide +kernel
theorem eX0_sumOfAccounts_6 : decode rX0_sumOfAccounts.2.1 6 = .ok (.if_icmp .ge 22, 3) := by decide +kernel
theorem eX0_sumOfAccounts_9 : decode rX0_sumOfAccounts.2.1 9 = .ok (.lload_n 1, 1) := by decide +kernel
theorem eX0_sumOfAccounts_10 : decode rX0_sumOfAccounts.2.1 10 = .ok (.aload_n 0, 1) := by decide +kernel
theorem eX0_sumOfAccounts_11 : decode rX0_sumOfAccounts.2.1 11 = .ok (.getfield 11, 3) := by decide +kernel
theorem eX0_sumOfAccounts_14 : decode rX0_sumOfAccounts.2.1 14 = .ok (.iload_n 3, 1) := by decide +kernel
theorem eX0_sumOfAccounts_15 : decode rX0_sumOfAccounts.2.1 15 = .ok (.aaload, 1) := by decide +kernel
theorem eX0_sumOfAccounts_16 : decode rX0_sumOfAccounts.2.1 16 = .ok (.getfield 179, 3) := by decide +kernel
theorem eX0_sumOfAccounts_19 : decode rX0_sumOfAccounts.2.1 19 = .ok (.i2l, 1) := by decide +kernel
theorem eX0_sumOfAccounts_20 : decode rX0_sumOfAccounts.2.1 20 = .ok (.ladd, 1) := by decide +kernel
theorem eX0_sumOfAccounts_21 : decode rX0_sumOfAccounts.2.1 21 = .ok (.lstore_n 1, 1) := by decide +kernel
theorem eX0_sumOfAccounts_22 : decode rX0_sumOfAccounts.2.1 22 = .ok (.iinc 3 1, 3) := by decide +kernel
theorem eX0_sumOfAccounts_25 : decode rX0_sumOfAccounts.2.1 25 = .ok (.goto (-21), 3) := by decide +kernel
theorem eX0_sumOfAccounts_28 : decode rX0_sumOfAccounts.2.1 28 = .ok (.lload_n 1, 1) := by decide +kernel
theorem eX0_sumOfAccounts_29 : decode rX0_sumOfAccounts.2.1 29 = .ok (.lreturn, 1) := by decide +kernel
theorem eX0_energyOfMoves_0 : decode rX0_energyOfMoves.2.1 0 = .ok (.ldc2_w 233, 3) := by decide +kernel
theorem eX0_energyOfMoves_3 : decode rX0_energyOfMoves.2.1 3 = .ok (.aload_n 0, 1) := by decide +kernel
theorem eX0_energyOfMoves_4 : decode rX0_energyOfMoves.2.1 4 = .ok (.getfield 40, 3) := by decide +kernel
theorem eX0_energyOfMoves_7 : decode rX0_energyOfMoves.2.1 7 = .ok (.i2l, 1) := by decide +kernel
theorem eX0_energyOfMoves_8 : decode rX0_energyOfMoves.2.1 8 = .ok (.lmul, 1) := by decide +kernel
theorem eX0_energyOfMoves_9 : decode rX0_energyOfMoves.2.1 9 = .ok (.aload_n 0, 1) := by decide +kernel
theorem eX0_energyOfMoves_10 : decode rX0_energyOfMoves.2.1 10 = .ok (.getfield 46, 3) := by decide +kernel
theorem eX0_energyOfMoves_13 : decode rX0_energyOfMoves.2.1 13 = .ok (.i2l, 1) := by decide +kernel
theorem eX0_energyOfMoves_14 : decode rX0_energyOfMoves.2.1 14 = .ok (.ladd, 1) := by decide +kernel
theorem eX0_energyOfMoves_15 : decode rX0_energyOfMoves.2.1 15 = .ok (.aload_n 0, 1) := by decide +kernel
theorem eX0_energyOfMoves_16 : decode rX0_energyOfMoves.2.1 16 = .ok (.getfield 43, 3) := by decide +kernel
theorem eX0_energyOfMoves_19 : decode rX0_energyOfMoves.2.1 19 = .ok (.i2l, 1) := by decide +kernel
theorem eX0_energyOfMoves_20 : decode rX0_energyOfMoves.2.1 20 = .ok (.ladd, 1) := by decide +kernel
theorem eX0_energyOfMoves_21 : decode rX0_energyOfMoves.2.1 21 = .ok (.aload_n 0, 1) := by decide +kernel
theorem eX0_energyOfMoves_22 : decode rX0_energyOfMoves.2.1 22 = .ok (.getfield 49, 3) := by decide +kernel
theorem eX0_energyOfMoves_25 : decode rX0_energyOfMoves.2.1 25 = .ok (.i2l, 1) := by decide +kernel
theorem eX0_energyOfMoves_26 : decode rX0_energyOfMoves.2.1 26 = .ok (.ladd, 1) := by decide +kernel
theorem eX0_energyOfMoves_27 : decode rX0_energyOfMoves.2.1 27 = .ok (.lreturn, 1) := by decide +kernel
theorem eX0_estimatesAgree_0 : decode rX0_estimatesAgree.2.1 0 = .ok (.iconst 0, 1) := by decide +kernel
theorem eX0_estimatesAgree_1 : decode rX0_estimatesAgree.2.1 1 = .ok (.istore_n 1, 1) := by decide +kernel
theorem eX0_estimatesAgree_2 : decode rX0_estimatesAgree.2.1 2 = .ok (.iload_n 1, 1) := by decide +kernel
theorem eX0_estimatesAgree_3 : decode rX0_estimatesAgree.2.1 3 = .ok (.iconst 3, 1) := by decide +kernel
theorem eX0_estimatesAgree_4 : decode rX0_estimatesAgree.2.1 4 = .ok (.if_icmp .ge 40, 3) := by decide +kernel
theorem eX0_estimatesAgree_7 : decode rX0_estimatesAgree.2.1 7 = .ok (.iconst 0, 1) := by decide +kernel
theorem eX0_estimatesAgree_8 : decode rX0_estimatesAgree.2.1 8 = .ok (.istore_n 2, 1) := by decide +kernel
theorem eX0_estimatesAgree_9 : decode rX0_estimatesAgree.2.1 9 = .ok (.iload_n 2, 1) := by decide +kernel
theorem eX0_estimatesAgree_10 : decode rX0_estimatesAgree.2.1 10 = .ok (.bipush 10, 2) := by decide +kernel
theorem eX0_estimatesAgree_12 : decode rX0_estimatesAgree.2.1 12 = .ok (.if_icmp .ge 26, 3) := by decide +kernel
theorem eX0_estimatesAgree_15 : decode rX0_estimatesAgree.2.1 15 = .ok (.aload_n 0, 1) := by decide +kernel
theorem eX0_estimatesAgree_16 : decode rX0_estimatesAgree.2.1 16 = .ok (.iload_n 1, 1) := by decide +kernel
theorem eX0_estimatesAgree_17 : decode rX0_estimatesAgree.2.1 17 = .ok (.iload_n 2, 1) := by decide +kernel
theorem eX0_estimatesAgree_18 : decode rX0_estimatesAgree.2.1 18 = .ok (.invokevirtual 221, 3) := by decide +kernel
theorem eX0_estimatesAgree_21 : decode rX0_estimatesAgree.2.1 21 = .ok (.aload_n 0, 1) := by decide +kernel
theorem eX0_estimatesAgree_22 : decode rX0_estimatesAgree.2.1 22 = .ok (.iload_n 1, 1) := by decide +kernel
theorem eX0_estimatesAgree_23 : decode rX0_estimatesAgree.2.1 23 = .ok (.iload_n 2, 1) := by decide +kernel
theorem eX0_estimatesAgree_24 : decode rX0_estimatesAgree.2.1 24 = .ok (.invokevirtual 235, 3) := by decide +kernel
theorem eX0_estimatesAgree_27 : decode rX0_estimatesAgree.2.1 27 = .ok (.if_icmp .eq 5, 3) := by decide +kernel
theorem eX0_estimatesAgree_30 : decode rX0_estimatesAgree.2.1 30 = .ok (.iconst 0, 1) := by decide +kernel
theorem eX0_estimatesAgree_31 : decode rX0_estimatesAgree.2.1 31 = .ok (.ireturn, 1) := by decide +kernel
theorem eX0_estimatesAgree_32 : decode rX0_estimatesAgree.2.1 32 = .ok (.iinc 2 1, 3) := by decide +kernel
theorem eX0_estimatesAgree_35 : decode rX0_estimatesAgree.2.1 35 = .ok (.goto (-26), 3) := by decide +kernel
theorem eX0_estimatesAgree_38 : decode rX0_estimatesAgree.2.1 38 = .ok (.iinc 1 1, 3) := by decide +kernel
theorem eX0_estimatesAgree_41 : decode rX0_estimatesAgree.2.1 41 = .ok (.goto (-39), 3) := by decide +kernel
theorem eX0_estimatesAgree_44 : decode rX0_estimatesAgree.2.1 44 = .ok (.iconst 1, 1) := by decide +kernel
theorem eX0_estimatesAgree_45 : decode rX0_estimatesAgree.2.1 45 = .ok (.ireturn, 1) := by decide +kernel
theorem eX0_loadsFit_0 : decode rX0_loadsFit.2.1 0 = .ok (.iconst 0, 1) := by decide +kernel
theorem eX0_loadsFit_1 : decode rX0_loadsFit.2.1 1 = .ok (.istore_n 1, 1) := by decide +kernel
theorem eX0_loadsFit_2 : decode rX0_loadsFit.2.1 2 = .ok (.iload_n 1, 1) := by decide +kernel
theorem eX0_loadsFit_3 : decode rX0_loadsFit.2.1 3 = .ok (.iconst 3, 1) := by decide +kernel
theorem eX0_loadsFit_4 : decode rX0_loadsFit.2.1 4 = .ok (.if_icmp .ge 32, 3) := by decide +kernel
theorem eX0_loadsFit_7 : decode rX0_loadsFit.2.1 7 = .ok (.aload_n 0, 1) := by decide +kernel
theorem eX0_loadsFit_8 : decode rX0_loadsFit.2.1 8 = .ok (.getfield 11, 3) := by decide +kernel
theorem eX0_loadsFit_11 : decode rX0_loadsFit.2.1 11 = .ok (.iload_n 1, 1) := by decide +kernel
theorem eX0_loadsFit_12 : decode rX0_loadsFit.2.1 12 = .ok (.aaload, 1) := by decide +kernel
theorem eX0_loadsFit_13 : decode rX0_loadsFit.2.1 13 = .ok (.getfield 109, 3) := by decide +kernel
theorem eX0_loadsFit_16 : decode rX0_loadsFit.2.1 16 = .ok (.aload_n 0, 1) := by decide +kernel
theorem eX0_loadsFit_17 : decode rX0_loadsFit.2.1 17 = .ok (.getfield 11, 3) := by decide +kernel
theorem eX0_loadsFit_20 : decode rX0_loadsFit.2.1 20 = .ok (.iload_n 1, 1) := by decide +kernel
theorem eX0_loadsFit_21 : decode rX0_loadsFit.2.1 21 = .ok (.aaload, 1) := by decide +kernel
theorem eX0_loadsFit_22 : decode rX0_loadsFit.2.1 22 = .ok (.getfield 112, 3) := by decide +kernel
theorem eX0_loadsFit_25 : decode rX0_loadsFit.2.1 25 = .ok (.if_icmp .le 5, 3) := by decide +kernel
theorem eX0_loadsFit_28 : decode rX0_loadsFit.2.1 28 = .ok (.iconst 0, 1) := by decide +kernel
theorem eX0_loadsFit_29 : decode rX0_loadsFit.2.1 29 = .ok (.ireturn, 1) := by decide +kernel
theorem eX0_loadsFit_30 : decode rX0_loadsFit.2.1 30 = .ok (.iinc 1 1, 3) := by decide +kernel
theorem eX0_loadsFit_33 : decode rX0_loadsFit.2.1 33 = .ok (.goto (-31), 3) := by decide +kernel
theorem eX0_loadsFit_36 : decode rX0_loadsFit.2.1 36 = .ok (.iconst 1, 1) := by decide +kernel
theorem eX0_loadsFit_37 : decode rX0_loadsFit.2.1 37 = .ok (.ireturn, 1) := by decide +kernel
theorem eX0_assignmentsServe_0 : decode rX0_assignmentsServe.2.1 0 = .ok (.iconst 0, 1) := by decide +kernel
theorem eX0_assignmentsServe_1 : decode rX0_assignmentsServe.2.1 1 = .ok (.istore_n 1, 1) := by decide +kernel
theorem eX0_assignmentsServe_2 : decode rX0_assignmentsServe.2.1 2 = .ok (.iload_n 1, 1) := by decide +kernel
theorem eX0_assignmentsServe_3 : decode rX0_assignmentsServe.2.1 3 = .ok (.iconst 3, 1) := by decide +kernel
theorem eX0_assignmentsServe_4 : decode rX0_assignmentsServe.2.1 4 = .ok (.if_icmp .ge 31, 3) := by decide +kernel
theorem eX0_assignmentsServe_7 : decode rX0_assignmentsServe.2.1 7 = .ok (.aload_n 0, 1) := by decide +kernel
theorem eX0_assignmentsServe_8 : decode rX0_assignmentsServe.2.1 8 = .ok (.getfield 11, 3) := by decide +kernel
theorem eX0_assignmentsServe_11 : decode rX0_assignmentsServe.2.1 11 = .ok (.iload_n 1, 1) := by decide +kernel
theorem eX0_assignmentsServe_12 : decode rX0_assignmentsServe.2.1 12 = .ok (.aaload, 1) := by decide +kernel
theorem eX0_assignmentsServe_13 : decode rX0_assignmentsServe.2.1 13 = .ok (.getfield 106, 3) := by decide +kernel
theorem eX0_assignmentsServe_16 : decode rX0_assignmentsServe.2.1 16 = .ok (.ifCond .ne 13, 3) := by decide +kernel
theorem eX0_assignmentsServe_19 : decode rX0_assignmentsServe.2.1 19 = .ok (.aload_n 0, 1) := by decide +kernel
theorem eX0_assignmentsServe_20 : decode rX0_assignmentsServe.2.1 20 = .ok (.iload_n 1, 1) := by decide +kernel
theorem eX0_assignmentsServe_21 : decode rX0_assignmentsServe.2.1 21 = .ok (.invokevirtual 238, 3) := by decide +kernel
theorem eX0_assignmentsServe_24 : decode rX0_assignmentsServe.2.1 24 = .ok (.ifCond .le 5, 3) := by decide +kernel
theorem eX0_assignmentsServe_27 : decode rX0_assignmentsServe.2.1 27 = .ok (.iconst 0, 1) := by decide +kernel
theorem eX0_assignmentsServe_28 : decode rX0_assignmentsServe.2.1 28 = .ok (.ireturn, 1) := by decide +kernel
theorem eX0_assignmentsServe_29 : decode rX0_assignmentsServe.2.1 29 = .ok (.iinc 1 1, 3) := by decide +kernel
theorem eX0_assignmentsServe_32 : decode rX0_assignmentsServe.2.1 32 = .ok (.goto (-30), 3) := by decide +kernel
theorem eX0_assignmentsServe_35 : decode rX0_assignmentsServe.2.1 35 = .ok (.iconst 1, 1) := by decide +kernel
theorem eX0_assignmentsServe_36 : decode rX0_assignmentsServe.2.1 36 = .ok (.ireturn, 1) := by decide +kernel
theorem eX1_init_0 : decode rX1_init.2.1 0 = .ok (.aload_n 0, 1) := by decide +kernel
theorem eX1_init_1 : decode rX1_init.2.1 1 = .ok (.invokespecial 3, 3) := by decide +kernel
theorem eX1_init_4 : decode rX1_init.2.1 4 = .ok (.aload_n 0, 1) := by decide +kernel
theorem eX1_init_5 : decode rX1_init.2.1 5 = .ok (.iconst 0, 1) := by decide +kernel
theorem eX1_init_6 : decode rX1_init.2.1 6 = .ok (.putfield 9, 3) := by decide +kernel
theorem eX1_init_9 : decode rX1_init.2.1 9 = .ok (.aload_n 0, 1) := by decide +kernel
theorem eX1_init_10 : decode rX1_init.2.1 10 = .ok (.iconst 0, 1) := by decide +kernel
theorem eX1_init_11 : decode rX1_init.2.1 11 = .ok (.putfield 15, 3) := by decide +kernel
theorem eX1_init_14 : decode rX1_init.2.1 14 = .ok (.aload_n 0, 1) := by decide +kernel
theorem eX1_init_15 : decode rX1_init.2.1 15 = .ok (.sipush 400, 3) := by decide +kernel
theorem eX1_init_18 : decode rX1_init.2.1 18 = .ok (.putfield 18, 3) := by decide +kernel
theorem eX1_init_21 : decode rX1_init.2.1 21 = .ok (.aload_n 0, 1) := by decide +kernel
theorem eX1_init_22 : decode rX1_init.2.1 22 = .ok (.iconst 0, 1) := by decide +kernel
theorem eX1_init_23 : decode rX1_init.2.1 23 = .ok (.putfield 21, 3) := by decide +kernel
theorem eX1_init_26 : decode rX1_init.2.1 26 = .ok (.aload_n 0, 1) := by decide +kernel
theorem eX1_init_27 : decode rX1_init.2.1 27 = .ok (.iconst 0, 1) := by decide +kernel
theorem eX1_init_28 : decode rX1_init.2.1 28 = .ok (.putfield 24, 3) := by decide +kernel
theorem eX1_init_31 : decode rX1_init.2.1 31 = .ok (.aload_n 0, 1) := by decide +kernel
theorem eX1_init_32 : decode rX1_init.2.1 32 = .ok (.iconst 0, 1) := by decide +kernel
theorem eX1_init_33 : decode rX1_init.2.1 33 = .ok (.putfield 27, 3) := by decide +kernel
theorem eX1_init_36 : decode rX1_init.2.1 36 = .ok (.aload_n 0, 1) := by decide +kernel
theorem eX1_init_37 : decode rX1_init.2.1 37 = .ok (.iconst 0, 1) := by decide +kernel
theorem eX1_init_38 : decode rX1_init.2.1 38 = .ok (.putfield 30, 3) := by decide +kernel
theorem eX1_init_41 : decode rX1_init.2.1 41 = .ok (.aload_n 0, 1) := by decide +kernel
theorem eX1_init_42 : decode rX1_init.2.1 42 = .ok (.iconst 1, 1) := by decide +kernel
theorem eX1_init_43 : decode rX1_init.2.1 43 = .ok (.putfield 33, 3) := by decide +kernel
theorem eX1_init_46 : decode rX1_init.2.1 46 = .ok (.return_, 1) := by decide +kernel
theorem eX1_copyFrom_0 : decode rX1_copyFrom.2.1 0 = .ok (.aload_n 0, 1) := by decide +kernel
theorem eX1_copyFrom_1 : decode rX1_copyFrom.2.1 1 = .ok (.aload_n 1, 1) := by decide +kernel
theorem eX1_copyFrom_2 : decode rX1_copyFrom.2.1 2 = .ok (.getfield 9, 3) := by decide +kernel
theorem eX1_copyFrom_5 : decode rX1_copyFrom.2.1 5 = .ok (.putfield 9, 3) := by decide +kernel
theorem eX1_copyFrom_8 : decode rX1_copyFrom.2.1 8 = .ok (.aload_n 0, 1) := by decide +kernel
theorem eX1_copyFrom_9 : decode rX1_copyFrom.2.1 9 = .ok (.aload_n 1, 1) := by decide +kernel
theorem eX1_copyFrom_10 : decode rX1_copyFrom.2.1 10 = .ok (.getfield 15, 3) := by decide +kernel
theorem eX1_copyFrom_13 : decode rX1_copyFrom.2.1 13 = .ok (.putfield 15, 3) := by decide +kernel
theorem eX1_copyFrom_16 : decode rX1_copyFrom.2.1 16 = .ok (.aload_n 0, 1) := by decide +kernel
theorem eX1_copyFrom_17 : decode rX1_copyFrom.2.1 17 = .ok (.aload_n 1, 1) := by decide +kernel
theorem eX1_copyFrom_18 : decode rX1_copyFrom.2.1 18 = .ok (.getfield 18, 3) := by decide +kernel
theorem eX1_copyFrom_21 : decode rX1_copyFrom.2.1 21 = .ok (.putfield 18, 3) := by decide +kernel
theorem eX1_copyFrom_24 : decode rX1_copyFrom.2.1 24 = .ok (.aload_n 0, 1) := by decide +kernel
theorem eX1_copyFrom_25 : decode rX1_copyFrom.2.1 25 = .ok (.aload_n 1, 1) := by decide +kernel
theorem eX1_copyFrom_26 : decode rX1_copyFrom.2.1 26 = .ok (.getfield 21, 3) := by decide +kernel
theorem eX1_copyFrom_29 : decode rX1_copyFrom.2.1 29 = .ok (.putfield 21, 3) := by decide +kernel
theorem eX1_copyFrom_32 : decode rX1_copyFrom.2.1 32 = .ok (.aload_n 0, 1) := by decide +kernel
theorem eX1_copyFrom_33 : decode rX1_copyFrom.2.1 33 = .ok (.aload_n 1, 1) := by decide +kernel
theorem eX1_copyFrom_34 : decode rX1_copyFrom.2.1 34 = .ok (.getfield 24, 3) := by decide +kernel
theorem eX1_copyFrom_37 : decode rX1_copyFrom.2.1 37 = .ok (.putfield 24, 3) := by decide +kernel
theorem eX1_copyFrom_40 : decode rX1_copyFrom.2.1 40 = .ok (.aload_n 0, 1) := by decide +kernel
theorem eX1_copyFrom_41 : decode rX1_copyFrom.2.1 41 = .ok (.aload_n 1, 1) := by decide +kernel
theorem eX1_copyFrom_42 : decode rX1_copyFrom.2.1 42 = .ok (.getfield 27, 3) := by decide +kernel
theorem eX1_copyFrom_45 : decode rX1_copyFrom.2.1 45 = .ok (.putfield 27, 3) := by decide +kernel
theorem eX1_copyFrom_48 : decode rX1_copyFrom.2.1 48 = .ok (.aload_n 0, 1) := by decide +kernel
theorem eX1_copyFrom_49 : decode rX1_copyFrom.2.1 49 = .ok (.aload_n 1, 1) := by decide +kernel
theorem eX1_copyFrom_50 : decode rX1_copyFrom.2.1 50 = .ok (.getfield 30, 3) := by decide +kernel
theorem eX1_copyFrom_53 : decode rX1_copyFrom.2.1 53 = .ok (.putfield 30, 3) := by decide +kernel
theorem eX1_copyFrom_56 : decode rX1_copyFrom.2.1 56 = .ok (.aload_n 0, 1) := by decide +kernel
theorem eX1_copyFrom_57 : decode rX1_copyFrom.2.1 57 = .ok (.aload_n 1, 1) := by decide +kernel
theorem eX1_copyFrom_58 : decode rX1_copyFrom.2.1 58 = .ok (.getfield 33, 3) := by decide +kernel
theorem eX1_copyFrom_61 : decode rX1_copyFrom.2.1 61 = .ok (.putfield 33, 3) := by decide +kernel
theorem eX1_copyFrom_64 : decode rX1_copyFrom.2.1 64 = .ok (.return_, 1) := by decide +kernel
theorem eX2_init_0 : decode rX2_init.2.1 0 = .ok (.aload_n 0, 1) := by decide +kernel
theorem eX2_init_1 : decode rX2_init.2.1 1 = .ok (.invokespecial 3, 3) := by decide +kernel
theorem eX2_init_4 : decode rX2_init.2.1 4 = .ok (.aload_n 0, 1) := by decide +kernel
theorem eX2_init_5 : decode rX2_init.2.1 5 = .ok (.bipush 8, 2) := by decide +kernel
theorem eX2_init_7 : decode rX2_init.2.1 7 = .ok (.anewarray 9, 3) := by decide +kernel
theorem eX2_init_10 : decode rX2_init.2.1 10 = .ok (.putfield 11, 3) := by decide +kernel
theorem eX2_init_13 : decode rX2_init.2.1 13 = .ok (.aload_n 0, 1) := by decide +kernel
theorem eX2_init_14 : decode rX2_init.2.1 14 = .ok (.iconst 0, 1) := by decide +kernel
theorem eX2_init_15 : decode rX2_init.2.1 15 = .ok (.putfield 17, 3) := by decide +kernel
theorem eX2_init_18 : decode rX2_init.2.1 18 = .ok (.aload_n 0, 1) := by decide +kernel
theorem eX2_init_19 : decode rX2_init.2.1 19 = .ok (.iconst 0, 1) := by decide +kernel
theorem eX2_init_20 : decode rX2_init.2.1 20 = .ok (.putfield 21, 3) := by decide +kernel
theorem eX2_init_23 : decode rX2_init.2.1 23 = .ok (.iconst 0, 1) := by decide +kernel
theorem eX2_init_24 : decode rX2_init.2.1 24 = .ok (.istore_n 1, 1) := by decide +kernel
theorem eX2_init_25 : decode rX2_init.2.1 25 = .ok (.iload_n 1, 1) := by decide +kernel
theorem eX2_init_26 : decode rX2_init.2.1 26 = .ok (.bipush 8, 2) := by decide +kernel
theorem eX2_init_28 : decode rX2_init.2.1 28 = .ok (.if_icmp .ge 22, 3) := by decide +kernel
theorem eX2_init_31 : decode rX2_init.2.1 31 = .ok (.aload_n 0, 1) := by decide +kernel
theorem eX2_init_32 : decode rX2_init.2.1 32 = .ok (.getfield 11, 3) := by decide +kernel
theorem eX2_init_35 : decode rX2_init.2.1 35 = .ok (.iload_n 1, 1) := by decide +kernel
theorem eX2_init_36 : decode rX2_init.2.1 36 = .ok (.new 9, 3) := by decide +kernel
theorem eX2_init_39 : decode rX2_init.2.1 39 = .ok (.dup, 1) := by decide +kernel
theorem eX2_init_40 : decode rX2_init.2.1 40 = .ok (.invokespecial 24, 3) := by decide +kernel
theorem eX2_init_43 : decode rX2_init.2.1 43 = .ok (.aastore, 1) := by decide +kernel
theorem eX2_init_44 : decode rX2_init.2.1 44 = .ok (.iinc 1 1, 3) := by decide +kernel
theorem eX2_init_47 : decode rX2_init.2.1 47 = .ok (.goto (-22), 3) := by decide +kernel
theorem eX2_init_50 : decode rX2_init.2.1 50 = .ok (.return_, 1) := by decide +kernel
theorem eX2_remember_0 : decode rX2_remember.2.1 0 = .ok (.aload_n 0, 1) := by decide +kernel
theorem eX2_remember_1 : decode rX2_remember.2.1 1 = .ok (.getfield 11, 3) := by decide +kernel
theorem eX2_remember_4 : decode rX2_remember.2.1 4 = .ok (.aload_n 0, 1) := by decide +kernel
theorem eX2_remember_5 : decode rX2_remember.2.1 5 = .ok (.getfield 21, 3) := by decide +kernel
theorem eX2_remember_8 : decode rX2_remember.2.1 8 = .ok (.aaload, 1) := by decide +kernel
theorem eX2_remember_9 : decode rX2_remember.2.1 9 = .ok (.aload_n 1, 1) := by decide +kernel
theorem eX2_remember_10 : decode rX2_remember.2.1 10 = .ok (.invokevirtual 25, 3) := by decide +kernel
theorem eX2_remember_13 : decode rX2_remember.2.1 13 = .ok (.aload_n 0, 1) := by decide +kernel
theorem eX2_remember_14 : decode rX2_remember.2.1 14 = .ok (.aload_n 0, 1) := by decide +kernel
theorem eX2_remember_15 : decode rX2_remember.2.1 15 = .ok (.getfield 21, 3) := by decide +kernel
theorem eX2_remember_18 : decode rX2_remember.2.1 18 = .ok (.iconst 1, 1) := by decide +kernel
theorem eX2_remember_19 : decode rX2_remember.2.1 19 = .ok (.iadd, 1) := by decide +kernel
theorem eX2_remember_20 : decode rX2_remember.2.1 20 = .ok (.bipush 8, 2) := by decide +kernel
theorem eX2_remember_22 : decode rX2_remember.2.1 22 = .ok (.irem, 1) := by decide +kernel
theorem eX2_remember_23 : decode rX2_remember.2.1 23 = .ok (.putfield 21, 3) := by decide +kernel
theorem eX2_remember_26 : decode rX2_remember.2.1 26 = .ok (.aload_n 0, 1) := by decide +kernel
theorem eX2_remember_27 : decode rX2_remember.2.1 27 = .ok (.aload_n 0, 1) := by decide +kernel
theorem eX2_remember_28 : decode rX2_remember.2.1 28 = .ok (.getfield 17, 3) := by decide +kernel
theorem eX2_remember_31 : decode rX2_remember.2.1 31 = .ok (.iconst 1, 1) := by decide +kernel
theorem eX2_remember_32 : decode rX2_remember.2.1 32 = .ok (.iadd, 1) := by decide +kernel
theorem eX2_remember_33 : decode rX2_remember.2.1 33 = .ok (.bipush 8, 2) := by decide +kernel
theorem eX2_remember_35 : decode rX2_remember.2.1 35 = .ok (.invokestatic 29, 3) := by decide +kernel
theorem eX2_remember_38 : decode rX2_remember.2.1 38 = .ok (.putfield 17, 3) := by decide +kernel
theorem eX2_remember_41 : decode rX2_remember.2.1 41 = .ok (.return_, 1) := by decide +kernel
theorem eX2_takeBack_0 : decode rX2_takeBack.2.1 0 = .ok (.aload_n 0, 1) := by decide +kernel
theorem eX2_takeBack_1 : decode rX2_takeBack.2.1 1 = .ok (.aload_n 0, 1) := by decide +kernel
theorem eX2_takeBack_2 : decode rX2_takeBack.2.1 2 = .ok (.getfield 21, 3) := by decide +kernel
theorem eX2_takeBack_5 : decode rX2_takeBack.2.1 5 = .ok (.bipush 8, 2) := by decide +kernel
theorem eX2_takeBack_7 : decode rX2_takeBack.2.1 7 = .ok (.iadd, 1) := by decide +kernel
theorem eX2_takeBack_8 : decode rX2_takeBack.2.1 8 = .ok (.iconst 1, 1) := by decide +kernel
theorem eX2_takeBack_9 : decode rX2_takeBack.2.1 9 = .ok (.isub, 1) := by decide +kernel
theorem eX2_takeBack_10 : decode rX2_takeBack.2.1 10 = .ok (.bipush 8, 2) := by decide +kernel
theorem eX2_takeBack_12 : decode rX2_takeBack.2.1 12 = .ok (.irem, 1) := by decide +kernel
theorem eX2_takeBack_13 : decode rX2_takeBack.2.1 13 = .ok (.putfield 21, 3) := by decide +kernel
theorem eX2_takeBack_16 : decode rX2_takeBack.2.1 16 = .ok (.aload_n 0, 1) := by decide +kernel
theorem eX2_takeBack_17 : decode rX2_takeBack.2.1 17 = .ok (.dup, 1) := by decide +kernel
theorem eX2_takeBack_18 : decode rX2_takeBack.2.1 18 = .ok (.getfield 17, 3) := by decide +kernel
theorem eX2_takeBack_21 : decode rX2_takeBack.2.1 21 = .ok (.iconst 1, 1) := by decide +kernel
theorem eX2_takeBack_22 : decode rX2_takeBack.2.1 22 = .ok (.isub, 1) := by decide +kernel
theorem eX2_takeBack_23 : decode rX2_takeBack.2.1 23 = .ok (.putfield 17, 3) := by decide +kernel
theorem eX2_takeBack_26 : decode rX2_takeBack.2.1 26 = .ok (.aload_n 1, 1) := by decide +kernel
theorem eX2_takeBack_27 : decode rX2_takeBack.2.1 27 = .ok (.aload_n 0, 1) := by decide +kernel
theorem eX2_takeBack_28 : decode rX2_takeBack.2.1 28 = .ok (.getfield 11, 3) := by decide +kernel
theorem eX2_takeBack_31 : decode rX2_takeBack.2.1 31 = .ok (.aload_n 0, 1) := by decide +kernel
theorem eX2_takeBack_32 : decode rX2_takeBack.2.1 32 = .ok (.getfield 21, 3) := by decide +kernel
theorem eX2_takeBack_35 : decode rX2_takeBack.2.1 35 = .ok (.aaload, 1) := by decide +kernel
theorem eX2_takeBack_36 : decode rX2_takeBack.2.1 36 = .ok (.invokevirtual 25, 3) := by decide +kernel
theorem eX2_takeBack_39 : decode rX2_takeBack.2.1 39 = .ok (.return_, 1) := by decide +kernel
theorem eX3_init_0 : decode rX3_init.2.1 0 = .ok (.aload_n 0, 1) := by decide +kernel
theorem eX3_init_1 : decode rX3_init.2.1 1 = .ok (.invokespecial 3, 3) := by decide +kernel
theorem eX3_init_4 : decode rX3_init.2.1 4 = .ok (.aload_n 0, 1) := by decide +kernel
theorem eX3_init_5 : decode rX3_init.2.1 5 = .ok (.iconst 0, 1) := by decide +kernel
theorem eX3_init_6 : decode rX3_init.2.1 6 = .ok (.putfield 9, 3) := by decide +kernel
theorem eX3_init_9 : decode rX3_init.2.1 9 = .ok (.aload_n 0, 1) := by decide +kernel
theorem eX3_init_10 : decode rX3_init.2.1 10 = .ok (.iconst 0, 1) := by decide +kernel
theorem eX3_init_11 : decode rX3_init.2.1 11 = .ok (.putfield 15, 3) := by decide +kernel
theorem eX3_init_14 : decode rX3_init.2.1 14 = .ok (.aload_n 0, 1) := by decide +kernel
theorem eX3_init_15 : decode rX3_init.2.1 15 = .ok (.iconst 0, 1) := by decide +kernel
theorem eX3_init_16 : decode rX3_init.2.1 16 = .ok (.putfield 18, 3) := by decide +kernel
theorem eX3_init_19 : decode rX3_init.2.1 19 = .ok (.aload_n 0, 1) := by decide +kernel
theorem eX3_init_20 : decode rX3_init.2.1 20 = .ok (.iconst 0, 1) := by decide +kernel
theorem eX3_init_21 : decode rX3_init.2.1 21 = .ok (.putfield 21, 3) := by decide +kernel
theorem eX3_init_24 : decode rX3_init.2.1 24 = .ok (.aload_n 0, 1) := by decide +kernel
theorem eX3_init_25 : decode rX3_init.2.1 25 = .ok (.iconst 0, 1) := by decide +kernel
theorem eX3_init_26 : decode rX3_init.2.1 26 = .ok (.putfield 24, 3) := by decide +kernel
theorem eX3_init_29 : decode rX3_init.2.1 29 = .ok (.aload_n 0, 1) := by decide +kernel
theorem eX3_init_30 : decode rX3_init.2.1 30 = .ok (.iconst (-1), 1) := by decide +kernel
theorem eX3_init_31 : decode rX3_init.2.1 31 = .ok (.putfield 27, 3) := by decide +kernel
theorem eX3_init_34 : decode rX3_init.2.1 34 = .ok (.aload_n 0, 1) := by decide +kernel
theorem eX3_init_35 : decode rX3_init.2.1 35 = .ok (.iconst 0, 1) := by decide +kernel
theorem eX3_init_36 : decode rX3_init.2.1 36 = .ok (.putfield 30, 3) := by decide +kernel
theorem eX3_init_39 : decode rX3_init.2.1 39 = .ok (.return_, 1) := by decide +kernel
theorem eX3_copyFrom_0 : decode rX3_copyFrom.2.1 0 = .ok (.aload_n 0, 1) := by decide +kernel
theorem eX3_copyFrom_1 : decode rX3_copyFrom.2.1 1 = .ok (.aload_n 1, 1) := by decide +kernel
theorem eX3_copyFrom_2 : decode rX3_copyFrom.2.1 2 = .ok (.getfield 9, 3) := by decide +kernel
theorem eX3_copyFrom_5 : decode rX3_copyFrom.2.1 5 = .ok (.putfield 9, 3) := by decide +kernel
theorem eX3_copyFrom_8 : decode rX3_copyFrom.2.1 8 = .ok (.aload_n 0, 1) := by decide +kernel
theorem eX3_copyFrom_9 : decode rX3_copyFrom.2.1 9 = .ok (.aload_n 1, 1) := by decide +kernel
theorem eX3_copyFrom_10 : decode rX3_copyFrom.2.1 10 = .ok (.getfield 15, 3) := by decide +kernel
theorem eX3_copyFrom_13 : decode rX3_copyFrom.2.1 13 = .ok (.putfield 15, 3) := by decide +kernel
theorem eX3_copyFrom_16 : decode rX3_copyFrom.2.1 16 = .ok (.aload_n 0, 1) := by decide +kernel
theorem eX3_copyFrom_17 : decode rX3_copyFrom.2.1 17 = .ok (.aload_n 1, 1) := by decide +kernel
theorem eX3_copyFrom_18 : decode rX3_copyFrom.2.1 18 = .ok (.getfield 18, 3) := by decide +kernel
theorem eX3_copyFrom_21 : decode rX3_copyFrom.2.1 21 = .ok (.putfield 18, 3) := by decide +kernel
theorem eX3_copyFrom_24 : decode rX3_copyFrom.2.1 24 = .ok (.aload_n 0, 1) := by decide +kernel
theorem eX3_copyFrom_25 : decode rX3_copyFrom.2.1 25 = .ok (.aload_n 1, 1) := by decide +kernel
theorem eX3_copyFrom_26 : decode rX3_copyFrom.2.1 26 = .ok (.getfield 21, 3) := by decide +kernel
theorem eX3_copyFrom_29 : decode rX3_copyFrom.2.1 29 = .ok (.putfield 21, 3) := by decide +kernel
theorem eX3_copyFrom_32 : decode rX3_copyFrom.2.1 32 = .ok (.aload_n 0, 1) := by decide +kernel
theorem eX3_copyFrom_33 : decode rX3_copyFrom.2.1 33 = .ok (.aload_n 1, 1) := by decide +kernel
theorem eX3_copyFrom_34 : decode rX3_copyFrom.2.1 34 = .ok (.getfield 24, 3) := by decide +kernel
theorem eX3_copyFrom_37 : decode rX3_copyFrom.2.1 37 = .ok (.putfield 24, 3) := by decide +kernel
theorem eX3_copyFrom_40 : decode rX3_copyFrom.2.1 40 = .ok (.aload_n 0, 1) := by decide +kernel
theorem eX3_copyFrom_41 : decode rX3_copyFrom.2.1 41 = .ok (.aload_n 1, 1) := by decide +kernel
theorem eX3_copyFrom_42 : decode rX3_copyFrom.2.1 42 = .ok (.getfield 27, 3) := by decide +kernel
theorem eX3_copyFrom_45 : decode rX3_copyFrom.2.1 45 = .ok (.putfield 27, 3) := by decide +kernel
theorem eX3_copyFrom_48 : decode rX3_copyFrom.2.1 48 = .ok (.aload_n 0, 1) := by decide +kernel
theorem eX3_copyFrom_49 : decode rX3_copyFrom.2.1 49 = .ok (.aload_n 1, 1) := by decide +kernel
theorem eX3_copyFrom_50 : decode rX3_copyFrom.2.1 50 = .ok (.getfield 30, 3) := by decide +kernel
theorem eX3_copyFrom_53 : decode rX3_copyFrom.2.1 53 = .ok (.putfield 30, 3) := by decide +kernel
theorem eX3_copyFrom_56 : decode rX3_copyFrom.2.1 56 = .ok (.return_, 1) := by decide +kernel
theorem eX4_init_0 : decode rX4_init.2.1 0 = .ok (.aload_n 0, 1) := by decide +kernel
theorem eX4_init_1 : decode rX4_init.2.1 1 = .ok (.invokespecial 3, 3) := by decide +kernel
theorem eX4_init_4 : decode rX4_init.2.1 4 = .ok (.aload_n 0, 1) := by decide +kernel
theorem eX4_init_5 : decode rX4_init.2.1 5 = .ok (.new 9, 3) := by decide +kernel
theorem eX4_init_8 : decode rX4_init.2.1 8 = .ok (.dup, 1) := by decide +kernel
theorem eX4_init_9 : decode rX4_init.2.1 9 = .ok (.invokespecial 11, 3) := by decide +kernel
theorem eX4_init_12 : decode rX4_init.2.1 12 = .ok (.putfield 12, 3) := by decide +kernel
theorem eX4_init_15 : decode rX4_init.2.1 15 = .ok (.aload_n 0, 1) := by decide +kernel
theorem eX4_init_16 : decode rX4_init.2.1 16 = .ok (.bipush 13, 2) := by decide +kernel
theorem eX4_init_18 : decode rX4_init.2.1 18 = .ok (.newarray .int, 2) := by decide +kernel
theorem eX4_init_20 : decode rX4_init.2.1 20 = .ok (.putfield 18, 3) := by decide +kernel
theorem eX4_init_23 : decode rX4_init.2.1 23 = .ok (.aload_n 0, 1) := by decide +kernel
theorem eX4_init_24 : decode rX4_init.2.1 24 = .ok (.bipush 13, 2) := by decide +kernel
theorem eX4_init_26 : decode rX4_init.2.1 26 = .ok (.iconst 3, 1) := by decide +kernel
theorem eX4_init_27 : decode rX4_init.2.1 27 = .ok (.multianewarray 22 2, 4) := by decide +kernel
theorem eX4_init_31 : decode rX4_init.2.1 31 = .ok (.putfield 24, 3) := by decide +kernel
theorem eX4_init_34 : decode rX4_init.2.1 34 = .ok (.aload_n 0, 1) := by decide +kernel
theorem eX4_init_35 : decode rX4_init.2.1 35 = .ok (.iconst 0, 1) := by decide +kernel
theorem eX4_init_36 : decode rX4_init.2.1 36 = .ok (.putfield 27, 3) := by decide +kernel
theorem eX4_init_39 : decode rX4_init.2.1 39 = .ok (.aload_n 0, 1) := by decide +kernel
theorem eX4_init_40 : decode rX4_init.2.1 40 = .ok (.iconst 0, 1) := by decide +kernel
theorem eX4_init_41 : decode rX4_init.2.1 41 = .ok (.putfield 31, 3) := by decide +kernel
theorem eX4_init_44 : decode rX4_init.2.1 44 = .ok (.return_, 1) := by decide +kernel
theorem eX4_formOf_0 : decode rX4_formOf.2.1 0 = .ok (.iload_n 0, 1) := by decide +kernel
theorem eX4_formOf_1 : decode rX4_formOf.2.1 1 = .ok (.tableswitch 64 0 6 #[43, 46, 49, 52, 55, 58, 61], 43) := by decide +kernel
theorem eX4_formOf_44 : decode rX4_formOf.2.1 44 = .ok (.ldc 34, 2) := by decide +kernel
theorem eX4_formOf_46 : decode rX4_formOf.2.1 46 = .ok (.areturn, 1) := by decide +kernel
theorem eX4_formOf_47 : decode rX4_formOf.2.1 47 = .ok (.ldc 36, 2) := by decide +kernel
theorem eX4_formOf_49 : decode rX4_formOf.2.1 49 = .ok (.areturn, 1) := by decide +kernel
theorem eX4_formOf_50 : decode rX4_formOf.2.1 50 = .ok (.ldc 38, 2) := by decide +kernel
theorem eX4_formOf_52 : decode rX4_formOf.2.1 52 = .ok (.areturn, 1) := by decide +kernel
theorem eX4_formOf_53 : decode rX4_formOf.2.1 53 = .ok (.ldc 40, 2) := by decide +kernel
theorem eX4_formOf_55 : decode rX4_formOf.2.1 55 = .ok (.areturn, 1) := by decide +kernel
theorem eX4_formOf_56 : decode rX4_formOf.2.1 56 = .ok (.ldc 42, 2) := by decide +kernel
theorem eX4_formOf_58 : decode rX4_formOf.2.1 58 = .ok (.areturn, 1) := by decide +kernel
theorem eX4_formOf_59 : decode rX4_formOf.2.1 59 = .ok (.ldc 44, 2) := by decide +kernel
theorem eX4_formOf_61 : decode rX4_formOf.2.1 61 = .ok (.areturn, 1) := by decide +kernel
theorem eX4_formOf_62 : decode rX4_formOf.2.1 62 = .ok (.ldc 46, 2) := by decide +kernel
theorem eX4_formOf_64 : decode rX4_formOf.2.1 64 = .ok (.areturn, 1) := by decide +kernel
theorem eX4_formOf_65 : decode rX4_formOf.2.1 65 = .ok (.ldc 48, 2) := by decide +kernel
theorem eX4_formOf_67 : decode rX4_formOf.2.1 67 = .ok (.areturn, 1) := by decide +kernel
theorem eX4_read_0 : decode rX4_read.2.1 0 = .ok (.iconst 0, 1) := by decide +kernel
theorem eX4_read_1 : decode rX4_read.2.1 1 = .ok (.istore_n 1, 1) := by decide +kernel
theorem eX4_read_2 : decode rX4_read.2.1 2 = .ok (.aload_n 0, 1) := by decide +kernel
theorem eX4_read_3 : decode rX4_read.2.1 3 = .ok (.iconst 0, 1) := by decide +kernel
theorem eX4_read_4 : decode rX4_read.2.1 4 = .ok (.putfield 27, 3) := by decide +kernel
theorem eX4_read_7 : decode rX4_read.2.1 7 = .ok (.iconst 0, 1) := by decide +kernel
theorem eX4_read_8 : decode rX4_read.2.1 8 = .ok (.istore_n 2, 1) := by decide +kernel
theorem eX4_read_9 : decode rX4_read.2.1 9 = .ok (.iload_n 2, 1) := by decide +kernel
theorem eX4_read_10 : decode rX4_read.2.1 10 = .ok (.bipush 13, 2) := by decide +kernel
theorem eX4_read_12 : decode rX4_read.2.1 12 = .ok (.if_icmp .ge 52, 3) := by decide +kernel
theorem eX4_read_15 : decode rX4_read.2.1 15 = .ok (.aload_n 0, 1) := by decide +kernel
theorem eX4_read_16 : decode rX4_read.2.1 16 = .ok (.iload_n 1, 1) := by decide +kernel
theorem eX4_read_17 : decode rX4_read.2.1 17 = .ok (.invokevirtual 50, 3) := by decide +kernel
theorem eX4_read_20 : decode rX4_read.2.1 20 = .ok (.istore_n 3, 1) := by decide +kernel
theorem eX4_read_21 : decode rX4_read.2.1 21 = .ok (.iload_n 3, 1) := by decide +kernel
theorem eX4_read_22 : decode rX4_read.2.1 22 = .ok (.iconst (-1), 1) := by decide +kernel
theorem eX4_read_23 : decode rX4_read.2.1 23 = .ok (.if_icmp .ne 8, 3) := by decide +kernel
theorem eX4_read_26 : decode rX4_read.2.1 26 = .ok (.aload_n 0, 1) := by decide +kernel
theorem eX4_read_27 : decode rX4_read.2.1 27 = .ok (.getfield 31, 3) := by decide +kernel
theorem eX4_read_30 : decode rX4_read.2.1 30 = .ok (.ireturn, 1) := by decide +kernel
theorem eX4_read_31 : decode rX4_read.2.1 31 = .ok (.aload_n 0, 1) := by decide +kernel
theorem eX4_read_32 : decode rX4_read.2.1 32 = .ok (.dup, 1) := by decide +kernel
theorem eX4_read_33 : decode rX4_read.2.1 33 = .ok (.getfield 27, 3) := by decide +kernel
theorem eX4_read_36 : decode rX4_read.2.1 36 = .ok (.iconst 1, 1) := by decide +kernel
theorem eX4_read_37 : decode rX4_read.2.1 37 = .ok (.iadd, 1) := by decide +kernel
theorem eX4_read_38 : decode rX4_read.2.1 38 = .ok (.putfield 27, 3) := by decide +kernel
theorem eX4_read_41 : decode rX4_read.2.1 41 = .ok (.iload_n 3, 1) := by decide +kernel
theorem eX4_read_42 : decode rX4_read.2.1 42 = .ok (.aload_n 0, 1) := by decide +kernel
theorem eX4_read_43 : decode rX4_read.2.1 43 = .ok (.getfield 12, 3) := by decide +kernel
theorem eX4_read_46 : decode rX4_read.2.1 46 = .ok (.invokevirtual 54, 3) := by decide +kernel
theorem eX4_read_49 : decode rX4_read.2.1 49 = .ok (.if_icmp .lt 5, 3) := by decide +kernel
theorem eX4_read_52 : decode rX4_read.2.1 52 = .ok (.iconst (-1), 1) := by decide +kernel
theorem eX4_read_53 : decode rX4_read.2.1 53 = .ok (.ireturn, 1) := by decide +kernel
theorem eX4_read_54 : decode rX4_read.2.1 54 = .ok (.iload_n 3, 1) := by decide +kernel
theorem eX4_read_55 : decode rX4_read.2.1 55 = .ok (.iconst 1, 1) := by decide +kernel
theorem eX4_read_56 : decode rX4_read.2.1 56 = .ok (.iadd, 1) := by decide +kernel
theorem eX4_read_57 : decode rX4_read.2.1 57 = .ok (.istore_n 1, 1) := by decide +kernel
theorem eX4_read_58 : decode rX4_read.2.1 58 = .ok (.iinc 2 1, 3) := by decide +kernel
theorem eX4_read_61 : decode rX4_read.2.1 61 = .ok (.goto (-52), 3) := by decide +kernel
theorem eX4_read_64 : decode rX4_read.2.1 64 = .ok (.iload_n 1, 1) := by decide +kernel
theorem eX4_read_65 : decode rX4_read.2.1 65 = .ok (.ireturn, 1) := by decide +kernel
theorem eX4_endOfCommand_0 : decode rX4_endOfCommand.2.1 0 = .ok (.aload_n 0, 1) := by decide +kernel
theorem eX4_endOfCommand_1 : decode rX4_endOfCommand.2.1 1 = .ok (.iload_n 1, 1) := by decide +kernel
theorem eX4_endOfCommand_2 : decode rX4_endOfCommand.2.1 2 = .ok (.putfield 31, 3) := by decide +kernel
theorem eX4_endOfCommand_5 : decode rX4_endOfCommand.2.1 5 = .ok (.iconst 0, 1) := by decide +kernel
theorem eX4_endOfCommand_6 : decode rX4_endOfCommand.2.1 6 = .ok (.istore_n 2, 1) := by decide +kernel
theorem eX4_endOfCommand_7 : decode rX4_endOfCommand.2.1 7 = .ok (.iload_n 2, 1) := by decide +kernel
theorem eX4_endOfCommand_8 : decode rX4_endOfCommand.2.1 8 = .ok (.bipush 8, 2) := by decide +kernel
theorem eX4_endOfCommand_10 : decode rX4_endOfCommand.2.1 10 = .ok (.if_icmp .ge 33, 3) := by decide +kernel
theorem eX4_endOfCommand_13 : decode rX4_endOfCommand.2.1 13 = .ok (.aload_n 0, 1) := by decide +kernel
theorem eX4_endOfCommand_14 : decode rX4_endOfCommand.2.1 14 = .ok (.iload_n 2, 1) := by decide +kernel
theorem eX4_endOfCommand_15 : decode rX4_endOfCommand.2.1 15 = .ok (.iload_n 1, 1) := by decide +kernel
theorem eX4_endOfCommand_16 : decode rX4_endOfCommand.2.1 16 = .ok (.invokevirtual 58, 3) := by decide +kernel
theorem eX4_endOfCommand_19 : decode rX4_endOfCommand.2.1 19 = .ok (.istore_n 3, 1) := by decide +kernel
theorem eX4_endOfCommand_20 : decode rX4_endOfCommand.2.1 20 = .ok (.iload_n 3, 1) := by decide +kernel
theorem eX4_endOfCommand_21 : decode rX4_endOfCommand.2.1 21 = .ok (.iconst (-1), 1) := by decide +kernel
theorem eX4_endOfCommand_22 : decode rX4_endOfCommand.2.1 22 = .ok (.if_icmp .eq 15, 3) := by decide +kernel
theorem eX4_endOfCommand_25 : decode rX4_endOfCommand.2.1 25 = .ok (.aload_n 0, 1) := by decide +kernel
theorem eX4_endOfCommand_26 : decode rX4_endOfCommand.2.1 26 = .ok (.getfield 18, 3) := by decide +kernel
theorem eX4_endOfCommand_29 : decode rX4_endOfCommand.2.1 29 = .ok (.aload_n 0, 1) := by decide +kernel
theorem eX4_endOfCommand_30 : decode rX4_endOfCommand.2.1 30 = .ok (.getfield 27, 3) := by decide +kernel
theorem eX4_endOfCommand_33 : decode rX4_endOfCommand.2.1 33 = .ok (.iload_n 2, 1) := by decide +kernel
theorem eX4_endOfCommand_34 : decode rX4_endOfCommand.2.1 34 = .ok (.iastore, 1) := by decide +kernel
theorem eX4_endOfCommand_35 : decode rX4_endOfCommand.2.1 35 = .ok (.iload_n 3, 1) := by decide +kernel
theorem eX4_endOfCommand_36 : decode rX4_endOfCommand.2.1 36 = .ok (.ireturn, 1) := by decide +kernel
theorem eX4_endOfCommand_37 : decode rX4_endOfCommand.2.1 37 = .ok (.iinc 2 1, 3) := by decide +kernel
theorem eX4_endOfCommand_40 : decode rX4_endOfCommand.2.1 40 = .ok (.goto (-33), 3) := by decide +kernel
theorem eX4_endOfCommand_43 : decode rX4_endOfCommand.2.1 43 = .ok (.iconst (-1), 1) := by decide +kernel
theorem eX4_endOfCommand_44 : decode rX4_endOfCommand.2.1 44 = .ok (.ireturn, 1) := by decide +kernel
theorem eX4_endOfForm_0 : decode rX4_endOfForm.2.1 0 = .ok (.iload_n 1, 1) := by decide +kernel
theorem eX4_endOfForm_1 : decode rX4_endOfForm.2.1 1 = .ok (.invokestatic 62, 3) := by decide +kernel
theorem eX4_endOfForm_4 : decode rX4_endOfForm.2.1 4 = .ok (.astore_n 3, 1) := by decide +kernel
theorem eX4_endOfForm_5 : decode rX4_endOfForm.2.1 5 = .ok (.iload_n 2, 1) := by decide +kernel
theorem eX4_endOfForm_6 : decode rX4_endOfForm.2.1 6 = .ok (.istore 4, 2) := by decide +kernel
theorem eX4_endOfForm_8 : decode rX4_endOfForm.2.1 8 = .ok (.iconst 0, 1) := by decide +kernel
theorem eX4_endOfForm_9 : decode rX4_endOfForm.2.1 9 = .ok (.istore 5, 2) := by decide +kernel
theorem eX4_endOfForm_11 : decode rX4_endOfForm.2.1 11 = .ok (.iconst 0, 1) := by decide +kernel
theorem eX4_endOfForm_12 : decode rX4_endOfForm.2.1 12 = .ok (.istore 6, 2) := by decide +kernel
theorem eX4_endOfForm_14 : decode rX4_endOfForm.2.1 14 = .ok (.iload 6, 2) := by decide +kernel
theorem eX4_endOfForm_16 : decode rX4_endOfForm.2.1 16 = .ok (.aload_n 3, 1) := by decide +kernel
theorem eX4_endOfForm_17 : decode rX4_endOfForm.2.1 17 = .ok (.invokevirtual 66, 3) := by decide +kernel
theorem eX4_endOfForm_20 : decode rX4_endOfForm.2.1 20 = .ok (.if_icmp .ge 130, 3) := by decide +kernel
theorem eX4_endOfForm_23 : decode rX4_endOfForm.2.1 23 = .ok (.aload_n 3, 1) := by decide +kernel
theorem eX4_endOfForm_24 : decode rX4_endOfForm.2.1 24 = .ok (.iload 6, 2) := by decide +kernel
theorem eX4_endOfForm_26 : decode rX4_endOfForm.2.1 26 = .ok (.invokevirtual 69, 3) := by decide +kernel
theorem eX4_endOfForm_29 : decode rX4_endOfForm.2.1 29 = .ok (.istore 7, 2) := by decide +kernel
theorem eX4_endOfForm_31 : decode rX4_endOfForm.2.1 31 = .ok (.iload 4, 2) := by decide +kernel
theorem eX4_endOfForm_33 : decode rX4_endOfForm.2.1 33 = .ok (.istore 8, 2) := by decide +kernel
theorem eX4_endOfForm_35 : decode rX4_endOfForm.2.1 35 = .ok (.iload 7, 2) := by decide +kernel
theorem eX4_endOfForm_37 : decode rX4_endOfForm.2.1 37 = .ok (.bipush 48, 2) := by decide +kernel
theorem eX4_endOfForm_39 : decode rX4_endOfForm.2.1 39 = .ok (.if_icmp .eq 10, 3) := by decide +kernel
theorem eX4_endOfForm_42 : decode rX4_endOfForm.2.1 42 = .ok (.iload 7, 2) := by decide +kernel
theorem eX4_endOfForm_44 : decode rX4_endOfForm.2.1 44 = .ok (.bipush 78, 2) := by decide +kernel
theorem eX4_endOfForm_46 : decode rX4_endOfForm.2.1 46 = .ok (.if_icmp .ne 55, 3) := by decide +kernel
theorem eX4_endOfForm_49 : decode rX4_endOfForm.2.1 49 = .ok (.aload_n 0, 1) := by decide +kernel
theorem eX4_endOfForm_50 : decode rX4_endOfForm.2.1 50 = .ok (.iload 8, 2) := by decide +kernel
theorem eX4_endOfForm_52 : decode rX4_endOfForm.2.1 52 = .ok (.iload 7, 2) := by decide +kernel
theorem eX4_endOfForm_54 : decode rX4_endOfForm.2.1 54 = .ok (.bipush 48, 2) := by decide +kernel
theorem eX4_endOfForm_56 : decode rX4_endOfForm.2.1 56 = .ok (.if_icmp .ne 7, 3) := by decide +kernel
theorem eX4_endOfForm_59 : decode rX4_endOfForm.2.1 59 = .ok (.iconst 1, 1) := by decide +kernel
theorem eX4_endOfForm_60 : decode rX4_endOfForm.2.1 60 = .ok (.goto 4, 3) := by decide +kernel
theorem eX4_endOfForm_63 : decode rX4_endOfForm.2.1 63 = .ok (.iconst 3, 1) := by decide +kernel
theorem eX4_endOfForm_64 : decode rX4_endOfForm.2.1 64 = .ok (.invokevirtual 73, 3) := by decide +kernel
theorem eX4_endOfForm_67 : decode rX4_endOfForm.2.1 67 = .ok (.istore 4, 2) := by decide +kernel
theorem eX4_endOfForm_69 : decode rX4_endOfForm.2.1 69 = .ok (.iload 5, 2) := by decide +kernel
theorem eX4_endOfForm_71 : decode rX4_endOfForm.2.1 71 = .ok (.iconst 3, 1) := by decide +kernel
theorem eX4_endOfForm_72 : decode rX4_endOfForm.2.1 72 = .ok (.if_icmp .ge 58, 3) := by decide +kernel
theorem eX4_endOfForm_75 : decode rX4_endOfForm.2.1 75 = .ok (.aload_n 0, 1) := by decide +kernel
theorem eX4_endOfForm_76 : decode rX4_endOfForm.2.1 76 = .ok (.getfield 24, 3) := by decide +kernel
theorem eX4_endOfForm_79 : decode rX4_endOfForm.2.1 79 = .ok (.aload_n 0, 1) := by decide +kernel
theorem eX4_endOfForm_80 : decode rX4_endOfForm.2.1 80 = .ok (.getfield 27, 3) := by decide +kernel
theorem eX4_endOfForm_83 : decode rX4_endOfForm.2.1 83 = .ok (.aaload, 1) := by decide +kernel
theorem eX4_endOfForm_84 : decode rX4_endOfForm.2.1 84 = .ok (.iload 5, 2) := by decide +kernel
theorem eX4_endOfForm_86 : decode rX4_endOfForm.2.1 86 = .ok (.aload_n 0, 1) := by decide +kernel
theorem eX4_endOfForm_87 : decode rX4_endOfForm.2.1 87 = .ok (.iload 8, 2) := by decide +kernel
theorem eX4_endOfForm_89 : decode rX4_endOfForm.2.1 89 = .ok (.iload 4, 2) := by decide +kernel
theorem eX4_endOfForm_91 : decode rX4_endOfForm.2.1 91 = .ok (.invokevirtual 76, 3) := by decide +kernel
theorem eX4_endOfForm_94 : decode rX4_endOfForm.2.1 94 = .ok (.iastore, 1) := by decide +kernel
theorem eX4_endOfForm_95 : decode rX4_endOfForm.2.1 95 = .ok (.iinc 5 1, 3) := by decide +kernel
theorem eX4_endOfForm_98 : decode rX4_endOfForm.2.1 98 = .ok (.goto 32, 3) := by decide +kernel
theorem eX4_endOfForm_101 : decode rX4_endOfForm.2.1 101 = .ok (.iload 4, 2) := by decide +kernel
theorem eX4_endOfForm_103 : decode rX4_endOfForm.2.1 103 = .ok (.aload_n 0, 1) := by decide +kernel
theorem eX4_endOfForm_104 : decode rX4_endOfForm.2.1 104 = .ok (.getfield 12, 3) := by decide +kernel
theorem eX4_endOfForm_107 : decode rX4_endOfForm.2.1 107 = .ok (.invokevirtual 54, 3) := by decide +kernel
theorem eX4_endOfForm_110 : decode rX4_endOfForm.2.1 110 = .ok (.if_icmp .ge 20, 3) := by decide +kernel
theorem eX4_endOfForm_113 : decode rX4_endOfForm.2.1 113 = .ok (.aload_n 0, 1) := by decide +kernel
theorem eX4_endOfForm_114 : decode rX4_endOfForm.2.1 114 = .ok (.getfield 12, 3) := by decide +kernel
theorem eX4_endOfForm_117 : decode rX4_endOfForm.2.1 117 = .ok (.iload 4, 2) := by decide +kernel
theorem eX4_endOfForm_119 : decode rX4_endOfForm.2.1 119 = .ok (.invokevirtual 79, 3) := by decide +kernel
theorem eX4_endOfForm_122 : decode rX4_endOfForm.2.1 122 = .ok (.iload 7, 2) := by decide +kernel
theorem eX4_endOfForm_124 : decode rX4_endOfForm.2.1 124 = .ok (.if_icmp .ne 6, 3) := by decide +kernel
theorem eX4_endOfForm_127 : decode rX4_endOfForm.2.1 127 = .ok (.iinc 4 1, 3) := by decide +kernel
theorem eX4_endOfForm_130 : decode rX4_endOfForm.2.1 130 = .ok (.iload 4, 2) := by decide +kernel
theorem eX4_endOfForm_132 : decode rX4_endOfForm.2.1 132 = .ok (.iload 8, 2) := by decide +kernel
theorem eX4_endOfForm_134 : decode rX4_endOfForm.2.1 134 = .ok (.if_icmp .ne 10, 3) := by decide +kernel
theorem eX4_endOfForm_137 : decode rX4_endOfForm.2.1 137 = .ok (.aload_n 0, 1) := by decide +kernel
theorem eX4_endOfForm_138 : decode rX4_endOfForm.2.1 138 = .ok (.iload 4, 2) := by decide +kernel
theorem eX4_endOfForm_140 : decode rX4_endOfForm.2.1 140 = .ok (.invokevirtual 80, 3) := by decide +kernel
theorem eX4_endOfForm_143 : decode rX4_endOfForm.2.1 143 = .ok (.ireturn, 1) := by decide +kernel
theorem eX4_endOfForm_144 : decode rX4_endOfForm.2.1 144 = .ok (.iinc 6 1, 3) := by decide +kernel
theorem eX4_endOfForm_147 : decode rX4_endOfForm.2.1 147 = .ok (.goto (-133), 3) := by decide +kernel
theorem eX4_endOfForm_150 : decode rX4_endOfForm.2.1 150 = .ok (.iload 4, 2) := by decide +kernel
theorem eX4_endOfForm_152 : decode rX4_endOfForm.2.1 152 = .ok (.aload_n 0, 1) := by decide +kernel
theorem eX4_endOfForm_153 : decode rX4_endOfForm.2.1 153 = .ok (.getfield 12, 3) := by decide +kernel
theorem eX4_endOfForm_156 : decode rX4_endOfForm.2.1 156 = .ok (.invokevirtual 54, 3) := by decide +kernel
theorem eX4_endOfForm_159 : decode rX4_endOfForm.2.1 159 = .ok (.if_icmp .ge 26, 3) := by decide +kernel
theorem eX4_endOfForm_162 : decode rX4_endOfForm.2.1 162 = .ok (.aload_n 0, 1) := by decide +kernel
theorem eX4_endOfForm_163 : decode rX4_endOfForm.2.1 163 = .ok (.getfield 12, 3) := by decide +kernel
theorem eX4_endOfForm_166 : decode rX4_endOfForm.2.1 166 = .ok (.iload 4, 2) := by decide +kernel
theorem eX4_endOfForm_168 : decode rX4_endOfForm.2.1 168 = .ok (.invokevirtual 79, 3) := by decide +kernel
theorem eX4_endOfForm_171 : decode rX4_endOfForm.2.1 171 = .ok (.bipush 59, 2) := by decide +kernel
theorem eX4_endOfForm_173 : decode rX4_endOfForm.2.1 173 = .ok (.if_icmp .eq 12, 3) := by decide +kernel
theorem eX4_endOfForm_176 : decode rX4_endOfForm.2.1 176 = .ok (.aload_n 0, 1) := by decide +kernel
theorem eX4_endOfForm_177 : decode rX4_endOfForm.2.1 177 = .ok (.iload 4, 2) := by decide +kernel
theorem eX4_endOfForm_179 : decode rX4_endOfForm.2.1 179 = .ok (.invokevirtual 80, 3) := by decide +kernel
theorem eX4_endOfForm_182 : decode rX4_endOfForm.2.1 182 = .ok (.goto 5, 3) := by decide +kernel
theorem eX4_endOfForm_185 : decode rX4_endOfForm.2.1 185 = .ok (.iload 4, 2) := by decide +kernel
theorem eX4_endOfForm_187 : decode rX4_endOfForm.2.1 187 = .ok (.ireturn, 1) := by decide +kernel
theorem eX4_breakOff_0 : decode rX4_breakOff.2.1 0 = .ok (.aload_n 0, 1) := by decide +kernel
theorem eX4_breakOff_1 : decode rX4_breakOff.2.1 1 = .ok (.aload_n 0, 1) := by decide +kernel
theorem eX4_breakOff_2 : decode rX4_breakOff.2.1 2 = .ok (.getfield 31, 3) := by decide +kernel
theorem eX4_breakOff_5 : decode rX4_breakOff.2.1 5 = .ok (.iload_n 1, 1) := by decide +kernel
theorem eX4_breakOff_6 : decode rX4_breakOff.2.1 6 = .ok (.invokestatic 83, 3) := by decide +kernel
theorem eX4_breakOff_9 : decode rX4_breakOff.2.1 9 = .ok (.putfield 31, 3) := by decide +kernel
theorem eX4_breakOff_12 : decode rX4_breakOff.2.1 12 = .ok (.iconst (-1), 1) := by decide +kernel
theorem eX4_breakOff_13 : decode rX4_breakOff.2.1 13 = .ok (.ireturn, 1) := by decide +kernel
theorem eX4_endOfDigits_0 : decode rX4_endOfDigits.2.1 0 = .ok (.iload_n 1, 1) := by decide +kernel
theorem eX4_endOfDigits_1 : decode rX4_endOfDigits.2.1 1 = .ok (.istore_n 3, 1) := by decide +kernel
theorem eX4_endOfDigits_2 : decode rX4_endOfDigits.2.1 2 = .ok (.iload_n 3, 1) := by decide +kernel
theorem eX4_endOfDigits_3 : decode rX4_endOfDigits.2.1 3 = .ok (.iload_n 1, 1) := by decide +kernel
theorem eX4_endOfDigits_4 : decode rX4_endOfDigits.2.1 4 = .ok (.iload_n 2, 1) := by decide +kernel
theorem eX4_endOfDigits_5 : decode rX4_endOfDigits.2.1 5 = .ok (.iadd, 1) := by decide +kernel
theorem eX4_endOfDigits_6 : decode rX4_endOfDigits.2.1 6 = .ok (.if_icmp .ge 48, 3) := by decide +kernel
theorem eX4_endOfDigits_9 : decode rX4_endOfDigits.2.1 9 = .ok (.iload_n 3, 1) := by decide +kernel
theorem eX4_endOfDigits_10 : decode rX4_endOfDigits.2.1 10 = .ok (.aload_n 0, 1) := by decide +kernel
theorem eX4_endOfDigits_11 : decode rX4_endOfDigits.2.1 11 = .ok (.getfield 12, 3) := by decide +kernel
theorem eX4_endOfDigits_14 : decode rX4_endOfDigits.2.1 14 = .ok (.invokevirtual 54, 3) := by decide +kernel
theorem eX4_endOfDigits_17 : decode rX4_endOfDigits.2.1 17 = .ok (.if_icmp .ge 29, 3) := by decide +kernel
theorem eX4_endOfDigits_20 : decode rX4_endOfDigits.2.1 20 = .ok (.aload_n 0, 1) := by decide +kernel
theorem eX4_endOfDigits_21 : decode rX4_endOfDigits.2.1 21 = .ok (.getfield 12, 3) := by decide +kernel
theorem eX4_endOfDigits_24 : decode rX4_endOfDigits.2.1 24 = .ok (.iload_n 3, 1) := by decide +kernel
theorem eX4_endOfDigits_25 : decode rX4_endOfDigits.2.1 25 = .ok (.invokevirtual 79, 3) := by decide +kernel
theorem eX4_endOfDigits_28 : decode rX4_endOfDigits.2.1 28 = .ok (.bipush 48, 2) := by decide +kernel
theorem eX4_endOfDigits_30 : decode rX4_endOfDigits.2.1 30 = .ok (.if_icmp .lt 16, 3) := by decide +kernel
theorem eX4_endOfDigits_33 : decode rX4_endOfDigits.2.1 33 = .ok (.aload_n 0, 1) := by decide +kernel
theorem eX4_endOfDigits_34 : decode rX4_endOfDigits.2.1 34 = .ok (.getfield 12, 3) := by decide +kernel
theorem eX4_endOfDigits_37 : decode rX4_endOfDigits.2.1 37 = .ok (.iload_n 3, 1) := by decide +kernel
theorem eX4_endOfDigits_38 : decode rX4_endOfDigits.2.1 38 = .ok (.invokevirtual 79, 3) := by decide +kernel
theorem eX4_endOfDigits_41 : decode rX4_endOfDigits.2.1 41 = .ok (.bipush 57, 2) := by decide +kernel
theorem eX4_endOfDigits_43 : decode rX4_endOfDigits.2.1 43 = .ok (.if_icmp .le 5, 3) := by decide +kernel
theorem eX4_endOfDigits_46 : decode rX4_endOfDigits.2.1 46 = .ok (.iload_n 3, 1) := by decide +kernel
theorem eX4_endOfDigits_47 : decode rX4_endOfDigits.2.1 47 = .ok (.ireturn, 1) := by decide +kernel
theorem eX4_endOfDigits_48 : decode rX4_endOfDigits.2.1 48 = .ok (.iinc 3 1, 3) := by decide +kernel
theorem eX4_endOfDigits_51 : decode rX4_endOfDigits.2.1 51 = .ok (.goto (-49), 3) := by decide +kernel
theorem eX4_endOfDigits_54 : decode rX4_endOfDigits.2.1 54 = .ok (.iload_n 1, 1) := by decide +kernel
theorem eX4_endOfDigits_55 : decode rX4_endOfDigits.2.1 55 = .ok (.iload_n 2, 1) := by decide +kernel
theorem eX4_endOfDigits_56 : decode rX4_endOfDigits.2.1 56 = .ok (.iadd, 1) := by decide +kernel
theorem eX4_endOfDigits_57 : decode rX4_endOfDigits.2.1 57 = .ok (.ireturn, 1) := by decide +kernel
theorem eX4_valueOf_0 : decode rX4_valueOf.2.1 0 = .ok (.iconst 0, 1) := by decide +kernel
theorem eX4_valueOf_1 : decode rX4_valueOf.2.1 1 = .ok (.istore_n 3, 1) := by decide +kernel
theorem eX4_valueOf_2 : decode rX4_valueOf.2.1 2 = .ok (.iload_n 1, 1) := by decide +kernel
theorem eX4_valueOf_3 : decode rX4_valueOf.2.1 3 = .ok (.istore 4, 2) := by decide +kernel
theorem eX4_valueOf_5 : decode rX4_valueOf.2.1 5 = .ok (.iload 4, 2) := by decide +kernel
theorem eX4_valueOf_7 : decode rX4_valueOf.2.1 7 = .ok (.iload_n 2, 1) := by decide +kernel
theorem eX4_valueOf_8 : decode rX4_valueOf.2.1 8 = .ok (.if_icmp .ge 39, 3) := by decide +kernel
theorem eX4_valueOf_11 : decode rX4_valueOf.2.1 11 = .ok (.iload 4, 2) := by decide +kernel
theorem eX4_valueOf_13 : decode rX4_valueOf.2.1 13 = .ok (.aload_n 0, 1) := by decide +kernel
theorem eX4_valueOf_14 : decode rX4_valueOf.2.1 14 = .ok (.getfield 12, 3) := by decide +kernel
theorem eX4_valueOf_17 : decode rX4_valueOf.2.1 17 = .ok (.invokevirtual 54, 3) := by decide +kernel
theorem eX4_valueOf_20 : decode rX4_valueOf.2.1 20 = .ok (.if_icmp .ge 27, 3) := by decide +kernel
theorem eX4_valueOf_23 : decode rX4_valueOf.2.1 23 = .ok (.bipush 10, 2) := by decide +kernel
theorem eX4_valueOf_25 : decode rX4_valueOf.2.1 25 = .ok (.iload_n 3, 1) := by decide +kernel
theorem eX4_valueOf_26 : decode rX4_valueOf.2.1 26 = .ok (.imul, 1) := by decide +kernel
theorem eX4_valueOf_27 : decode rX4_valueOf.2.1 27 = .ok (.aload_n 0, 1) := by decide +kernel
theorem eX4_valueOf_28 : decode rX4_valueOf.2.1 28 = .ok (.getfield 12, 3) := by decide +kernel
theorem eX4_valueOf_31 : decode rX4_valueOf.2.1 31 = .ok (.iload 4, 2) := by decide +kernel
theorem eX4_valueOf_33 : decode rX4_valueOf.2.1 33 = .ok (.invokevirtual 79, 3) := by decide +kernel
theorem eX4_valueOf_36 : decode rX4_valueOf.2.1 36 = .ok (.bipush 48, 2) := by decide +kernel
theorem eX4_valueOf_38 : decode rX4_valueOf.2.1 38 = .ok (.isub, 1) := by decide +kernel
theorem eX4_valueOf_39 : decode rX4_valueOf.2.1 39 = .ok (.iadd, 1) := by decide +kernel
theorem eX4_valueOf_40 : decode rX4_valueOf.2.1 40 = .ok (.istore_n 3, 1) := by decide +kernel
theorem eX4_valueOf_41 : decode rX4_valueOf.2.1 41 = .ok (.iinc 4 1, 3) := by decide +kernel
theorem eX4_valueOf_44 : decode rX4_valueOf.2.1 44 = .ok (.goto (-39), 3) := by decide +kernel
theorem eX4_valueOf_47 : decode rX4_valueOf.2.1 47 = .ok (.iload_n 3, 1) := by decide +kernel
theorem eX4_valueOf_48 : decode rX4_valueOf.2.1 48 = .ok (.ireturn, 1) := by decide +kernel
theorem eX5_init_0 : decode rX5_init.2.1 0 = .ok (.aload_n 0, 1) := by decide +kernel
theorem eX5_init_1 : decode rX5_init.2.1 1 = .ok (.invokespecial 3, 3) := by decide +kernel
theorem eX5_init_4 : decode rX5_init.2.1 4 = .ok (.aload_n 0, 1) := by decide +kernel
theorem eX5_init_5 : decode rX5_init.2.1 5 = .ok (.bipush 10, 2) := by decide +kernel
theorem eX5_init_7 : decode rX5_init.2.1 7 = .ok (.newarray .int, 2) := by decide +kernel
theorem eX5_init_9 : decode rX5_init.2.1 9 = .ok (.putfield 9, 3) := by decide +kernel
theorem eX5_init_12 : decode rX5_init.2.1 12 = .ok (.aload_n 0, 1) := by decide +kernel
theorem eX5_init_13 : decode rX5_init.2.1 13 = .ok (.bipush 10, 2) := by decide +kernel
theorem eX5_init_15 : decode rX5_init.2.1 15 = .ok (.newarray .int, 2) := by decide +kernel
theorem eX5_init_17 : decode rX5_init.2.1 17 = .ok (.putfield 15, 3) := by decide +kernel
theorem eX5_init_20 : decode rX5_init.2.1 20 = .ok (.aload_n 0, 1) := by decide +kernel
theorem eX5_init_21 : decode rX5_init.2.1 21 = .ok (.bipush 10, 2) := by decide +kernel
theorem eX5_init_23 : decode rX5_init.2.1 23 = .ok (.newarray .int, 2) := by decide +kernel
theorem eX5_init_25 : decode rX5_init.2.1 25 = .ok (.putfield 18, 3) := by decide +kernel
theorem eX5_init_28 : decode rX5_init.2.1 28 = .ok (.aload_n 0, 1) := by decide +kernel
theorem eX5_init_29 : decode rX5_init.2.1 29 = .ok (.iconst 0, 1) := by decide +kernel
theorem eX5_init_30 : decode rX5_init.2.1 30 = .ok (.putfield 21, 3) := by decide +kernel
theorem eX5_init_33 : decode rX5_init.2.1 33 = .ok (.aload_n 0, 1) := by decide +kernel
theorem eX5_init_34 : decode rX5_init.2.1 34 = .ok (.iconst 0, 1) := by decide +kernel
theorem eX5_init_35 : decode rX5_init.2.1 35 = .ok (.putfield 25, 3) := by decide +kernel
theorem eX5_init_38 : decode rX5_init.2.1 38 = .ok (.return_, 1) := by decide +kernel
theorem eX5_append_0 : decode rX5_append.2.1 0 = .ok (.aload_n 0, 1) := by decide +kernel
theorem eX5_append_1 : decode rX5_append.2.1 1 = .ok (.getfield 21, 3) := by decide +kernel
theorem eX5_append_4 : decode rX5_append.2.1 4 = .ok (.bipush 10, 2) := by decide +kernel
theorem eX5_append_6 : decode rX5_append.2.1 6 = .ok (.irem, 1) := by decide +kernel
theorem eX5_append_7 : decode rX5_append.2.1 7 = .ok (.istore 4, 2) := by decide +kernel
theorem eX5_append_9 : decode rX5_append.2.1 9 = .ok (.aload_n 0, 1) := by decide +kernel
theorem eX5_append_10 : decode rX5_append.2.1 10 = .ok (.getfield 9, 3) := by decide +kernel
theorem eX5_append_13 : decode rX5_append.2.1 13 = .ok (.iload 4, 2) := by decide +kernel
theorem eX5_append_15 : decode rX5_append.2.1 15 = .ok (.iload_n 1, 1) := by decide +kernel
theorem eX5_append_16 : decode rX5_append.2.1 16 = .ok (.iastore, 1) := by decide +kernel
theorem eX5_append_17 : decode rX5_append.2.1 17 = .ok (.aload_n 0, 1) := by decide +kernel
theorem eX5_append_18 : decode rX5_append.2.1 18 = .ok (.getfield 15, 3) := by decide +kernel
theorem eX5_append_21 : decode rX5_append.2.1 21 = .ok (.iload 4, 2) := by decide +kernel
theorem eX5_append_23 : decode rX5_append.2.1 23 = .ok (.iload_n 2, 1) := by decide +kernel
theorem eX5_append_24 : decode rX5_append.2.1 24 = .ok (.iastore, 1) := by decide +kernel
theorem eX5_append_25 : decode rX5_append.2.1 25 = .ok (.aload_n 0, 1) := by decide +kernel
theorem eX5_append_26 : decode rX5_append.2.1 26 = .ok (.getfield 18, 3) := by decide +kernel
theorem eX5_append_29 : decode rX5_append.2.1 29 = .ok (.iload 4, 2) := by decide +kernel
theorem eX5_append_31 : decode rX5_append.2.1 31 = .ok (.iload_n 3, 1) := by decide +kernel
theorem eX5_append_32 : decode rX5_append.2.1 32 = .ok (.iastore, 1) := by decide +kernel
theorem eX5_append_33 : decode rX5_append.2.1 33 = .ok (.aload_n 0, 1) := by decide +kernel
theorem eX5_append_34 : decode rX5_append.2.1 34 = .ok (.dup, 1) := by decide +kernel
theorem eX5_append_35 : decode rX5_append.2.1 35 = .ok (.getfield 21, 3) := by decide +kernel
theorem eX5_append_38 : decode rX5_append.2.1 38 = .ok (.iconst 1, 1) := by decide +kernel
theorem eX5_append_39 : decode rX5_append.2.1 39 = .ok (.iadd, 1) := by decide +kernel
theorem eX5_append_40 : decode rX5_append.2.1 40 = .ok (.putfield 21, 3) := by decide +kernel
theorem eX5_append_43 : decode rX5_append.2.1 43 = .ok (.aload_n 0, 1) := by decide +kernel
theorem eX5_append_44 : decode rX5_append.2.1 44 = .ok (.dup, 1) := by decide +kernel
theorem eX5_append_45 : decode rX5_append.2.1 45 = .ok (.getfield 25, 3) := by decide +kernel
theorem eX5_append_48 : decode rX5_append.2.1 48 = .ok (.iload_n 3, 1) := by decide +kernel
theorem eX5_append_49 : decode rX5_append.2.1 49 = .ok (.iadd, 1) := by decide +kernel
theorem eX5_append_50 : decode rX5_append.2.1 50 = .ok (.putfield 25, 3) := by decide +kernel
theorem eX5_append_53 : decode rX5_append.2.1 53 = .ok (.return_, 1) := by decide +kernel
theorem eX5_remembers_0 : decode rX5_remembers.2.1 0 = .ok (.iload_n 1, 1) := by decide +kernel
theorem eX5_remembers_1 : decode rX5_remembers.2.1 1 = .ok (.ifCond .lt 21, 3) := by decide +kernel
theorem eX5_remembers_4 : decode rX5_remembers.2.1 4 = .ok (.iload_n 1, 1) := by decide +kernel
theorem eX5_remembers_5 : decode rX5_remembers.2.1 5 = .ok (.aload_n 0, 1) := by decide +kernel
theorem eX5_remembers_6 : decode rX5_remembers.2.1 6 = .ok (.getfield 21, 3) := by decide +kernel
theorem eX5_remembers_9 : decode rX5_remembers.2.1 9 = .ok (.if_icmp .ge 13, 3) := by decide +kernel
theorem eX5_remembers_12 : decode rX5_remembers.2.1 12 = .ok (.iload_n 1, 1) := by decide +kernel
theorem eX5_remembers_13 : decode rX5_remembers.2.1 13 = .ok (.bipush 10, 2) := by decide +kernel
theorem eX5_remembers_15 : decode rX5_remembers.2.1 15 = .ok (.if_icmp .ge 7, 3) := by decide +kernel
theorem eX5_remembers_18 : decode rX5_remembers.2.1 18 = .ok (.iconst 1, 1) := by decide +kernel
theorem eX5_remembers_19 : decode rX5_remembers.2.1 19 = .ok (.goto 4, 3) := by decide +kernel
theorem eX5_remembers_22 : decode rX5_remembers.2.1 22 = .ok (.iconst 0, 1) := by decide +kernel
theorem eX5_remembers_23 : decode rX5_remembers.2.1 23 = .ok (.ireturn, 1) := by decide +kernel
theorem eX5_placeOf_0 : decode rX5_placeOf.2.1 0 = .ok (.aload_n 0, 1) := by decide +kernel
theorem eX5_placeOf_1 : decode rX5_placeOf.2.1 1 = .ok (.getfield 21, 3) := by decide +kernel
theorem eX5_placeOf_4 : decode rX5_placeOf.2.1 4 = .ok (.iconst 1, 1) := by decide +kernel
theorem eX5_placeOf_5 : decode rX5_placeOf.2.1 5 = .ok (.isub, 1) := by decide +kernel
theorem eX5_placeOf_6 : decode rX5_placeOf.2.1 6 = .ok (.iload_n 1, 1) := by decide +kernel
theorem eX5_placeOf_7 : decode rX5_placeOf.2.1 7 = .ok (.isub, 1) := by decide +kernel
theorem eX5_placeOf_8 : decode rX5_placeOf.2.1 8 = .ok (.bipush 10, 2) := by decide +kernel
theorem eX5_placeOf_10 : decode rX5_placeOf.2.1 10 = .ok (.irem, 1) := by decide +kernel
theorem eX5_placeOf_11 : decode rX5_placeOf.2.1 11 = .ok (.ireturn, 1) := by decide +kernel
theorem eX5_copyFrom_0 : decode rX5_copyFrom.2.1 0 = .ok (.aload_n 1, 1) := by decide +kernel
theorem eX5_copyFrom_1 : decode rX5_copyFrom.2.1 1 = .ok (.getfield 9, 3) := by decide +kernel
theorem eX5_copyFrom_4 : decode rX5_copyFrom.2.1 4 = .ok (.iconst 0, 1) := by decide +kernel
theorem eX5_copyFrom_5 : decode rX5_copyFrom.2.1 5 = .ok (.aload_n 0, 1) := by decide +kernel
theorem eX5_copyFrom_6 : decode rX5_copyFrom.2.1 6 = .ok (.getfield 9, 3) := by decide +kernel
theorem eX5_copyFrom_9 : decode rX5_copyFrom.2.1 9 = .ok (.iconst 0, 1) := by decide +kernel
theorem eX5_copyFrom_10 : decode rX5_copyFrom.2.1 10 = .ok (.bipush 10, 2) := by decide +kernel
theorem eX5_copyFrom_12 : decode rX5_copyFrom.2.1 12 = .ok (.invokestatic 28, 3) := by decide +kernel
theorem eX5_copyFrom_15 : decode rX5_copyFrom.2.1 15 = .ok (.aload_n 1, 1) := by decide +kernel
theorem eX5_copyFrom_16 : decode rX5_copyFrom.2.1 16 = .ok (.getfield 15, 3) := by decide +kernel
theorem eX5_copyFrom_19 : decode rX5_copyFrom.2.1 19 = .ok (.iconst 0, 1) := by decide +kernel
theorem eX5_copyFrom_20 : decode rX5_copyFrom.2.1 20 = .ok (.aload_n 0, 1) := by decide +kernel
theorem eX5_copyFrom_21 : decode rX5_copyFrom.2.1 21 = .ok (.getfield 15, 3) := by decide +kernel
theorem eX5_copyFrom_24 : decode rX5_copyFrom.2.1 24 = .ok (.iconst 0, 1) := by decide +kernel
theorem eX5_copyFrom_25 : decode rX5_copyFrom.2.1 25 = .ok (.bipush 10, 2) := by decide +kernel
theorem eX5_copyFrom_27 : decode rX5_copyFrom.2.1 27 = .ok (.invokestatic 28, 3) := by decide +kernel
theorem eX5_copyFrom_30 : decode rX5_copyFrom.2.1 30 = .ok (.aload_n 1, 1) := by decide +kernel
theorem eX5_copyFrom_31 : decode rX5_copyFrom.2.1 31 = .ok (.getfield 18, 3) := by decide +kernel
theorem eX5_copyFrom_34 : decode rX5_copyFrom.2.1 34 = .ok (.iconst 0, 1) := by decide +kernel
theorem eX5_copyFrom_35 : decode rX5_copyFrom.2.1 35 = .ok (.aload_n 0, 1) := by decide +kernel
theorem eX5_copyFrom_36 : decode rX5_copyFrom.2.1 36 = .ok (.getfield 18, 3) := by decide +kernel
theorem eX5_copyFrom_39 : decode rX5_copyFrom.2.1 39 = .ok (.iconst 0, 1) := by decide +kernel
theorem eX5_copyFrom_40 : decode rX5_copyFrom.2.1 40 = .ok (.bipush 10, 2) := by decide +kernel
theorem eX5_copyFrom_42 : decode rX5_copyFrom.2.1 42 = .ok (.invokestatic 28, 3) := by decide +kernel
theorem eX5_copyFrom_45 : decode rX5_copyFrom.2.1 45 = .ok (.aload_n 0, 1) := by decide +kernel
theorem eX5_copyFrom_46 : decode rX5_copyFrom.2.1 46 = .ok (.aload_n 1, 1) := by decide +kernel
theorem eX5_copyFrom_47 : decode rX5_copyFrom.2.1 47 = .ok (.getfield 21, 3) := by decide +kernel
theorem eX5_copyFrom_50 : decode rX5_copyFrom.2.1 50 = .ok (.putfield 21, 3) := by decide +kernel
theorem eX5_copyFrom_53 : decode rX5_copyFrom.2.1 53 = .ok (.aload_n 0, 1) := by decide +kernel
theorem eX5_copyFrom_54 : decode rX5_copyFrom.2.1 54 = .ok (.aload_n 1, 1) := by decide +kernel
theorem eX5_copyFrom_55 : decode rX5_copyFrom.2.1 55 = .ok (.getfield 25, 3) := by decide +kernel
theorem eX5_copyFrom_58 : decode rX5_copyFrom.2.1 58 = .ok (.putfield 25, 3) := by decide +kernel
theorem eX5_copyFrom_61 : decode rX5_copyFrom.2.1 61 = .ok (.return_, 1) := by decide +kernel
theorem eX6_init_0 : decode rX6_init.2.1 0 = .ok (.aload_n 0, 1) := by decide +kernel
theorem eX6_init_1 : decode rX6_init.2.1 1 = .ok (.invokespecial 3, 3) := by decide +kernel
theorem eX6_init_4 : decode rX6_init.2.1 4 = .ok (.aload_n 0, 1) := by decide +kernel
theorem eX6_init_5 : decode rX6_init.2.1 5 = .ok (.new 9, 3) := by decide +kernel
theorem eX6_init_8 : decode rX6_init.2.1 8 = .ok (.dup, 1) := by decide +kernel
theorem eX6_init_9 : decode rX6_init.2.1 9 = .ok (.invokespecial 11, 3) := by decide +kernel
theorem eX6_init_12 : decode rX6_init.2.1 12 = .ok (.putfield 12, 3) := by decide +kernel
theorem eX6_init_15 : decode rX6_init.2.1 15 = .ok (.aload_n 0, 1) := by decide +kernel
theorem eX6_init_16 : decode rX6_init.2.1 16 = .ok (.new 9, 3) := by decide +kernel
theorem eX6_init_19 : decode rX6_init.2.1 19 = .ok (.dup, 1) := by decide +kernel
theorem eX6_init_20 : decode rX6_init.2.1 20 = .ok (.invokespecial 11, 3) := by decide +kernel
theorem eX6_init_23 : decode rX6_init.2.1 23 = .ok (.putfield 16, 3) := by decide +kernel
theorem eX6_init_26 : decode rX6_init.2.1 26 = .ok (.aload_n 0, 1) := by decide +kernel
theorem eX6_init_27 : decode rX6_init.2.1 27 = .ok (.new 9, 3) := by decide +kernel
theorem eX6_init_30 : decode rX6_init.2.1 30 = .ok (.dup, 1) := by decide +kernel
theorem eX6_init_31 : decode rX6_init.2.1 31 = .ok (.invokespecial 11, 3) := by decide +kernel
theorem eX6_init_34 : decode rX6_init.2.1 34 = .ok (.putfield 19, 3) := by decide +kernel
theorem eX6_init_37 : decode rX6_init.2.1 37 = .ok (.aload_n 0, 1) := by decide +kernel
theorem eX6_init_38 : decode rX6_init.2.1 38 = .ok (.new 22, 3) := by decide +kernel
theorem eX6_init_41 : decode rX6_init.2.1 41 = .ok (.dup, 1) := by decide +kernel
theorem eX6_init_42 : decode rX6_init.2.1 42 = .ok (.invokespecial 24, 3) := by decide +kernel
theorem eX6_init_45 : decode rX6_init.2.1 45 = .ok (.putfield 25, 3) := by decide +kernel
theorem eX6_init_48 : decode rX6_init.2.1 48 = .ok (.aload_n 0, 1) := by decide +kernel
theorem eX6_init_49 : decode rX6_init.2.1 49 = .ok (.new 29, 3) := by decide +kernel
theorem eX6_init_52 : decode rX6_init.2.1 52 = .ok (.dup, 1) := by decide +kernel
theorem eX6_init_53 : decode rX6_init.2.1 53 = .ok (.invokespecial 31, 3) := by decide +kernel
theorem eX6_init_56 : decode rX6_init.2.1 56 = .ok (.putfield 32, 3) := by decide +kernel
theorem eX6_init_59 : decode rX6_init.2.1 59 = .ok (.aload_n 0, 1) := by decide +kernel
theorem eX6_init_60 : decode rX6_init.2.1 60 = .ok (.new 36, 3) := by decide +kernel
theorem eX6_init_63 : decode rX6_init.2.1 63 = .ok (.dup, 1) := by decide +kernel
theorem eX6_init_64 : decode rX6_init.2.1 64 = .ok (.invokespecial 38, 3) := by decide +kernel
theorem eX6_init_67 : decode rX6_init.2.1 67 = .ok (.putfield 39, 3) := by decide +kernel
theorem eX6_init_70 : decode rX6_init.2.1 70 = .ok (.aload_n 0, 1) := by decide +kernel
theorem eX6_init_71 : decode rX6_init.2.1 71 = .ok (.iconst 0, 1) := by decide +kernel
theorem eX6_init_72 : decode rX6_init.2.1 72 = .ok (.putfield 43, 3) := by decide +kernel
theorem eX6_init_75 : decode rX6_init.2.1 75 = .ok (.aload_n 0, 1) := by decide +kernel
theorem eX6_init_76 : decode rX6_init.2.1 76 = .ok (.iconst (-1), 1) := by decide +kernel
theorem eX6_init_77 : decode rX6_init.2.1 77 = .ok (.putfield 47, 3) := by decide +kernel
theorem eX6_init_80 : decode rX6_init.2.1 80 = .ok (.aload_n 0, 1) := by decide +kernel
theorem eX6_init_81 : decode rX6_init.2.1 81 = .ok (.iconst (-1), 1) := by decide +kernel
theorem eX6_init_82 : decode rX6_init.2.1 82 = .ok (.putfield 51, 3) := by decide +kernel
theorem eX6_init_85 : decode rX6_init.2.1 85 = .ok (.return_, 1) := by decide +kernel
theorem eX6_addPassenger_0 : decode rX6_addPassenger.2.1 0 = .ok (.aload_n 0, 1) := by decide +kernel
theorem eX6_addPassenger_1 : decode rX6_addPassenger.2.1 1 = .ok (.getfield 12, 3) := by decide +kernel
theorem eX6_addPassenger_4 : decode rX6_addPassenger.2.1 4 = .ok (.iload_n 1, 1) := by decide +kernel
theorem eX6_addPassenger_5 : decode rX6_addPassenger.2.1 5 = .ok (.iload_n 2, 1) := by decide +kernel
theorem eX6_addPassenger_6 : decode rX6_addPassenger.2.1 6 = .ok (.iload_n 3, 1) := by decide +kernel
theorem eX6_addPassenger_7 : decode rX6_addPassenger.2.1 7 = .ok (.invokevirtual 54, 3) := by decide +kernel
theorem eX6_addPassenger_10 : decode rX6_addPassenger.2.1 10 = .ok (.invokestatic 58, 3) := by decide +kernel
theorem eX6_addPassenger_13 : decode rX6_addPassenger.2.1 13 = .ok (.aload_n 0, 1) := by decide +kernel
theorem eX6_addPassenger_14 : decode rX6_addPassenger.2.1 14 = .ok (.getfield 25, 3) := by decide +kernel
theorem eX6_addPassenger_17 : decode rX6_addPassenger.2.1 17 = .ok (.aload_n 0, 1) := by decide +kernel
theorem eX6_addPassenger_18 : decode rX6_addPassenger.2.1 18 = .ok (.getfield 12, 3) := by decide +kernel
theorem eX6_addPassenger_21 : decode rX6_addPassenger.2.1 21 = .ok (.invokevirtual 62, 3) := by decide +kernel
theorem eX6_addPassenger_24 : decode rX6_addPassenger.2.1 24 = .ok (.aload_n 0, 1) := by decide +kernel
theorem eX6_addPassenger_25 : decode rX6_addPassenger.2.1 25 = .ok (.getfield 12, 3) := by decide +kernel
theorem eX6_addPassenger_28 : decode rX6_addPassenger.2.1 28 = .ok (.iload_n 1, 1) := by decide +kernel
theorem eX6_addPassenger_29 : decode rX6_addPassenger.2.1 29 = .ok (.iload_n 2, 1) := by decide +kernel
theorem eX6_addPassenger_30 : decode rX6_addPassenger.2.1 30 = .ok (.iload_n 3, 1) := by decide +kernel
theorem eX6_addPassenger_31 : decode rX6_addPassenger.2.1 31 = .ok (.invokevirtual 66, 3) := by decide +kernel
theorem eX6_addPassenger_34 : decode rX6_addPassenger.2.1 34 = .ok (.ireturn, 1) := by decide +kernel
theorem eX6_removePassenger_0 : decode rX6_removePassenger.2.1 0 = .ok (.aload_n 0, 1) := by decide +kernel
theorem eX6_removePassenger_1 : decode rX6_removePassenger.2.1 1 = .ok (.getfield 12, 3) := by decide +kernel
theorem eX6_removePassenger_4 : decode rX6_removePassenger.2.1 4 = .ok (.iload_n 1, 1) := by decide +kernel
theorem eX6_removePassenger_5 : decode rX6_removePassenger.2.1 5 = .ok (.invokevirtual 69, 3) := by decide +kernel
theorem eX6_removePassenger_8 : decode rX6_removePassenger.2.1 8 = .ok (.invokestatic 58, 3) := by decide +kernel
theorem eX6_removePassenger_11 : decode rX6_removePassenger.2.1 11 = .ok (.aload_n 0, 1) := by decide +kernel
theorem eX6_removePassenger_12 : decode rX6_removePassenger.2.1 12 = .ok (.getfield 25, 3) := by decide +kernel
theorem eX6_removePassenger_15 : decode rX6_removePassenger.2.1 15 = .ok (.aload_n 0, 1) := by decide +kernel
theorem eX6_removePassenger_16 : decode rX6_removePassenger.2.1 16 = .ok (.getfield 12, 3) := by decide +kernel
theorem eX6_removePassenger_19 : decode rX6_removePassenger.2.1 19 = .ok (.invokevirtual 62, 3) := by decide +kernel
theorem eX6_removePassenger_22 : decode rX6_removePassenger.2.1 22 = .ok (.aload_n 0, 1) := by decide +kernel
theorem eX6_removePassenger_23 : decode rX6_removePassenger.2.1 23 = .ok (.getfield 12, 3) := by decide +kernel
theorem eX6_removePassenger_26 : decode rX6_removePassenger.2.1 26 = .ok (.iload_n 1, 1) := by decide +kernel
theorem eX6_removePassenger_27 : decode rX6_removePassenger.2.1 27 = .ok (.invokevirtual 73, 3) := by decide +kernel
theorem eX6_removePassenger_30 : decode rX6_removePassenger.2.1 30 = .ok (.ireturn, 1) := by decide +kernel
theorem eX6_holdDoors_0 : decode rX6_holdDoors.2.1 0 = .ok (.aload_n 0, 1) := by decide +kernel
theorem eX6_holdDoors_1 : decode rX6_holdDoors.2.1 1 = .ok (.getfield 12, 3) := by decide +kernel
theorem eX6_holdDoors_4 : decode rX6_holdDoors.2.1 4 = .ok (.iload_n 1, 1) := by decide +kernel
theorem eX6_holdDoors_5 : decode rX6_holdDoors.2.1 5 = .ok (.iload_n 2, 1) := by decide +kernel
theorem eX6_holdDoors_6 : decode rX6_holdDoors.2.1 6 = .ok (.invokevirtual 76, 3) := by decide +kernel
theorem eX6_holdDoors_9 : decode rX6_holdDoors.2.1 9 = .ok (.invokestatic 58, 3) := by decide +kernel
theorem eX6_holdDoors_12 : decode rX6_holdDoors.2.1 12 = .ok (.aload_n 0, 1) := by decide +kernel
theorem eX6_holdDoors_13 : decode rX6_holdDoors.2.1 13 = .ok (.getfield 25, 3) := by decide +kernel
theorem eX6_holdDoors_16 : decode rX6_holdDoors.2.1 16 = .ok (.aload_n 0, 1) := by decide +kernel
theorem eX6_holdDoors_17 : decode rX6_holdDoors.2.1 17 = .ok (.getfield 12, 3) := by decide +kernel
theorem eX6_holdDoors_20 : decode rX6_holdDoors.2.1 20 = .ok (.invokevirtual 62, 3) := by decide +kernel
theorem eX6_holdDoors_23 : decode rX6_holdDoors.2.1 23 = .ok (.aload_n 0, 1) := by decide +kernel
theorem eX6_holdDoors_24 : decode rX6_holdDoors.2.1 24 = .ok (.getfield 12, 3) := by decide +kernel
theorem eX6_holdDoors_27 : decode rX6_holdDoors.2.1 27 = .ok (.iload_n 1, 1) := by decide +kernel
theorem eX6_holdDoors_28 : decode rX6_holdDoors.2.1 28 = .ok (.iload_n 2, 1) := by decide +kernel
theorem eX6_holdDoors_29 : decode rX6_holdDoors.2.1 29 = .ok (.invokevirtual 80, 3) := by decide +kernel
theorem eX6_holdDoors_32 : decode rX6_holdDoors.2.1 32 = .ok (.ireturn, 1) := by decide +kernel
theorem eX6_stopCar_0 : decode rX6_stopCar.2.1 0 = .ok (.aload_n 0, 1) := by decide +kernel
theorem eX6_stopCar_1 : decode rX6_stopCar.2.1 1 = .ok (.getfield 12, 3) := by decide +kernel
theorem eX6_stopCar_4 : decode rX6_stopCar.2.1 4 = .ok (.iload_n 1, 1) := by decide +kernel
theorem eX6_stopCar_5 : decode rX6_stopCar.2.1 5 = .ok (.invokevirtual 83, 3) := by decide +kernel
theorem eX6_stopCar_8 : decode rX6_stopCar.2.1 8 = .ok (.invokestatic 58, 3) := by decide +kernel
theorem eX6_stopCar_11 : decode rX6_stopCar.2.1 11 = .ok (.aload_n 0, 1) := by decide +kernel
theorem eX6_stopCar_12 : decode rX6_stopCar.2.1 12 = .ok (.getfield 25, 3) := by decide +kernel
theorem eX6_stopCar_15 : decode rX6_stopCar.2.1 15 = .ok (.aload_n 0, 1) := by decide +kernel
theorem eX6_stopCar_16 : decode rX6_stopCar.2.1 16 = .ok (.getfield 12, 3) := by decide +kernel
theorem eX6_stopCar_19 : decode rX6_stopCar.2.1 19 = .ok (.invokevirtual 62, 3) := by decide +kernel
theorem eX6_stopCar_22 : decode rX6_stopCar.2.1 22 = .ok (.aload_n 0, 1) := by decide +kernel
theorem eX6_stopCar_23 : decode rX6_stopCar.2.1 23 = .ok (.getfield 12, 3) := by decide +kernel
theorem eX6_stopCar_26 : decode rX6_stopCar.2.1 26 = .ok (.iload_n 1, 1) := by decide +kernel
theorem eX6_stopCar_27 : decode rX6_stopCar.2.1 27 = .ok (.invokevirtual 86, 3) := by decide +kernel
theorem eX6_stopCar_30 : decode rX6_stopCar.2.1 30 = .ok (.ireturn, 1) := by decide +kernel
theorem eX6_startCar_0 : decode rX6_startCar.2.1 0 = .ok (.aload_n 0, 1) := by decide +kernel
theorem eX6_startCar_1 : decode rX6_startCar.2.1 1 = .ok (.getfield 12, 3) := by decide +kernel
theorem eX6_startCar_4 : decode rX6_startCar.2.1 4 = .ok (.iload_n 1, 1) := by decide +kernel
theorem eX6_startCar_5 : decode rX6_startCar.2.1 5 = .ok (.invokevirtual 89, 3) := by decide +kernel
theorem eX6_startCar_8 : decode rX6_startCar.2.1 8 = .ok (.invokestatic 58, 3) := by decide +kernel
theorem eX6_startCar_11 : decode rX6_startCar.2.1 11 = .ok (.aload_n 0, 1) := by decide +kernel
theorem eX6_startCar_12 : decode rX6_startCar.2.1 12 = .ok (.getfield 25, 3) := by decide +kernel
theorem eX6_startCar_15 : decode rX6_startCar.2.1 15 = .ok (.aload_n 0, 1) := by decide +kernel
theorem eX6_startCar_16 : decode rX6_startCar.2.1 16 = .ok (.getfield 12, 3) := by decide +kernel
theorem eX6_startCar_19 : decode rX6_startCar.2.1 19 = .ok (.invokevirtual 62, 3) := by decide +kernel
theorem eX6_startCar_22 : decode rX6_startCar.2.1 22 = .ok (.aload_n 0, 1) := by decide +kernel
theorem eX6_startCar_23 : decode rX6_startCar.2.1 23 = .ok (.getfield 12, 3) := by decide +kernel
theorem eX6_startCar_26 : decode rX6_startCar.2.1 26 = .ok (.iload_n 1, 1) := by decide +kernel
theorem eX6_startCar_27 : decode rX6_startCar.2.1 27 = .ok (.invokevirtual 92, 3) := by decide +kernel
theorem eX6_startCar_30 : decode rX6_startCar.2.1 30 = .ok (.ireturn, 1) := by decide +kernel
theorem eX6_setCapacity_0 : decode rX6_setCapacity.2.1 0 = .ok (.aload_n 0, 1) := by decide +kernel
theorem eX6_setCapacity_1 : decode rX6_setCapacity.2.1 1 = .ok (.getfield 12, 3) := by decide +kernel
theorem eX6_setCapacity_4 : decode rX6_setCapacity.2.1 4 = .ok (.iload_n 1, 1) := by decide +kernel
theorem eX6_setCapacity_5 : decode rX6_setCapacity.2.1 5 = .ok (.iload_n 2, 1) := by decide +kernel
theorem eX6_setCapacity_6 : decode rX6_setCapacity.2.1 6 = .ok (.invokevirtual 95, 3) := by decide +kernel
theorem eX6_setCapacity_9 : decode rX6_setCapacity.2.1 9 = .ok (.invokestatic 58, 3) := by decide +kernel
theorem eX6_setCapacity_12 : decode rX6_setCapacity.2.1 12 = .ok (.aload_n 0, 1) := by decide +kernel
theorem eX6_setCapacity_13 : decode rX6_setCapacity.2.1 13 = .ok (.getfield 25, 3) := by decide +kernel
theorem eX6_setCapacity_16 : decode rX6_setCapacity.2.1 16 = .ok (.aload_n 0, 1) := by decide +kernel
theorem eX6_setCapacity_17 : decode rX6_setCapacity.2.1 17 = .ok (.getfield 12, 3) := by decide +kernel
theorem eX6_setCapacity_20 : decode rX6_setCapacity.2.1 20 = .ok (.invokevirtual 62, 3) := by decide +kernel
theorem eX6_setCapacity_23 : decode rX6_setCapacity.2.1 23 = .ok (.aload_n 0, 1) := by decide +kernel
theorem eX6_setCapacity_24 : decode rX6_setCapacity.2.1 24 = .ok (.getfield 12, 3) := by decide +kernel
theorem eX6_setCapacity_27 : decode rX6_setCapacity.2.1 27 = .ok (.iload_n 1, 1) := by decide +kernel
theorem eX6_setCapacity_28 : decode rX6_setCapacity.2.1 28 = .ok (.iload_n 2, 1) := by decide +kernel
theorem eX6_setCapacity_29 : decode rX6_setCapacity.2.1 29 = .ok (.invokevirtual 98, 3) := by decide +kernel
theorem eX6_setCapacity_32 : decode rX6_setCapacity.2.1 32 = .ok (.ireturn, 1) := by decide +kernel
theorem eX6_advance_0 : decode rX6_advance.2.1 0 = .ok (.aload_n 0, 1) := by decide +kernel
theorem eX6_advance_1 : decode rX6_advance.2.1 1 = .ok (.getfield 12, 3) := by decide +kernel
theorem eX6_advance_4 : decode rX6_advance.2.1 4 = .ok (.iload_n 1, 1) := by decide +kernel
theorem eX6_advance_5 : decode rX6_advance.2.1 5 = .ok (.invokevirtual 101, 3) := by decide +kernel
theorem eX6_advance_8 : decode rX6_advance.2.1 8 = .ok (.invokestatic 58, 3) := by decide +kernel
theorem eX6_advance_11 : decode rX6_advance.2.1 11 = .ok (.aload_n 0, 1) := by decide +kernel
theorem eX6_advance_12 : decode rX6_advance.2.1 12 = .ok (.getfield 25, 3) := by decide +kernel
theorem eX6_advance_15 : decode rX6_advance.2.1 15 = .ok (.aload_n 0, 1) := by decide +kernel
theorem eX6_advance_16 : decode rX6_advance.2.1 16 = .ok (.getfield 12, 3) := by decide +kernel
theorem eX6_advance_19 : decode rX6_advance.2.1 19 = .ok (.invokevirtual 62, 3) := by decide +kernel
theorem eX6_advance_22 : decode rX6_advance.2.1 22 = .ok (.aload_n 0, 1) := by decide +kernel
theorem eX6_advance_23 : decode rX6_advance.2.1 23 = .ok (.getfield 12, 3) := by decide +kernel
theorem eX6_advance_26 : decode rX6_advance.2.1 26 = .ok (.iload_n 1, 1) := by decide +kernel
theorem eX6_advance_27 : decode rX6_advance.2.1 27 = .ok (.invokevirtual 104, 3) := by decide +kernel
theorem eX6_advance_30 : decode rX6_advance.2.1 30 = .ok (.ireturn, 1) := by decide +kernel
theorem eX6_time_0 : decode rX6_time.2.1 0 = .ok (.aload_n 0, 1) := by decide +kernel
theorem eX6_time_1 : decode rX6_time.2.1 1 = .ok (.getfield 12, 3) := by decide +kernel
theorem eX6_time_4 : decode rX6_time.2.1 4 = .ok (.getfield 107, 3) := by decide +kernel
theorem eX6_time_7 : decode rX6_time.2.1 7 = .ok (.ireturn, 1) := by decide +kernel
theorem eX6_floor_0 : decode rX6_floor.2.1 0 = .ok (.iload_n 1, 1) := by decide +kernel
theorem eX6_floor_1 : decode rX6_floor.2.1 1 = .ok (.invokestatic 110, 3) := by decide +kernel
theorem eX6_floor_4 : decode rX6_floor.2.1 4 = .ok (.aload_n 0, 1) := by decide +kernel
theorem eX6_floor_5 : decode rX6_floor.2.1 5 = .ok (.getfield 12, 3) := by decide +kernel
theorem eX6_floor_8 : decode rX6_floor.2.1 8 = .ok (.getfield 113, 3) := by decide +kernel
theorem eX6_floor_11 : decode rX6_floor.2.1 11 = .ok (.iload_n 1, 1) := by decide +kernel
theorem eX6_floor_12 : decode rX6_floor.2.1 12 = .ok (.aaload, 1) := by decide +kernel
theorem eX6_floor_13 : decode rX6_floor.2.1 13 = .ok (.getfield 117, 3) := by decide +kernel
theorem eX6_floor_16 : decode rX6_floor.2.1 16 = .ok (.ireturn, 1) := by decide +kernel
theorem eX6_direction_0 : decode rX6_direction.2.1 0 = .ok (.iload_n 1, 1) := by decide +kernel
theorem eX6_direction_1 : decode rX6_direction.2.1 1 = .ok (.invokestatic 110, 3) := by decide +kernel
theorem eX6_direction_4 : decode rX6_direction.2.1 4 = .ok (.aload_n 0, 1) := by decide +kernel
theorem eX6_direction_5 : decode rX6_direction.2.1 5 = .ok (.getfield 12, 3) := by decide +kernel
theorem eX6_direction_8 : decode rX6_direction.2.1 8 = .ok (.getfield 113, 3) := by decide +kernel
theorem eX6_direction_11 : decode rX6_direction.2.1 11 = .ok (.iload_n 1, 1) := by decide +kernel
theorem eX6_direction_12 : decode rX6_direction.2.1 12 = .ok (.aaload, 1) := by decide +kernel
theorem eX6_direction_13 : decode rX6_direction.2.1 13 = .ok (.getfield 122, 3) := by decide +kernel
theorem eX6_direction_16 : decode rX6_direction.2.1 16 = .ok (.ireturn, 1) := by decide +kernel
theorem eX6_capacity_0 : decode rX6_capacity.2.1 0 = .ok (.iload_n 1, 1) := by decide +kernel
theorem eX6_capacity_1 : decode rX6_capacity.2.1 1 = .ok (.invokestatic 110, 3) := by decide +kernel
theorem eX6_capacity_4 : decode rX6_capacity.2.1 4 = .ok (.aload_n 0, 1) := by decide +kernel
theorem eX6_capacity_5 : decode rX6_capacity.2.1 5 = .ok (.getfield 12, 3) := by decide +kernel
theorem eX6_capacity_8 : decode rX6_capacity.2.1 8 = .ok (.getfield 113, 3) := by decide +kernel
theorem eX6_capacity_11 : decode rX6_capacity.2.1 11 = .ok (.iload_n 1, 1) := by decide +kernel
theorem eX6_capacity_12 : decode rX6_capacity.2.1 12 = .ok (.aaload, 1) := by decide +kernel
theorem eX6_capacity_13 : decode rX6_capacity.2.1 13 = .ok (.getfield 125, 3) := by decide +kernel
theorem eX6_capacity_16 : decode rX6_capacity.2.1 16 = .ok (.ireturn, 1) := by decide +kernel
theorem eX6_load_0 : decode rX6_load.2.1 0 = .ok (.iload_n 1, 1) := by decide +kernel
theorem eX6_load_1 : decode rX6_load.2.1 1 = .ok (.invokestatic 110, 3) := by decide +kernel
theorem eX6_load_4 : decode rX6_load.2.1 4 = .ok (.aload_n 0, 1) := by decide +kernel
theorem eX6_load_5 : decode rX6_load.2.1 5 = .ok (.getfield 12, 3) := by decide +kernel
theorem eX6_load_8 : decode rX6_load.2.1 8 = .ok (.getfield 113, 3) := by decide +kernel
theorem eX6_load_11 : decode rX6_load.2.1 11 = .ok (.iload_n 1, 1) := by decide +kernel
theorem eX6_load_12 : decode rX6_load.2.1 12 = .ok (.aaload, 1) := by decide +kernel
theorem eX6_load_13 : decode rX6_load.2.1 13 = .ok (.getfield 128, 3) := by decide +kernel
theorem eX6_load_16 : decode rX6_load.2.1 16 = .ok (.ireturn, 1) := by decide +kernel
theorem eX6_passengersIn_0 : decode rX6_passengersIn.2.1 0 = .ok (.iload_n 1, 1) := by decide +kernel
theorem eX6_passengersIn_1 : decode rX6_passengersIn.2.1 1 = .ok (.invokestatic 110, 3) := by decide +kernel
theorem eX6_passengersIn_4 : decode rX6_passengersIn.2.1 4 = .ok (.aload_n 0, 1) := by decide +kernel
theorem eX6_passengersIn_5 : decode rX6_passengersIn.2.1 5 = .ok (.getfield 12, 3) := by decide +kernel
theorem eX6_passengersIn_8 : decode rX6_passengersIn.2.1 8 = .ok (.getfield 113, 3) := by decide +kernel
theorem eX6_passengersIn_11 : decode rX6_passengersIn.2.1 11 = .ok (.iload_n 1, 1) := by decide +kernel
theorem eX6_passengersIn_12 : decode rX6_passengersIn.2.1 12 = .ok (.aaload, 1) := by decide +kernel
theorem eX6_passengersIn_13 : decode rX6_passengersIn.2.1 13 = .ok (.getfield 131, 3) := by decide +kernel
theorem eX6_passengersIn_16 : decode rX6_passengersIn.2.1 16 = .ok (.ireturn, 1) := by decide +kernel
theorem eX6_assignedTo_0 : decode rX6_assignedTo.2.1 0 = .ok (.iload_n 1, 1) := by decide +kernel
theorem eX6_assignedTo_1 : decode rX6_assignedTo.2.1 1 = .ok (.invokestatic 110, 3) := by decide +kernel
theorem eX6_assignedTo_4 : decode rX6_assignedTo.2.1 4 = .ok (.aload_n 0, 1) := by decide +kernel
theorem eX6_assignedTo_5 : decode rX6_assignedTo.2.1 5 = .ok (.getfield 12, 3) := by decide +kernel
theorem eX6_assignedTo_8 : decode rX6_assignedTo.2.1 8 = .ok (.iload_n 1, 1) := by decide +kernel
theorem eX6_assignedTo_9 : decode rX6_assignedTo.2.1 9 = .ok (.invokevirtual 134, 3) := by decide +kernel
theorem eX6_assignedTo_12 : decode rX6_assignedTo.2.1 12 = .ok (.ireturn, 1) := by decide +kernel
theorem eX6_doorSteps_0 : decode rX6_doorSteps.2.1 0 = .ok (.iload_n 1, 1) := by decide +kernel
theorem eX6_doorSteps_1 : decode rX6_doorSteps.2.1 1 = .ok (.invokestatic 110, 3) := by decide +kernel
theorem eX6_doorSteps_4 : decode rX6_doorSteps.2.1 4 = .ok (.aload_n 0, 1) := by decide +kernel
theorem eX6_doorSteps_5 : decode rX6_doorSteps.2.1 5 = .ok (.getfield 12, 3) := by decide +kernel
theorem eX6_doorSteps_8 : decode rX6_doorSteps.2.1 8 = .ok (.getfield 113, 3) := by decide +kernel
theorem eX6_doorSteps_11 : decode rX6_doorSteps.2.1 11 = .ok (.iload_n 1, 1) := by decide +kernel
theorem eX6_doorSteps_12 : decode rX6_doorSteps.2.1 12 = .ok (.aaload, 1) := by decide +kernel
theorem eX6_doorSteps_13 : decode rX6_doorSteps.2.1 13 = .ok (.getfield 137, 3) := by decide +kernel
theorem eX6_doorSteps_16 : decode rX6_doorSteps.2.1 16 = .ok (.ireturn, 1) := by decide +kernel
theorem eX6_isInService_0 : decode rX6_isInService.2.1 0 = .ok (.iload_n 1, 1) := by decide +kernel
theorem eX6_isInService_1 : decode rX6_isInService.2.1 1 = .ok (.invokestatic 110, 3) := by decide +kernel
theorem eX6_isInService_4 : decode rX6_isInService.2.1 4 = .ok (.aload_n 0, 1) := by decide +kernel
theorem eX6_isInService_5 : decode rX6_isInService.2.1 5 = .ok (.getfield 12, 3) := by decide +kernel
theorem eX6_isInService_8 : decode rX6_isInService.2.1 8 = .ok (.getfield 113, 3) := by decide +kernel
theorem eX6_isInService_11 : decode rX6_isInService.2.1 11 = .ok (.iload_n 1, 1) := by decide +kernel
theorem eX6_isInService_12 : decode rX6_isInService.2.1 12 = .ok (.aaload, 1) := by decide +kernel
theorem eX6_isInService_13 : decode rX6_isInService.2.1 13 = .ok (.getfield 140, 3) := by decide +kernel
theorem eX6_isInService_16 : decode rX6_isInService.2.1 16 = .ok (.ireturn, 1) := by decide +kernel
theorem eX6_energy_0 : decode rX6_energy.2.1 0 = .ok (.iload_n 1, 1) := by decide +kernel
theorem eX6_energy_1 : decode rX6_energy.2.1 1 = .ok (.invokestatic 110, 3) := by decide +kernel
theorem eX6_energy_4 : decode rX6_energy.2.1 4 = .ok (.aload_n 0, 1) := by decide +kernel
theorem eX6_energy_5 : decode rX6_energy.2.1 5 = .ok (.getfield 12, 3) := by decide +kernel
theorem eX6_energy_8 : decode rX6_energy.2.1 8 = .ok (.getfield 113, 3) := by decide +kernel
theorem eX6_energy_11 : decode rX6_energy.2.1 11 = .ok (.iload_n 1, 1) := by decide +kernel
theorem eX6_energy_12 : decode rX6_energy.2.1 12 = .ok (.aaload, 1) := by decide +kernel
theorem eX6_energy_13 : decode rX6_energy.2.1 13 = .ok (.getfield 143, 3) := by decide +kernel
theorem eX6_energy_16 : decode rX6_energy.2.1 16 = .ok (.ireturn, 1) := by decide +kernel
theorem eX6_isStop_0 : decode rX6_isStop.2.1 0 = .ok (.iload_n 1, 1) := by decide +kernel
theorem eX6_isStop_1 : decode rX6_isStop.2.1 1 = .ok (.invokestatic 110, 3) := by decide +kernel
theorem eX6_isStop_4 : decode rX6_isStop.2.1 4 = .ok (.iload_n 2, 1) := by decide +kernel
theorem eX6_isStop_5 : decode rX6_isStop.2.1 5 = .ok (.invokestatic 146, 3) := by decide +kernel
theorem eX6_isStop_8 : decode rX6_isStop.2.1 8 = .ok (.aload_n 0, 1) := by decide +kernel
theorem eX6_isStop_9 : decode rX6_isStop.2.1 9 = .ok (.getfield 12, 3) := by decide +kernel
theorem eX6_isStop_12 : decode rX6_isStop.2.1 12 = .ok (.iload_n 1, 1) := by decide +kernel
theorem eX6_isStop_13 : decode rX6_isStop.2.1 13 = .ok (.invokevirtual 149, 3) := by decide +kernel
theorem eX6_isStop_16 : decode rX6_isStop.2.1 16 = .ok (.iload_n 2, 1) := by decide +kernel
theorem eX6_isStop_17 : decode rX6_isStop.2.1 17 = .ok (.invokestatic 152, 3) := by decide +kernel
theorem eX6_isStop_20 : decode rX6_isStop.2.1 20 = .ok (.ireturn, 1) := by decide +kernel
theorem eX6_stopCount_0 : decode rX6_stopCount.2.1 0 = .ok (.iload_n 1, 1) := by decide +kernel
theorem eX6_stopCount_1 : decode rX6_stopCount.2.1 1 = .ok (.invokestatic 110, 3) := by decide +kernel
theorem eX6_stopCount_4 : decode rX6_stopCount.2.1 4 = .ok (.aload_n 0, 1) := by decide +kernel
theorem eX6_stopCount_5 : decode rX6_stopCount.2.1 5 = .ok (.getfield 12, 3) := by decide +kernel
theorem eX6_stopCount_8 : decode rX6_stopCount.2.1 8 = .ok (.iload_n 1, 1) := by decide +kernel
theorem eX6_stopCount_9 : decode rX6_stopCount.2.1 9 = .ok (.invokevirtual 149, 3) := by decide +kernel
theorem eX6_stopCount_12 : decode rX6_stopCount.2.1 12 = .ok (.invokestatic 156, 3) := by decide +kernel
theorem eX6_stopCount_15 : decode rX6_stopCount.2.1 15 = .ok (.ireturn, 1) := by decide +kernel
theorem eX6_nextStop_0 : decode rX6_nextStop.2.1 0 = .ok (.iload_n 1, 1) := by decide +kernel
theorem eX6_nextStop_1 : decode rX6_nextStop.2.1 1 = .ok (.invokestatic 110, 3) := by decide +kernel
theorem eX6_nextStop_4 : decode rX6_nextStop.2.1 4 = .ok (.aload_n 0, 1) := by decide +kernel
theorem eX6_nextStop_5 : decode rX6_nextStop.2.1 5 = .ok (.getfield 12, 3) := by decide +kernel
theorem eX6_nextStop_8 : decode rX6_nextStop.2.1 8 = .ok (.getfield 113, 3) := by decide +kernel
theorem eX6_nextStop_11 : decode rX6_nextStop.2.1 11 = .ok (.iload_n 1, 1) := by decide +kernel
theorem eX6_nextStop_12 : decode rX6_nextStop.2.1 12 = .ok (.aaload, 1) := by decide +kernel
theorem eX6_nextStop_13 : decode rX6_nextStop.2.1 13 = .ok (.astore_n 2, 1) := by decide +kernel
theorem eX6_nextStop_14 : decode rX6_nextStop.2.1 14 = .ok (.aload_n 0, 1) := by decide +kernel
theorem eX6_nextStop_15 : decode rX6_nextStop.2.1 15 = .ok (.getfield 12, 3) := by decide +kernel
theorem eX6_nextStop_18 : decode rX6_nextStop.2.1 18 = .ok (.iload_n 1, 1) := by decide +kernel
theorem eX6_nextStop_19 : decode rX6_nextStop.2.1 19 = .ok (.invokevirtual 149, 3) := by decide +kernel
theorem eX6_nextStop_22 : decode rX6_nextStop.2.1 22 = .ok (.istore_n 3, 1) := by decide +kernel
theorem eX6_nextStop_23 : decode rX6_nextStop.2.1 23 = .ok (.iload_n 3, 1) := by decide +kernel
theorem eX6_nextStop_24 : decode rX6_nextStop.2.1 24 = .ok (.ifCond .ne 13, 3) := by decide +kernel
theorem eX6_nextStop_27 : decode rX6_nextStop.2.1 27 = .ok (.new 161, 3) := by decide +kernel
theorem eX6_nextStop_30 : decode rX6_nextStop.2.1 30 = .ok (.dup, 1) := by decide +kernel
theorem eX6_nextStop_31 : decode rX6_nextStop.2.1 31 = .ok (.ldc 163, 2) := by decide +kernel
theorem eX6_nextStop_33 : decode rX6_nextStop.2.1 33 = .ok (.invokespecial 165, 3) := by decide +kernel
theorem eX6_nextStop_36 : decode rX6_nextStop.2.1 36 = .ok (.athrow, 1) := by decide +kernel
theorem eX6_nextStop_37 : decode rX6_nextStop.2.1 37 = .ok (.iload_n 3, 1) := by decide +kernel
theorem eX6_nextStop_38 : decode rX6_nextStop.2.1 38 = .ok (.aload_n 2, 1) := by decide +kernel
theorem eX6_nextStop_39 : decode rX6_nextStop.2.1 39 = .ok (.getfield 117, 3) := by decide +kernel
theorem eX6_nextStop_42 : decode rX6_nextStop.2.1 42 = .ok (.invokestatic 152, 3) := by decide +kernel
theorem eX6_nextStop_45 : decode rX6_nextStop.2.1 45 = .ok (.ifCond .eq 8, 3) := by decide +kernel
theorem eX6_nextStop_48 : decode rX6_nextStop.2.1 48 = .ok (.aload_n 2, 1) := by decide +kernel
theorem eX6_nextStop_49 : decode rX6_nextStop.2.1 49 = .ok (.getfield 117, 3) := by decide +kernel
theorem eX6_nextStop_52 : decode rX6_nextStop.2.1 52 = .ok (.ireturn, 1) := by decide +kernel
theorem eX6_nextStop_53 : decode rX6_nextStop.2.1 53 = .ok (.aload_n 2, 1) := by decide +kernel
theorem eX6_nextStop_54 : decode rX6_nextStop.2.1 54 = .ok (.iload_n 3, 1) := by decide +kernel
theorem eX6_nextStop_55 : decode rX6_nextStop.2.1 55 = .ok (.invokestatic 168, 3) := by decide +kernel
theorem eX6_nextStop_58 : decode rX6_nextStop.2.1 58 = .ok (.istore 4, 2) := by decide +kernel
theorem eX6_nextStop_60 : decode rX6_nextStop.2.1 60 = .ok (.aload_n 2, 1) := by decide +kernel
theorem eX6_nextStop_61 : decode rX6_nextStop.2.1 61 = .ok (.getfield 117, 3) := by decide +kernel
theorem eX6_nextStop_64 : decode rX6_nextStop.2.1 64 = .ok (.iload 4, 2) := by decide +kernel
theorem eX6_nextStop_66 : decode rX6_nextStop.2.1 66 = .ok (.iload_n 3, 1) := by decide +kernel
theorem eX6_nextStop_67 : decode rX6_nextStop.2.1 67 = .ok (.aload_n 2, 1) := by decide +kernel
theorem eX6_nextStop_68 : decode rX6_nextStop.2.1 68 = .ok (.getfield 117, 3) := by decide +kernel
theorem eX6_nextStop_71 : decode rX6_nextStop.2.1 71 = .ok (.iload 4, 2) := by decide +kernel
theorem eX6_nextStop_73 : decode rX6_nextStop.2.1 73 = .ok (.invokestatic 172, 3) := by decide +kernel
theorem eX6_nextStop_76 : decode rX6_nextStop.2.1 76 = .ok (.imul, 1) := by decide +kernel
theorem eX6_nextStop_77 : decode rX6_nextStop.2.1 77 = .ok (.iadd, 1) := by decide +kernel
theorem eX6_nextStop_78 : decode rX6_nextStop.2.1 78 = .ok (.ireturn, 1) := by decide +kernel
theorem eX6_passengerCount_0 : decode rX6_passengerCount.2.1 0 = .ok (.aload_n 0, 1) := by decide +kernel
theorem eX6_passengerCount_1 : decode rX6_passengerCount.2.1 1 = .ok (.getfield 12, 3) := by decide +kernel
theorem eX6_passengerCount_4 : decode rX6_passengerCount.2.1 4 = .ok (.getfield 175, 3) := by decide +kernel
theorem eX6_passengerCount_7 : decode rX6_passengerCount.2.1 7 = .ok (.ireturn, 1) := by decide +kernel
theorem eX6_number_0 : decode rX6_number.2.1 0 = .ok (.aload_n 0, 1) := by decide +kernel
theorem eX6_number_1 : decode rX6_number.2.1 1 = .ok (.iload_n 1, 1) := by decide +kernel
theorem eX6_number_2 : decode rX6_number.2.1 2 = .ok (.invokevirtual 178, 3) := by decide +kernel
theorem eX6_number_5 : decode rX6_number.2.1 5 = .ok (.aload_n 0, 1) := by decide +kernel
theorem eX6_number_6 : decode rX6_number.2.1 6 = .ok (.getfield 12, 3) := by decide +kernel
theorem eX6_number_9 : decode rX6_number.2.1 9 = .ok (.getfield 181, 3) := by decide +kernel
theorem eX6_number_12 : decode rX6_number.2.1 12 = .ok (.iload_n 1, 1) := by decide +kernel
theorem eX6_number_13 : decode rX6_number.2.1 13 = .ok (.aaload, 1) := by decide +kernel
theorem eX6_number_14 : decode rX6_number.2.1 14 = .ok (.getfield 185, 3) := by decide +kernel
theorem eX6_number_17 : decode rX6_number.2.1 17 = .ok (.ireturn, 1) := by decide +kernel
theorem eX6_start_0 : decode rX6_start.2.1 0 = .ok (.aload_n 0, 1) := by decide +kernel
theorem eX6_start_1 : decode rX6_start.2.1 1 = .ok (.iload_n 1, 1) := by decide +kernel
theorem eX6_start_2 : decode rX6_start.2.1 2 = .ok (.invokevirtual 178, 3) := by decide +kernel
theorem eX6_start_5 : decode rX6_start.2.1 5 = .ok (.aload_n 0, 1) := by decide +kernel
theorem eX6_start_6 : decode rX6_start.2.1 6 = .ok (.getfield 12, 3) := by decide +kernel
theorem eX6_start_9 : decode rX6_start.2.1 9 = .ok (.getfield 181, 3) := by decide +kernel
theorem eX6_start_12 : decode rX6_start.2.1 12 = .ok (.iload_n 1, 1) := by decide +kernel
theorem eX6_start_13 : decode rX6_start.2.1 13 = .ok (.aaload, 1) := by decide +kernel
theorem eX6_start_14 : decode rX6_start.2.1 14 = .ok (.getfield 190, 3) := by decide +kernel
theorem eX6_start_17 : decode rX6_start.2.1 17 = .ok (.ireturn, 1) := by decide +kernel
theorem eX6_destination_0 : decode rX6_destination.2.1 0 = .ok (.aload_n 0, 1) := by decide +kernel
theorem eX6_destination_1 : decode rX6_destination.2.1 1 = .ok (.iload_n 1, 1) := by decide +kernel
theorem eX6_destination_2 : decode rX6_destination.2.1 2 = .ok (.invokevirtual 178, 3) := by decide +kernel
theorem eX6_destination_5 : decode rX6_destination.2.1 5 = .ok (.aload_n 0, 1) := by decide +kernel
theorem eX6_destination_6 : decode rX6_destination.2.1 6 = .ok (.getfield 12, 3) := by decide +kernel
theorem eX6_destination_9 : decode rX6_destination.2.1 9 = .ok (.getfield 181, 3) := by decide +kernel
theorem eX6_destination_12 : decode rX6_destination.2.1 12 = .ok (.iload_n 1, 1) := by decide +kernel
theorem eX6_destination_13 : decode rX6_destination.2.1 13 = .ok (.aaload, 1) := by decide +kernel
theorem eX6_destination_14 : decode rX6_destination.2.1 14 = .ok (.getfield 193, 3) := by decide +kernel
theorem eX6_destination_17 : decode rX6_destination.2.1 17 = .ok (.ireturn, 1) := by decide +kernel
theorem eX6_weight_0 : decode rX6_weight.2.1 0 = .ok (.aload_n 0, 1) := by decide +kernel
theorem eX6_weight_1 : decode rX6_weight.2.1 1 = .ok (.iload_n 1, 1) := by decide +kernel
theorem eX6_weight_2 : decode rX6_weight.2.1 2 = .ok (.invokevirtual 178, 3) := by decide +kernel
theorem eX6_weight_5 : decode rX6_weight.2.1 5 = .ok (.aload_n 0, 1) := by decide +kernel
theorem eX6_weight_6 : decode rX6_weight.2.1 6 = .ok (.getfield 12, 3) := by decide +kernel
theorem eX6_weight_9 : decode rX6_weight.2.1 9 = .ok (.getfield 181, 3) := by decide +kernel
theorem eX6_weight_12 : decode rX6_weight.2.1 12 = .ok (.iload_n 1, 1) := by decide +kernel
theorem eX6_weight_13 : decode rX6_weight.2.1 13 = .ok (.aaload, 1) := by decide +kernel
theorem eX6_weight_14 : decode rX6_weight.2.1 14 = .ok (.getfield 196, 3) := by decide +kernel
theorem eX6_weight_17 : decode rX6_weight.2.1 17 = .ok (.ireturn, 1) := by decide +kernel
theorem eX6_waitingTime_0 : decode rX6_waitingTime.2.1 0 = .ok (.aload_n 0, 1) := by decide +kernel
theorem eX6_waitingTime_1 : decode rX6_waitingTime.2.1 1 = .ok (.iload_n 1, 1) := by decide +kernel
theorem eX6_waitingTime_2 : decode rX6_waitingTime.2.1 2 = .ok (.invokevirtual 178, 3) := by decide +kernel
theorem eX6_waitingTime_5 : decode rX6_waitingTime.2.1 5 = .ok (.aload_n 0, 1) := by decide +kernel
theorem eX6_waitingTime_6 : decode rX6_waitingTime.2.1 6 = .ok (.getfield 12, 3) := by decide +kernel
theorem eX6_waitingTime_9 : decode rX6_waitingTime.2.1 9 = .ok (.getfield 181, 3) := by decide +kernel
theorem eX6_waitingTime_12 : decode rX6_waitingTime.2.1 12 = .ok (.iload_n 1, 1) := by decide +kernel
theorem eX6_waitingTime_13 : decode rX6_waitingTime.2.1 13 = .ok (.aaload, 1) := by decide +kernel
theorem eX6_waitingTime_14 : decode rX6_waitingTime.2.1 14 = .ok (.getfield 199, 3) := by decide +kernel
theorem eX6_waitingTime_17 : decode rX6_waitingTime.2.1 17 = .ok (.ireturn, 1) := by decide +kernel
theorem eX6_isInCar_0 : decode rX6_isInCar.2.1 0 = .ok (.aload_n 0, 1) := by decide +kernel
theorem eX6_isInCar_1 : decode rX6_isInCar.2.1 1 = .ok (.iload_n 1, 1) := by decide +kernel
theorem eX6_isInCar_2 : decode rX6_isInCar.2.1 2 = .ok (.invokevirtual 178, 3) := by decide +kernel
theorem eX6_isInCar_5 : decode rX6_isInCar.2.1 5 = .ok (.aload_n 0, 1) := by decide +kernel
theorem eX6_isInCar_6 : decode rX6_isInCar.2.1 6 = .ok (.getfield 12, 3) := by decide +kernel
theorem eX6_isInCar_9 : decode rX6_isInCar.2.1 9 = .ok (.getfield 181, 3) := by decide +kernel
theorem eX6_isInCar_12 : decode rX6_isInCar.2.1 12 = .ok (.iload_n 1, 1) := by decide +kernel
theorem eX6_isInCar_13 : decode rX6_isInCar.2.1 13 = .ok (.aaload, 1) := by decide +kernel
theorem eX6_isInCar_14 : decode rX6_isInCar.2.1 14 = .ok (.getfield 202, 3) := by decide +kernel
theorem eX6_isInCar_17 : decode rX6_isInCar.2.1 17 = .ok (.ireturn, 1) := by decide +kernel
theorem eX6_carOf_0 : decode rX6_carOf.2.1 0 = .ok (.aload_n 0, 1) := by decide +kernel
theorem eX6_carOf_1 : decode rX6_carOf.2.1 1 = .ok (.iload_n 1, 1) := by decide +kernel
theorem eX6_carOf_2 : decode rX6_carOf.2.1 2 = .ok (.invokevirtual 178, 3) := by decide +kernel
theorem eX6_carOf_5 : decode rX6_carOf.2.1 5 = .ok (.aload_n 0, 1) := by decide +kernel
theorem eX6_carOf_6 : decode rX6_carOf.2.1 6 = .ok (.getfield 12, 3) := by decide +kernel
theorem eX6_carOf_9 : decode rX6_carOf.2.1 9 = .ok (.getfield 181, 3) := by decide +kernel
theorem eX6_carOf_12 : decode rX6_carOf.2.1 12 = .ok (.iload_n 1, 1) := by decide +kernel
theorem eX6_carOf_13 : decode rX6_carOf.2.1 13 = .ok (.aaload, 1) := by decide +kernel
theorem eX6_carOf_14 : decode rX6_carOf.2.1 14 = .ok (.getfield 205, 3) := by decide +kernel
theorem eX6_carOf_17 : decode rX6_carOf.2.1 17 = .ok (.istore_n 2, 1) := by decide +kernel
theorem eX6_carOf_18 : decode rX6_carOf.2.1 18 = .ok (.iload_n 2, 1) := by decide +kernel
theorem eX6_carOf_19 : decode rX6_carOf.2.1 19 = .ok (.iconst (-1), 1) := by decide +kernel
theorem eX6_carOf_20 : decode rX6_carOf.2.1 20 = .ok (.if_icmp .ne 13, 3) := by decide +kernel
theorem eX6_carOf_23 : decode rX6_carOf.2.1 23 = .ok (.new 161, 3) := by decide +kernel
theorem eX6_carOf_26 : decode rX6_carOf.2.1 26 = .ok (.dup, 1) := by decide +kernel
theorem eX6_carOf_27 : decode rX6_carOf.2.1 27 = .ok (.ldc 208, 2) := by decide +kernel
theorem eX6_carOf_29 : decode rX6_carOf.2.1 29 = .ok (.invokespecial 165, 3) := by decide +kernel
theorem eX6_carOf_32 : decode rX6_carOf.2.1 32 = .ok (.athrow, 1) := by decide +kernel
theorem eX6_carOf_33 : decode rX6_carOf.2.1 33 = .ok (.iload_n 2, 1) := by decide +kernel
theorem eX6_carOf_34 : decode rX6_carOf.2.1 34 = .ok (.ireturn, 1) := by decide +kernel
theorem eX6_waitingAt_0 : decode rX6_waitingAt.2.1 0 = .ok (.iload_n 1, 1) := by decide +kernel
theorem eX6_waitingAt_1 : decode rX6_waitingAt.2.1 1 = .ok (.invokestatic 146, 3) := by decide +kernel
theorem eX6_waitingAt_4 : decode rX6_waitingAt.2.1 4 = .ok (.aload_n 0, 1) := by decide +kernel
theorem eX6_waitingAt_5 : decode rX6_waitingAt.2.1 5 = .ok (.getfield 12, 3) := by decide +kernel
theorem eX6_waitingAt_8 : decode rX6_waitingAt.2.1 8 = .ok (.iload_n 1, 1) := by decide +kernel
theorem eX6_waitingAt_9 : decode rX6_waitingAt.2.1 9 = .ok (.invokevirtual 210, 3) := by decide +kernel
theorem eX6_waitingAt_12 : decode rX6_waitingAt.2.1 12 = .ok (.ireturn, 1) := by decide +kernel
theorem eX6_estimate_0 : decode rX6_estimate.2.1 0 = .ok (.iload_n 1, 1) := by decide +kernel
theorem eX6_estimate_1 : decode rX6_estimate.2.1 1 = .ok (.invokestatic 110, 3) := by decide +kernel
theorem eX6_estimate_4 : decode rX6_estimate.2.1 4 = .ok (.iload_n 2, 1) := by decide +kernel
theorem eX6_estimate_5 : decode rX6_estimate.2.1 5 = .ok (.invokestatic 146, 3) := by decide +kernel
theorem eX6_estimate_8 : decode rX6_estimate.2.1 8 = .ok (.aload_n 0, 1) := by decide +kernel
theorem eX6_estimate_9 : decode rX6_estimate.2.1 9 = .ok (.getfield 12, 3) := by decide +kernel
theorem eX6_estimate_12 : decode rX6_estimate.2.1 12 = .ok (.iload_n 1, 1) := by decide +kernel
theorem eX6_estimate_13 : decode rX6_estimate.2.1 13 = .ok (.iload_n 2, 1) := by decide +kernel
theorem eX6_estimate_14 : decode rX6_estimate.2.1 14 = .ok (.invokevirtual 213, 3) := by decide +kernel
theorem eX6_estimate_17 : decode rX6_estimate.2.1 17 = .ok (.ireturn, 1) := by decide +kernel
theorem eX6_estimateByWalk_0 : decode rX6_estimateByWalk.2.1 0 = .ok (.iload_n 1, 1) := by decide +kernel
theorem eX6_estimateByWalk_1 : decode rX6_estimateByWalk.2.1 1 = .ok (.invokestatic 110, 3) := by decide +kernel
theorem eX6_estimateByWalk_4 : decode rX6_estimateByWalk.2.1 4 = .ok (.iload_n 2, 1) := by decide +kernel
theorem eX6_estimateByWalk_5 : decode rX6_estimateByWalk.2.1 5 = .ok (.invokestatic 146, 3) := by decide +kernel
theorem eX6_estimateByWalk_8 : decode rX6_estimateByWalk.2.1 8 = .ok (.aload_n 0, 1) := by decide +kernel
theorem eX6_estimateByWalk_9 : decode rX6_estimateByWalk.2.1 9 = .ok (.getfield 12, 3) := by decide +kernel
theorem eX6_estimateByWalk_12 : decode rX6_estimateByWalk.2.1 12 = .ok (.iload_n 1, 1) := by decide +kernel
theorem eX6_estimateByWalk_13 : decode rX6_estimateByWalk.2.1 13 = .ok (.iload_n 2, 1) := by decide +kernel
theorem eX6_estimateByWalk_14 : decode rX6_estimateByWalk.2.1 14 = .ok (.invokevirtual 216, 3) := by decide +kernel
theorem eX6_estimateByWalk_17 : decode rX6_estimateByWalk.2.1 17 = .ok (.ireturn, 1) := by decide +kernel
theorem eX6_bestCar_0 : decode rX6_bestCar.2.1 0 = .ok (.iload_n 1, 1) := by decide +kernel
theorem eX6_bestCar_1 : decode rX6_bestCar.2.1 1 = .ok (.invokestatic 146, 3) := by decide +kernel
theorem eX6_bestCar_4 : decode rX6_bestCar.2.1 4 = .ok (.iload_n 2, 1) := by decide +kernel
theorem eX6_bestCar_5 : decode rX6_bestCar.2.1 5 = .ok (.invokestatic 219, 3) := by decide +kernel
theorem eX6_bestCar_8 : decode rX6_bestCar.2.1 8 = .ok (.ifCond .ne 13, 3) := by decide +kernel
theorem eX6_bestCar_11 : decode rX6_bestCar.2.1 11 = .ok (.new 223, 3) := by decide +kernel
theorem eX6_bestCar_14 : decode rX6_bestCar.2.1 14 = .ok (.dup, 1) := by decide +kernel
theorem eX6_bestCar_15 : decode rX6_bestCar.2.1 15 = .ok (.ldc 225, 2) := by decide +kernel
theorem eX6_bestCar_17 : decode rX6_bestCar.2.1 17 = .ok (.invokespecial 227, 3) := by decide +kernel
theorem eX6_bestCar_20 : decode rX6_bestCar.2.1 20 = .ok (.athrow, 1) := by decide +kernel
theorem eX6_bestCar_21 : decode rX6_bestCar.2.1 21 = .ok (.aload_n 0, 1) := by decide +kernel
theorem eX6_bestCar_22 : decode rX6_bestCar.2.1 22 = .ok (.getfield 12, 3) := by decide +kernel
theorem eX6_bestCar_25 : decode rX6_bestCar.2.1 25 = .ok (.iload_n 1, 1) := by decide +kernel
theorem eX6_bestCar_26 : decode rX6_bestCar.2.1 26 = .ok (.iload_n 2, 1) := by decide +kernel
theorem eX6_bestCar_27 : decode rX6_bestCar.2.1 27 = .ok (.invokevirtual 228, 3) := by decide +kernel
theorem eX6_bestCar_30 : decode rX6_bestCar.2.1 30 = .ok (.istore_n 3, 1) := by decide +kernel
theorem eX6_bestCar_31 : decode rX6_bestCar.2.1 31 = .ok (.iload_n 3, 1) := by decide +kernel
theorem eX6_bestCar_32 : decode rX6_bestCar.2.1 32 = .ok (.iconst (-1), 1) := by decide +kernel
theorem eX6_bestCar_33 : decode rX6_bestCar.2.1 33 = .ok (.if_icmp .ne 13, 3) := by decide +kernel
theorem eX6_bestCar_36 : decode rX6_bestCar.2.1 36 = .ok (.new 161, 3) := by decide +kernel
theorem eX6_bestCar_39 : decode rX6_bestCar.2.1 39 = .ok (.dup, 1) := by decide +kernel
theorem eX6_bestCar_40 : decode rX6_bestCar.2.1 40 = .ok (.ldc 231, 2) := by decide +kernel
theorem eX6_bestCar_42 : decode rX6_bestCar.2.1 42 = .ok (.invokespecial 165, 3) := by decide +kernel
theorem eX6_bestCar_45 : decode rX6_bestCar.2.1 45 = .ok (.athrow, 1) := by decide +kernel
theorem eX6_bestCar_46 : decode rX6_bestCar.2.1 46 = .ok (.iload_n 3, 1) := by decide +kernel
theorem eX6_bestCar_47 : decode rX6_bestCar.2.1 47 = .ok (.ireturn, 1) := by decide +kernel
theorem eX6_stepsUntilBoarding_0 : decode rX6_stepsUntilBoarding.2.1 0 = .ok (.aload_n 0, 1) := by decide +kernel
theorem eX6_stepsUntilBoarding_1 : decode rX6_stepsUntilBoarding.2.1 1 = .ok (.iload_n 1, 1) := by decide +kernel
theorem eX6_stepsUntilBoarding_2 : decode rX6_stepsUntilBoarding.2.1 2 = .ok (.invokevirtual 178, 3) := by decide +kernel
theorem eX6_stepsUntilBoarding_5 : decode rX6_stepsUntilBoarding.2.1 5 = .ok (.aload_n 0, 1) := by decide +kernel
theorem eX6_stepsUntilBoarding_6 : decode rX6_stepsUntilBoarding.2.1 6 = .ok (.getfield 12, 3) := by decide +kernel
theorem eX6_stepsUntilBoarding_9 : decode rX6_stepsUntilBoarding.2.1 9 = .ok (.getfield 181, 3) := by decide +kernel
theorem eX6_stepsUntilBoarding_12 : decode rX6_stepsUntilBoarding.2.1 12 = .ok (.iload_n 1, 1) := by decide +kernel
theorem eX6_stepsUntilBoarding_13 : decode rX6_stepsUntilBoarding.2.1 13 = .ok (.aaload, 1) := by decide +kernel
theorem eX6_stepsUntilBoarding_14 : decode rX6_stepsUntilBoarding.2.1 14 = .ok (.getfield 202, 3) := by decide +kernel
theorem eX6_stepsUntilBoarding_17 : decode rX6_stepsUntilBoarding.2.1 17 = .ok (.ifCond .eq 5, 3) := by decide +kernel
theorem eX6_stepsUntilBoarding_20 : decode rX6_stepsUntilBoarding.2.1 20 = .ok (.iconst 0, 1) := by decide +kernel
theorem eX6_stepsUntilBoarding_21 : decode rX6_stepsUntilBoarding.2.1 21 = .ok (.ireturn, 1) := by decide +kernel
theorem eX6_stepsUntilBoarding_22 : decode rX6_stepsUntilBoarding.2.1 22 = .ok (.aload_n 0, 1) := by decide +kernel
theorem eX6_stepsUntilBoarding_23 : decode rX6_stepsUntilBoarding.2.1 23 = .ok (.getfield 12, 3) := by decide +kernel
theorem eX6_stepsUntilBoarding_26 : decode rX6_stepsUntilBoarding.2.1 26 = .ok (.getfield 181, 3) := by decide +kernel
theorem eX6_stepsUntilBoarding_29 : decode rX6_stepsUntilBoarding.2.1 29 = .ok (.iload_n 1, 1) := by decide +kernel
theorem eX6_stepsUntilBoarding_30 : decode rX6_stepsUntilBoarding.2.1 30 = .ok (.aaload, 1) := by decide +kernel
theorem eX6_stepsUntilBoarding_31 : decode rX6_stepsUntilBoarding.2.1 31 = .ok (.getfield 185, 3) := by decide +kernel
theorem eX6_stepsUntilBoarding_34 : decode rX6_stepsUntilBoarding.2.1 34 = .ok (.istore_n 2, 1) := by decide +kernel
theorem eX6_stepsUntilBoarding_35 : decode rX6_stepsUntilBoarding.2.1 35 = .ok (.aload_n 0, 1) := by decide +kernel
theorem eX6_stepsUntilBoarding_36 : decode rX6_stepsUntilBoarding.2.1 36 = .ok (.getfield 16, 3) := by decide +kernel
theorem eX6_stepsUntilBoarding_39 : decode rX6_stepsUntilBoarding.2.1 39 = .ok (.aload_n 0, 1) := by decide +kernel
theorem eX6_stepsUntilBoarding_40 : decode rX6_stepsUntilBoarding.2.1 40 = .ok (.getfield 12, 3) := by decide +kernel
theorem eX6_stepsUntilBoarding_43 : decode rX6_stepsUntilBoarding.2.1 43 = .ok (.invokevirtual 233, 3) := by decide +kernel
theorem eX6_stepsUntilBoarding_46 : decode rX6_stepsUntilBoarding.2.1 46 = .ok (.iconst 1, 1) := by decide +kernel
theorem eX6_stepsUntilBoarding_47 : decode rX6_stepsUntilBoarding.2.1 47 = .ok (.istore_n 3, 1) := by decide +kernel
theorem eX6_stepsUntilBoarding_48 : decode rX6_stepsUntilBoarding.2.1 48 = .ok (.iload_n 3, 1) := by decide +kernel
theorem eX6_stepsUntilBoarding_49 : decode rX6_stepsUntilBoarding.2.1 49 = .ok (.bipush 90, 2) := by decide +kernel
theorem eX6_stepsUntilBoarding_51 : decode rX6_stepsUntilBoarding.2.1 51 = .ok (.if_icmp .gt 29, 3) := by decide +kernel
theorem eX6_stepsUntilBoarding_54 : decode rX6_stepsUntilBoarding.2.1 54 = .ok (.aload_n 0, 1) := by decide +kernel
theorem eX6_stepsUntilBoarding_55 : decode rX6_stepsUntilBoarding.2.1 55 = .ok (.getfield 16, 3) := by decide +kernel
theorem eX6_stepsUntilBoarding_58 : decode rX6_stepsUntilBoarding.2.1 58 = .ok (.invokevirtual 236, 3) := by decide +kernel
theorem eX6_stepsUntilBoarding_61 : decode rX6_stepsUntilBoarding.2.1 61 = .ok (.aload_n 0, 1) := by decide +kernel
theorem eX6_stepsUntilBoarding_62 : decode rX6_stepsUntilBoarding.2.1 62 = .ok (.getfield 16, 3) := by decide +kernel
theorem eX6_stepsUntilBoarding_65 : decode rX6_stepsUntilBoarding.2.1 65 = .ok (.iload_n 2, 1) := by decide +kernel
theorem eX6_stepsUntilBoarding_66 : decode rX6_stepsUntilBoarding.2.1 66 = .ok (.invokevirtual 239, 3) := by decide +kernel
theorem eX6_stepsUntilBoarding_69 : decode rX6_stepsUntilBoarding.2.1 69 = .ok (.ifCond .eq 5, 3) := by decide +kernel
theorem eX6_stepsUntilBoarding_72 : decode rX6_stepsUntilBoarding.2.1 72 = .ok (.iload_n 3, 1) := by decide +kernel
theorem eX6_stepsUntilBoarding_73 : decode rX6_stepsUntilBoarding.2.1 73 = .ok (.ireturn, 1) := by decide +kernel
theorem eX6_stepsUntilBoarding_74 : decode rX6_stepsUntilBoarding.2.1 74 = .ok (.iinc 3 1, 3) := by decide +kernel
theorem eX6_stepsUntilBoarding_77 : decode rX6_stepsUntilBoarding.2.1 77 = .ok (.goto (-29), 3) := by decide +kernel
theorem eX6_stepsUntilBoarding_80 : decode rX6_stepsUntilBoarding.2.1 80 = .ok (.new 161, 3) := by decide +kernel
theorem eX6_stepsUntilBoarding_83 : decode rX6_stepsUntilBoarding.2.1 83 = .ok (.dup, 1) := by decide +kernel
theorem eX6_stepsUntilBoarding_84 : decode rX6_stepsUntilBoarding.2.1 84 = .ok (.ldc 242, 2) := by decide +kernel
theorem eX6_stepsUntilBoarding_86 : decode rX6_stepsUntilBoarding.2.1 86 = .ok (.invokespecial 165, 3) := by decide +kernel
theorem eX6_stepsUntilBoarding_89 : decode rX6_stepsUntilBoarding.2.1 89 = .ok (.athrow, 1) := by decide +kernel
theorem eX6_stepsUntilArrival_0 : decode rX6_stepsUntilArrival.2.1 0 = .ok (.aload_n 0, 1) := by decide +kernel
theorem eX6_stepsUntilArrival_1 : decode rX6_stepsUntilArrival.2.1 1 = .ok (.iload_n 1, 1) := by decide +kernel
theorem eX6_stepsUntilArrival_2 : decode rX6_stepsUntilArrival.2.1 2 = .ok (.invokevirtual 178, 3) := by decide +kernel
theorem eX6_stepsUntilArrival_5 : decode rX6_stepsUntilArrival.2.1 5 = .ok (.aload_n 0, 1) := by decide +kernel
theorem eX6_stepsUntilArrival_6 : decode rX6_stepsUntilArrival.2.1 6 = .ok (.getfield 12, 3) := by decide +kernel
theorem eX6_stepsUntilArrival_9 : decode rX6_stepsUntilArrival.2.1 9 = .ok (.getfield 181, 3) := by decide +kernel
theorem eX6_stepsUntilArrival_12 : decode rX6_stepsUntilArrival.2.1 12 = .ok (.iload_n 1, 1) := by decide +kernel
theorem eX6_stepsUntilArrival_13 : decode rX6_stepsUntilArrival.2.1 13 = .ok (.aaload, 1) := by decide +kernel
theorem eX6_stepsUntilArrival_14 : decode rX6_stepsUntilArrival.2.1 14 = .ok (.getfield 185, 3) := by decide +kernel
theorem eX6_stepsUntilArrival_17 : decode rX6_stepsUntilArrival.2.1 17 = .ok (.istore_n 2, 1) := by decide +kernel
theorem eX6_stepsUntilArrival_18 : decode rX6_stepsUntilArrival.2.1 18 = .ok (.aload_n 0, 1) := by decide +kernel
theorem eX6_stepsUntilArrival_19 : decode rX6_stepsUntilArrival.2.1 19 = .ok (.getfield 16, 3) := by decide +kernel
theorem eX6_stepsUntilArrival_22 : decode rX6_stepsUntilArrival.2.1 22 = .ok (.aload_n 0, 1) := by decide +kernel
theorem eX6_stepsUntilArrival_23 : decode rX6_stepsUntilArrival.2.1 23 = .ok (.getfield 12, 3) := by decide +kernel
theorem eX6_stepsUntilArrival_26 : decode rX6_stepsUntilArrival.2.1 26 = .ok (.invokevirtual 233, 3) := by decide +kernel
theorem eX6_stepsUntilArrival_29 : decode rX6_stepsUntilArrival.2.1 29 = .ok (.iconst 1, 1) := by decide +kernel
theorem eX6_stepsUntilArrival_30 : decode rX6_stepsUntilArrival.2.1 30 = .ok (.istore_n 3, 1) := by decide +kernel
theorem eX6_stepsUntilArrival_31 : decode rX6_stepsUntilArrival.2.1 31 = .ok (.iload_n 3, 1) := by decide +kernel
theorem eX6_stepsUntilArrival_32 : decode rX6_stepsUntilArrival.2.1 32 = .ok (.bipush 90, 2) := by decide +kernel
theorem eX6_stepsUntilArrival_34 : decode rX6_stepsUntilArrival.2.1 34 = .ok (.if_icmp .gt 30, 3) := by decide +kernel
theorem eX6_stepsUntilArrival_37 : decode rX6_stepsUntilArrival.2.1 37 = .ok (.aload_n 0, 1) := by decide +kernel
theorem eX6_stepsUntilArrival_38 : decode rX6_stepsUntilArrival.2.1 38 = .ok (.getfield 16, 3) := by decide +kernel
theorem eX6_stepsUntilArrival_41 : decode rX6_stepsUntilArrival.2.1 41 = .ok (.invokevirtual 236, 3) := by decide +kernel
theorem eX6_stepsUntilArrival_44 : decode rX6_stepsUntilArrival.2.1 44 = .ok (.aload_n 0, 1) := by decide +kernel
theorem eX6_stepsUntilArrival_45 : decode rX6_stepsUntilArrival.2.1 45 = .ok (.getfield 16, 3) := by decide +kernel
theorem eX6_stepsUntilArrival_48 : decode rX6_stepsUntilArrival.2.1 48 = .ok (.iload_n 2, 1) := by decide +kernel
theorem eX6_stepsUntilArrival_49 : decode rX6_stepsUntilArrival.2.1 49 = .ok (.invokevirtual 244, 3) := by decide +kernel
theorem eX6_stepsUntilArrival_52 : decode rX6_stepsUntilArrival.2.1 52 = .ok (.iconst (-1), 1) := by decide +kernel
theorem eX6_stepsUntilArrival_53 : decode rX6_stepsUntilArrival.2.1 53 = .ok (.if_icmp .ne 5, 3) := by decide +kernel
theorem eX6_stepsUntilArrival_56 : decode rX6_stepsUntilArrival.2.1 56 = .ok (.iload_n 3, 1) := by decide +kernel
theorem eX6_stepsUntilArrival_57 : decode rX6_stepsUntilArrival.2.1 57 = .ok (.ireturn, 1) := by decide +kernel
theorem eX6_stepsUntilArrival_58 : decode rX6_stepsUntilArrival.2.1 58 = .ok (.iinc 3 1, 3) := by decide +kernel
theorem eX6_stepsUntilArrival_61 : decode rX6_stepsUntilArrival.2.1 61 = .ok (.goto (-30), 3) := by decide +kernel
theorem eX6_stepsUntilArrival_64 : decode rX6_stepsUntilArrival.2.1 64 = .ok (.new 161, 3) := by decide +kernel
theorem eX6_stepsUntilArrival_67 : decode rX6_stepsUntilArrival.2.1 67 = .ok (.dup, 1) := by decide +kernel
theorem eX6_stepsUntilArrival_68 : decode rX6_stepsUntilArrival.2.1 68 = .ok (.ldc 247, 2) := by decide +kernel
theorem eX6_stepsUntilArrival_70 : decode rX6_stepsUntilArrival.2.1 70 = .ok (.invokespecial 165, 3) := by decide +kernel
theorem eX6_stepsUntilArrival_73 : decode rX6_stepsUntilArrival.2.1 73 = .ok (.athrow, 1) := by decide +kernel
theorem eX6_tripsWithin_0 : decode rX6_tripsWithin.2.1 0 = .ok (.iload_n 1, 1) := by decide +kernel
theorem eX6_tripsWithin_1 : decode rX6_tripsWithin.2.1 1 = .ok (.ifCond .lt 9, 3) := by decide +kernel
theorem eX6_tripsWithin_4 : decode rX6_tripsWithin.2.1 4 = .ok (.iload_n 1, 1) := by decide +kernel
theorem eX6_tripsWithin_5 : decode rX6_tripsWithin.2.1 5 = .ok (.bipush 90, 2) := by decide +kernel
theorem eX6_tripsWithin_7 : decode rX6_tripsWithin.2.1 7 = .ok (.if_icmp .le 13, 3) := by decide +kernel
theorem eX6_tripsWithin_10 : decode rX6_tripsWithin.2.1 10 = .ok (.new 223, 3) := by decide +kernel
theorem eX6_tripsWithin_13 : decode rX6_tripsWithin.2.1 13 = .ok (.dup, 1) := by decide +kernel
theorem eX6_tripsWithin_14 : decode rX6_tripsWithin.2.1 14 = .ok (.ldc 249, 2) := by decide +kernel
theorem eX6_tripsWithin_16 : decode rX6_tripsWithin.2.1 16 = .ok (.invokespecial 227, 3) := by decide +kernel
theorem eX6_tripsWithin_19 : decode rX6_tripsWithin.2.1 19 = .ok (.athrow, 1) := by decide +kernel
theorem eX6_tripsWithin_20 : decode rX6_tripsWithin.2.1 20 = .ok (.aload_n 0, 1) := by decide +kernel
theorem eX6_tripsWithin_21 : decode rX6_tripsWithin.2.1 21 = .ok (.getfield 16, 3) := by decide +kernel
theorem eX6_tripsWithin_24 : decode rX6_tripsWithin.2.1 24 = .ok (.aload_n 0, 1) := by decide +kernel
theorem eX6_tripsWithin_25 : decode rX6_tripsWithin.2.1 25 = .ok (.getfield 12, 3) := by decide +kernel
theorem eX6_tripsWithin_28 : decode rX6_tripsWithin.2.1 28 = .ok (.invokevirtual 233, 3) := by decide +kernel
theorem eX6_tripsWithin_31 : decode rX6_tripsWithin.2.1 31 = .ok (.aload_n 0, 1) := by decide +kernel
theorem eX6_tripsWithin_32 : decode rX6_tripsWithin.2.1 32 = .ok (.getfield 16, 3) := by decide +kernel
theorem eX6_tripsWithin_35 : decode rX6_tripsWithin.2.1 35 = .ok (.iload_n 1, 1) := by decide +kernel
theorem eX6_tripsWithin_36 : decode rX6_tripsWithin.2.1 36 = .ok (.invokevirtual 104, 3) := by decide +kernel
theorem eX6_tripsWithin_39 : decode rX6_tripsWithin.2.1 39 = .ok (.ireturn, 1) := by decide +kernel
theorem eX6_passengerByWaiting_0 : decode rX6_passengerByWaiting.2.1 0 = .ok (.iconst 0, 1) := by decide +kernel
theorem eX6_passengerByWaiting_1 : decode rX6_passengerByWaiting.2.1 1 = .ok (.istore_n 2, 1) := by decide +kernel
theorem eX6_passengerByWaiting_2 : decode rX6_passengerByWaiting.2.1 2 = .ok (.iload_n 2, 1) := by decide +kernel
theorem eX6_passengerByWaiting_3 : decode rX6_passengerByWaiting.2.1 3 = .ok (.aload_n 0, 1) := by decide +kernel
theorem eX6_passengerByWaiting_4 : decode rX6_passengerByWaiting.2.1 4 = .ok (.getfield 12, 3) := by decide +kernel
theorem eX6_passengerByWaiting_7 : decode rX6_passengerByWaiting.2.1 7 = .ok (.getfield 175, 3) := by decide +kernel
theorem eX6_passengerByWaiting_10 : decode rX6_passengerByWaiting.2.1 10 = .ok (.if_icmp .ge 23, 3) := by decide +kernel
theorem eX6_passengerByWaiting_13 : decode rX6_passengerByWaiting.2.1 13 = .ok (.aload_n 0, 1) := by decide +kernel
theorem eX6_passengerByWaiting_14 : decode rX6_passengerByWaiting.2.1 14 = .ok (.getfield 12, 3) := by decide +kernel
theorem eX6_passengerByWaiting_17 : decode rX6_passengerByWaiting.2.1 17 = .ok (.iload_n 2, 1) := by decide +kernel
theorem eX6_passengerByWaiting_18 : decode rX6_passengerByWaiting.2.1 18 = .ok (.invokevirtual 251, 3) := by decide +kernel
theorem eX6_passengerByWaiting_21 : decode rX6_passengerByWaiting.2.1 21 = .ok (.iload_n 1, 1) := by decide +kernel
theorem eX6_passengerByWaiting_22 : decode rX6_passengerByWaiting.2.1 22 = .ok (.if_icmp .ne 5, 3) := by decide +kernel
theorem eX6_passengerByWaiting_25 : decode rX6_passengerByWaiting.2.1 25 = .ok (.iload_n 2, 1) := by decide +kernel
theorem eX6_passengerByWaiting_26 : decode rX6_passengerByWaiting.2.1 26 = .ok (.ireturn, 1) := by decide +kernel
theorem eX6_passengerByWaiting_27 : decode rX6_passengerByWaiting.2.1 27 = .ok (.iinc 2 1, 3) := by decide +kernel
theorem eX6_passengerByWaiting_30 : decode rX6_passengerByWaiting.2.1 30 = .ok (.goto (-28), 3) := by decide +kernel
theorem eX6_passengerByWaiting_33 : decode rX6_passengerByWaiting.2.1 33 = .ok (.new 161, 3) := by decide +kernel
theorem eX6_passengerByWaiting_36 : decode rX6_passengerByWaiting.2.1 36 = .ok (.dup, 1) := by decide +kernel
theorem eX6_passengerByWaiting_37 : decode rX6_passengerByWaiting.2.1 37 = .ok (.ldc 254, 2) := by decide +kernel
theorem eX6_passengerByWaiting_39 : decode rX6_passengerByWaiting.2.1 39 = .ok (.invokespecial 165, 3) := by decide +kernel
theorem eX6_passengerByWaiting_42 : decode rX6_passengerByWaiting.2.1 42 = .ok (.athrow, 1) := by decide +kernel
theorem eX6_carByEnergy_0 : decode rX6_carByEnergy.2.1 0 = .ok (.iconst 0, 1) := by decide +kernel
theorem eX6_carByEnergy_1 : decode rX6_carByEnergy.2.1 1 = .ok (.istore_n 2, 1) := by decide +kernel
theorem eX6_carByEnergy_2 : decode rX6_carByEnergy.2.1 2 = .ok (.iload_n 2, 1) := by decide +kernel
theorem eX6_carByEnergy_3 : decode rX6_carByEnergy.2.1 3 = .ok (.iconst 3, 1) := by decide +kernel
theorem eX6_carByEnergy_4 : decode rX6_carByEnergy.2.1 4 = .ok (.if_icmp .ge 23, 3) := by decide +kernel
theorem eX6_carByEnergy_7 : decode rX6_carByEnergy.2.1 7 = .ok (.aload_n 0, 1) := by decide +kernel
theorem eX6_carByEnergy_8 : decode rX6_carByEnergy.2.1 8 = .ok (.getfield 12, 3) := by decide +kernel
theorem eX6_carByEnergy_11 : decode rX6_carByEnergy.2.1 11 = .ok (.iload_n 2, 1) := by decide +kernel
theorem eX6_carByEnergy_12 : decode rX6_carByEnergy.2.1 12 = .ok (.invokevirtual 256, 3) := by decide +kernel
theorem eX6_carByEnergy_15 : decode rX6_carByEnergy.2.1 15 = .ok (.iload_n 1, 1) := by decide +kernel
theorem eX6_carByEnergy_16 : decode rX6_carByEnergy.2.1 16 = .ok (.if_icmp .ne 5, 3) := by decide +kernel
theorem eX6_carByEnergy_19 : decode rX6_carByEnergy.2.1 19 = .ok (.iload_n 2, 1) := by decide +kernel
theorem eX6_carByEnergy_20 : decode rX6_carByEnergy.2.1 20 = .ok (.ireturn, 1) := by decide +kernel
theorem eX6_carByEnergy_21 : decode rX6_carByEnergy.2.1 21 = .ok (.iinc 2 1, 3) := by decide +kernel
theorem eX6_carByEnergy_24 : decode rX6_carByEnergy.2.1 24 = .ok (.goto (-22), 3) := by decide +kernel
theorem eX6_carByEnergy_27 : decode rX6_carByEnergy.2.1 27 = .ok (.new 161, 3) := by decide +kernel
theorem eX6_carByEnergy_30 : decode rX6_carByEnergy.2.1 30 = .ok (.dup, 1) := by decide +kernel
theorem eX6_carByEnergy_31 : decode rX6_carByEnergy.2.1 31 = .ok (.ldc 254, 2) := by decide +kernel
theorem eX6_carByEnergy_33 : decode rX6_carByEnergy.2.1 33 = .ok (.invokespecial 165, 3) := by decide +kernel
theorem eX6_carByEnergy_36 : decode rX6_carByEnergy.2.1 36 = .ok (.athrow, 1) := by decide +kernel
theorem eX6_tripNumber_0 : decode rX6_tripNumber.2.1 0 = .ok (.aload_n 0, 1) := by decide +kernel
theorem eX6_tripNumber_1 : decode rX6_tripNumber.2.1 1 = .ok (.iload_n 1, 1) := by decide +kernel
theorem eX6_tripNumber_2 : decode rX6_tripNumber.2.1 2 = .ok (.invokevirtual 259, 3) := by decide +kernel
theorem eX6_tripNumber_5 : decode rX6_tripNumber.2.1 5 = .ok (.aload_n 0, 1) := by decide +kernel
theorem eX6_tripNumber_6 : decode rX6_tripNumber.2.1 6 = .ok (.getfield 12, 3) := by decide +kernel
theorem eX6_tripNumber_9 : decode rX6_tripNumber.2.1 9 = .ok (.getfield 262, 3) := by decide +kernel
theorem eX6_tripNumber_12 : decode rX6_tripNumber.2.1 12 = .ok (.getfield 266, 3) := by decide +kernel
theorem eX6_tripNumber_15 : decode rX6_tripNumber.2.1 15 = .ok (.aload_n 0, 1) := by decide +kernel
theorem eX6_tripNumber_16 : decode rX6_tripNumber.2.1 16 = .ok (.getfield 12, 3) := by decide +kernel
theorem eX6_tripNumber_19 : decode rX6_tripNumber.2.1 19 = .ok (.getfield 262, 3) := by decide +kernel
theorem eX6_tripNumber_22 : decode rX6_tripNumber.2.1 22 = .ok (.iload_n 1, 1) := by decide +kernel
theorem eX6_tripNumber_23 : decode rX6_tripNumber.2.1 23 = .ok (.invokevirtual 272, 3) := by decide +kernel
theorem eX6_tripNumber_26 : decode rX6_tripNumber.2.1 26 = .ok (.iaload, 1) := by decide +kernel
theorem eX6_tripNumber_27 : decode rX6_tripNumber.2.1 27 = .ok (.ireturn, 1) := by decide +kernel
theorem eX6_tripCar_0 : decode rX6_tripCar.2.1 0 = .ok (.aload_n 0, 1) := by decide +kernel
theorem eX6_tripCar_1 : decode rX6_tripCar.2.1 1 = .ok (.iload_n 1, 1) := by decide +kernel
theorem eX6_tripCar_2 : decode rX6_tripCar.2.1 2 = .ok (.invokevirtual 259, 3) := by decide +kernel
theorem eX6_tripCar_5 : decode rX6_tripCar.2.1 5 = .ok (.aload_n 0, 1) := by decide +kernel
theorem eX6_tripCar_6 : decode rX6_tripCar.2.1 6 = .ok (.getfield 12, 3) := by decide +kernel
theorem eX6_tripCar_9 : decode rX6_tripCar.2.1 9 = .ok (.getfield 262, 3) := by decide +kernel
theorem eX6_tripCar_12 : decode rX6_tripCar.2.1 12 = .ok (.getfield 275, 3) := by decide +kernel
theorem eX6_tripCar_15 : decode rX6_tripCar.2.1 15 = .ok (.aload_n 0, 1) := by decide +kernel
theorem eX6_tripCar_16 : decode rX6_tripCar.2.1 16 = .ok (.getfield 12, 3) := by decide +kernel
theorem eX6_tripCar_19 : decode rX6_tripCar.2.1 19 = .ok (.getfield 262, 3) := by decide +kernel
theorem eX6_tripCar_22 : decode rX6_tripCar.2.1 22 = .ok (.iload_n 1, 1) := by decide +kernel
theorem eX6_tripCar_23 : decode rX6_tripCar.2.1 23 = .ok (.invokevirtual 272, 3) := by decide +kernel
theorem eX6_tripCar_26 : decode rX6_tripCar.2.1 26 = .ok (.iaload, 1) := by decide +kernel
theorem eX6_tripCar_27 : decode rX6_tripCar.2.1 27 = .ok (.ireturn, 1) := by decide +kernel
theorem eX6_tripWaiting_0 : decode rX6_tripWaiting.2.1 0 = .ok (.aload_n 0, 1) := by decide +kernel
theorem eX6_tripWaiting_1 : decode rX6_tripWaiting.2.1 1 = .ok (.iload_n 1, 1) := by decide +kernel
theorem eX6_tripWaiting_2 : decode rX6_tripWaiting.2.1 2 = .ok (.invokevirtual 259, 3) := by decide +kernel
theorem eX6_tripWaiting_5 : decode rX6_tripWaiting.2.1 5 = .ok (.aload_n 0, 1) := by decide +kernel
theorem eX6_tripWaiting_6 : decode rX6_tripWaiting.2.1 6 = .ok (.getfield 12, 3) := by decide +kernel
theorem eX6_tripWaiting_9 : decode rX6_tripWaiting.2.1 9 = .ok (.getfield 262, 3) := by decide +kernel
theorem eX6_tripWaiting_12 : decode rX6_tripWaiting.2.1 12 = .ok (.getfield 277, 3) := by decide +kernel
theorem eX6_tripWaiting_15 : decode rX6_tripWaiting.2.1 15 = .ok (.aload_n 0, 1) := by decide +kernel
theorem eX6_tripWaiting_16 : decode rX6_tripWaiting.2.1 16 = .ok (.getfield 12, 3) := by decide +kernel
theorem eX6_tripWaiting_19 : decode rX6_tripWaiting.2.1 19 = .ok (.getfield 262, 3) := by decide +kernel
theorem eX6_tripWaiting_22 : decode rX6_tripWaiting.2.1 22 = .ok (.iload_n 1, 1) := by decide +kernel
theorem eX6_tripWaiting_23 : decode rX6_tripWaiting.2.1 23 = .ok (.invokevirtual 272, 3) := by decide +kernel
theorem eX6_tripWaiting_26 : decode rX6_tripWaiting.2.1 26 = .ok (.iaload, 1) := by decide +kernel
theorem eX6_tripWaiting_27 : decode rX6_tripWaiting.2.1 27 = .ok (.ireturn, 1) := by decide +kernel
theorem eX6_tripCount_0 : decode rX6_tripCount.2.1 0 = .ok (.aload_n 0, 1) := by decide +kernel
theorem eX6_tripCount_1 : decode rX6_tripCount.2.1 1 = .ok (.getfield 12, 3) := by decide +kernel
theorem eX6_tripCount_4 : decode rX6_tripCount.2.1 4 = .ok (.getfield 262, 3) := by decide +kernel
theorem eX6_tripCount_7 : decode rX6_tripCount.2.1 7 = .ok (.getfield 280, 3) := by decide +kernel
theorem eX6_tripCount_10 : decode rX6_tripCount.2.1 10 = .ok (.ireturn, 1) := by decide +kernel
theorem eX6_totalEnergy_0 : decode rX6_totalEnergy.2.1 0 = .ok (.aload_n 0, 1) := by decide +kernel
theorem eX6_totalEnergy_1 : decode rX6_totalEnergy.2.1 1 = .ok (.getfield 12, 3) := by decide +kernel
theorem eX6_totalEnergy_4 : decode rX6_totalEnergy.2.1 4 = .ok (.invokevirtual 283, 3) := by decide +kernel
theorem eX6_totalEnergy_7 : decode rX6_totalEnergy.2.1 7 = .ok (.lreturn, 1) := by decide +kernel
theorem eX6_totalEnergyByMoves_0 : decode rX6_totalEnergyByMoves.2.1 0 = .ok (.aload_n 0, 1) := by decide +kernel
theorem eX6_totalEnergyByMoves_1 : decode rX6_totalEnergyByMoves.2.1 1 = .ok (.getfield 12, 3) := by decide +kernel
theorem eX6_totalEnergyByMoves_4 : decode rX6_totalEnergyByMoves.2.1 4 = .ok (.invokevirtual 287, 3) := by decide +kernel
theorem eX6_totalEnergyByMoves_7 : decode rX6_totalEnergyByMoves.2.1 7 = .ok (.lreturn, 1) := by decide +kernel
theorem eX6_floorsUp_0 : decode rX6_floorsUp.2.1 0 = .ok (.aload_n 0, 1) := by decide +kernel
theorem eX6_floorsUp_1 : decode rX6_floorsUp.2.1 1 = .ok (.getfield 12, 3) := by decide +kernel
theorem eX6_floorsUp_4 : decode rX6_floorsUp.2.1 4 = .ok (.getfield 290, 3) := by decide +kernel
theorem eX6_floorsUp_7 : decode rX6_floorsUp.2.1 7 = .ok (.ireturn, 1) := by decide +kernel
theorem eX6_floorsDown_0 : decode rX6_floorsDown.2.1 0 = .ok (.aload_n 0, 1) := by decide +kernel
theorem eX6_floorsDown_1 : decode rX6_floorsDown.2.1 1 = .ok (.getfield 12, 3) := by decide +kernel
theorem eX6_floorsDown_4 : decode rX6_floorsDown.2.1 4 = .ok (.getfield 293, 3) := by decide +kernel
theorem eX6_floorsDown_7 : decode rX6_floorsDown.2.1 7 = .ok (.ireturn, 1) := by decide +kernel
theorem eX6_doorOpenings_0 : decode rX6_doorOpenings.2.1 0 = .ok (.aload_n 0, 1) := by decide +kernel
theorem eX6_doorOpenings_1 : decode rX6_doorOpenings.2.1 1 = .ok (.getfield 12, 3) := by decide +kernel
theorem eX6_doorOpenings_4 : decode rX6_doorOpenings.2.1 4 = .ok (.getfield 296, 3) := by decide +kernel
theorem eX6_doorOpenings_7 : decode rX6_doorOpenings.2.1 7 = .ok (.ireturn, 1) := by decide +kernel
theorem eX6_meanWaiting_0 : decode rX6_meanWaiting.2.1 0 = .ok (.aload_n 0, 1) := by decide +kernel
theorem eX6_meanWaiting_1 : decode rX6_meanWaiting.2.1 1 = .ok (.getfield 12, 3) := by decide +kernel
theorem eX6_meanWaiting_4 : decode rX6_meanWaiting.2.1 4 = .ok (.getfield 262, 3) := by decide +kernel
theorem eX6_meanWaiting_7 : decode rX6_meanWaiting.2.1 7 = .ok (.getfield 280, 3) := by decide +kernel
theorem eX6_meanWaiting_10 : decode rX6_meanWaiting.2.1 10 = .ok (.ifCond .ne 14, 3) := by decide +kernel
theorem eX6_meanWaiting_13 : decode rX6_meanWaiting.2.1 13 = .ok (.new 299, 3) := by decide +kernel
theorem eX6_meanWaiting_16 : decode rX6_meanWaiting.2.1 16 = .ok (.dup, 1) := by decide +kernel
theorem eX6_meanWaiting_17 : decode rX6_meanWaiting.2.1 17 = .ok (.ldc_w 301, 3) := by decide +kernel
theorem eX6_meanWaiting_20 : decode rX6_meanWaiting.2.1 20 = .ok (.invokespecial 303, 3) := by decide +kernel
theorem eX6_meanWaiting_23 : decode rX6_meanWaiting.2.1 23 = .ok (.athrow, 1) := by decide +kernel
theorem eX6_meanWaiting_24 : decode rX6_meanWaiting.2.1 24 = .ok (.aload_n 0, 1) := by decide +kernel
theorem eX6_meanWaiting_25 : decode rX6_meanWaiting.2.1 25 = .ok (.getfield 12, 3) := by decide +kernel
theorem eX6_meanWaiting_28 : decode rX6_meanWaiting.2.1 28 = .ok (.getfield 262, 3) := by decide +kernel
theorem eX6_meanWaiting_31 : decode rX6_meanWaiting.2.1 31 = .ok (.getfield 304, 3) := by decide +kernel
theorem eX6_meanWaiting_34 : decode rX6_meanWaiting.2.1 34 = .ok (.i2d, 1) := by decide +kernel
theorem eX6_meanWaiting_35 : decode rX6_meanWaiting.2.1 35 = .ok (.aload_n 0, 1) := by decide +kernel
theorem eX6_meanWaiting_36 : decode rX6_meanWaiting.2.1 36 = .ok (.getfield 12, 3) := by decide +kernel
theorem eX6_meanWaiting_39 : decode rX6_meanWaiting.2.1 39 = .ok (.getfield 262, 3) := by decide +kernel
theorem eX6_meanWaiting_42 : decode rX6_meanWaiting.2.1 42 = .ok (.getfield 280, 3) := by decide +kernel
theorem eX6_meanWaiting_45 : decode rX6_meanWaiting.2.1 45 = .ok (.i2d, 1) := by decide +kernel
theorem eX6_meanWaiting_46 : decode rX6_meanWaiting.2.1 46 = .ok (.ddiv, 1) := by decide +kernel
theorem eX6_meanWaiting_47 : decode rX6_meanWaiting.2.1 47 = .ok (.dreturn, 1) := by decide +kernel
theorem eX6_loadShare_0 : decode rX6_loadShare.2.1 0 = .ok (.iload_n 1, 1) := by decide +kernel
theorem eX6_loadShare_1 : decode rX6_loadShare.2.1 1 = .ok (.invokestatic 110, 3) := by decide +kernel
theorem eX6_loadShare_4 : decode rX6_loadShare.2.1 4 = .ok (.aload_n 0, 1) := by decide +kernel
theorem eX6_loadShare_5 : decode rX6_loadShare.2.1 5 = .ok (.getfield 12, 3) := by decide +kernel
theorem eX6_loadShare_8 : decode rX6_loadShare.2.1 8 = .ok (.getfield 113, 3) := by decide +kernel
theorem eX6_loadShare_11 : decode rX6_loadShare.2.1 11 = .ok (.iload_n 1, 1) := by decide +kernel
theorem eX6_loadShare_12 : decode rX6_loadShare.2.1 12 = .ok (.aaload, 1) := by decide +kernel
theorem eX6_loadShare_13 : decode rX6_loadShare.2.1 13 = .ok (.getfield 128, 3) := by decide +kernel
theorem eX6_loadShare_16 : decode rX6_loadShare.2.1 16 = .ok (.i2f, 1) := by decide +kernel
theorem eX6_loadShare_17 : decode rX6_loadShare.2.1 17 = .ok (.aload_n 0, 1) := by decide +kernel
theorem eX6_loadShare_18 : decode rX6_loadShare.2.1 18 = .ok (.getfield 12, 3) := by decide +kernel
theorem eX6_loadShare_21 : decode rX6_loadShare.2.1 21 = .ok (.getfield 113, 3) := by decide +kernel
theorem eX6_loadShare_24 : decode rX6_loadShare.2.1 24 = .ok (.iload_n 1, 1) := by decide +kernel
theorem eX6_loadShare_25 : decode rX6_loadShare.2.1 25 = .ok (.aaload, 1) := by decide +kernel
theorem eX6_loadShare_26 : decode rX6_loadShare.2.1 26 = .ok (.getfield 125, 3) := by decide +kernel
theorem eX6_loadShare_29 : decode rX6_loadShare.2.1 29 = .ok (.i2f, 1) := by decide +kernel
theorem eX6_loadShare_30 : decode rX6_loadShare.2.1 30 = .ok (.fdiv, 1) := by decide +kernel
theorem eX6_loadShare_31 : decode rX6_loadShare.2.1 31 = .ok (.freturn, 1) := by decide +kernel
theorem eX6_isConsistent_0 : decode rX6_isConsistent.2.1 0 = .ok (.aload_n 0, 1) := by decide +kernel
theorem eX6_isConsistent_1 : decode rX6_isConsistent.2.1 1 = .ok (.getfield 12, 3) := by decide +kernel
theorem eX6_isConsistent_4 : decode rX6_isConsistent.2.1 4 = .ok (.invokevirtual 307, 3) := by decide +kernel
theorem eX6_isConsistent_7 : decode rX6_isConsistent.2.1 7 = .ok (.ifCond .eq 45, 3) := by decide +kernel
theorem eX6_isConsistent_10 : decode rX6_isConsistent.2.1 10 = .ok (.aload_n 0, 1) := by decide +kernel
theorem eX6_isConsistent_11 : decode rX6_isConsistent.2.1 11 = .ok (.getfield 12, 3) := by decide +kernel
theorem eX6_isConsistent_14 : decode rX6_isConsistent.2.1 14 = .ok (.invokevirtual 283, 3) := by decide +kernel
theorem eX6_isConsistent_17 : decode rX6_isConsistent.2.1 17 = .ok (.aload_n 0, 1) := by decide +kernel
theorem eX6_isConsistent_18 : decode rX6_isConsistent.2.1 18 = .ok (.getfield 12, 3) := by decide +kernel
theorem eX6_isConsistent_21 : decode rX6_isConsistent.2.1 21 = .ok (.invokevirtual 287, 3) := by decide +kernel
theorem eX6_isConsistent_24 : decode rX6_isConsistent.2.1 24 = .ok (.lcmp, 1) := by decide +kernel
theorem eX6_isConsistent_25 : decode rX6_isConsistent.2.1 25 = .ok (.ifCond .ne 27, 3) := by decide +kernel
theorem eX6_isConsistent_28 : decode rX6_isConsistent.2.1 28 = .ok (.aload_n 0, 1) := by decide +kernel
theorem eX6_isConsistent_29 : decode rX6_isConsistent.2.1 29 = .ok (.getfield 12, 3) := by decide +kernel
theorem eX6_isConsistent_32 : decode rX6_isConsistent.2.1 32 = .ok (.invokevirtual 311, 3) := by decide +kernel
theorem eX6_isConsistent_35 : decode rX6_isConsistent.2.1 35 = .ok (.ifCond .eq 17, 3) := by decide +kernel
theorem eX6_isConsistent_38 : decode rX6_isConsistent.2.1 38 = .ok (.aload_n 0, 1) := by decide +kernel
theorem eX6_isConsistent_39 : decode rX6_isConsistent.2.1 39 = .ok (.getfield 12, 3) := by decide +kernel
theorem eX6_isConsistent_42 : decode rX6_isConsistent.2.1 42 = .ok (.invokevirtual 314, 3) := by decide +kernel
theorem eX6_isConsistent_45 : decode rX6_isConsistent.2.1 45 = .ok (.ifCond .eq 7, 3) := by decide +kernel
theorem eX6_isConsistent_48 : decode rX6_isConsistent.2.1 48 = .ok (.iconst 1, 1) := by decide +kernel
theorem eX6_isConsistent_49 : decode rX6_isConsistent.2.1 49 = .ok (.goto 4, 3) := by decide +kernel
theorem eX6_isConsistent_52 : decode rX6_isConsistent.2.1 52 = .ok (.iconst 0, 1) := by decide +kernel
theorem eX6_isConsistent_53 : decode rX6_isConsistent.2.1 53 = .ok (.ireturn, 1) := by decide +kernel
theorem eX6_renderCar_0 : decode rX6_renderCar.2.1 0 = .ok (.iload_n 1, 1) := by decide +kernel
theorem eX6_renderCar_1 : decode rX6_renderCar.2.1 1 = .ok (.invokestatic 110, 3) := by decide +kernel
theorem eX6_renderCar_4 : decode rX6_renderCar.2.1 4 = .ok (.aload_n 0, 1) := by decide +kernel
theorem eX6_renderCar_5 : decode rX6_renderCar.2.1 5 = .ok (.getfield 12, 3) := by decide +kernel
theorem eX6_renderCar_8 : decode rX6_renderCar.2.1 8 = .ok (.getfield 113, 3) := by decide +kernel
theorem eX6_renderCar_11 : decode rX6_renderCar.2.1 11 = .ok (.iload_n 1, 1) := by decide +kernel
theorem eX6_renderCar_12 : decode rX6_renderCar.2.1 12 = .ok (.aaload, 1) := by decide +kernel
theorem eX6_renderCar_13 : decode rX6_renderCar.2.1 13 = .ok (.astore_n 2, 1) := by decide +kernel
theorem eX6_renderCar_14 : decode rX6_renderCar.2.1 14 = .ok (.aload_n 0, 1) := by decide +kernel
theorem eX6_renderCar_15 : decode rX6_renderCar.2.1 15 = .ok (.getfield 39, 3) := by decide +kernel
theorem eX6_renderCar_18 : decode rX6_renderCar.2.1 18 = .ok (.iconst 0, 1) := by decide +kernel
theorem eX6_renderCar_19 : decode rX6_renderCar.2.1 19 = .ok (.invokevirtual 317, 3) := by decide +kernel
theorem eX6_renderCar_22 : decode rX6_renderCar.2.1 22 = .ok (.aload_n 0, 1) := by decide +kernel
theorem eX6_renderCar_23 : decode rX6_renderCar.2.1 23 = .ok (.getfield 39, 3) := by decide +kernel
theorem eX6_renderCar_26 : decode rX6_renderCar.2.1 26 = .ok (.iload_n 1, 1) := by decide +kernel
theorem eX6_renderCar_27 : decode rX6_renderCar.2.1 27 = .ok (.invokevirtual 320, 3) := by decide +kernel
theorem eX6_renderCar_30 : decode rX6_renderCar.2.1 30 = .ok (.bipush 64, 2) := by decide +kernel
theorem eX6_renderCar_32 : decode rX6_renderCar.2.1 32 = .ok (.invokevirtual 324, 3) := by decide +kernel
theorem eX6_renderCar_35 : decode rX6_renderCar.2.1 35 = .ok (.aload_n 2, 1) := by decide +kernel
theorem eX6_renderCar_36 : decode rX6_renderCar.2.1 36 = .ok (.getfield 117, 3) := by decide +kernel
theorem eX6_renderCar_39 : decode rX6_renderCar.2.1 39 = .ok (.invokevirtual 320, 3) := by decide +kernel
theorem eX6_renderCar_42 : decode rX6_renderCar.2.1 42 = .ok (.pop, 1) := by decide +kernel
theorem eX6_renderCar_43 : decode rX6_renderCar.2.1 43 = .ok (.aload_n 0, 1) := by decide +kernel
theorem eX6_renderCar_44 : decode rX6_renderCar.2.1 44 = .ok (.getfield 39, 3) := by decide +kernel
theorem eX6_renderCar_47 : decode rX6_renderCar.2.1 47 = .ok (.aload_n 2, 1) := by decide +kernel
theorem eX6_renderCar_48 : decode rX6_renderCar.2.1 48 = .ok (.getfield 122, 3) := by decide +kernel
theorem eX6_renderCar_51 : decode rX6_renderCar.2.1 51 = .ok (.iconst 1, 1) := by decide +kernel
theorem eX6_renderCar_52 : decode rX6_renderCar.2.1 52 = .ok (.if_icmp .ne 8, 3) := by decide +kernel
theorem eX6_renderCar_55 : decode rX6_renderCar.2.1 55 = .ok (.bipush 94, 2) := by decide +kernel
theorem eX6_renderCar_57 : decode rX6_renderCar.2.1 57 = .ok (.goto 18, 3) := by decide +kernel
theorem eX6_renderCar_60 : decode rX6_renderCar.2.1 60 = .ok (.aload_n 2, 1) := by decide +kernel
theorem eX6_renderCar_61 : decode rX6_renderCar.2.1 61 = .ok (.getfield 122, 3) := by decide +kernel
theorem eX6_renderCar_64 : decode rX6_renderCar.2.1 64 = .ok (.iconst (-1), 1) := by decide +kernel
theorem eX6_renderCar_65 : decode rX6_renderCar.2.1 65 = .ok (.if_icmp .ne 8, 3) := by decide +kernel
theorem eX6_renderCar_68 : decode rX6_renderCar.2.1 68 = .ok (.bipush 118, 2) := by decide +kernel
theorem eX6_renderCar_70 : decode rX6_renderCar.2.1 70 = .ok (.goto 5, 3) := by decide +kernel
theorem eX6_renderCar_73 : decode rX6_renderCar.2.1 73 = .ok (.bipush 45, 2) := by decide +kernel
theorem eX6_renderCar_75 : decode rX6_renderCar.2.1 75 = .ok (.invokevirtual 324, 3) := by decide +kernel
theorem eX6_renderCar_78 : decode rX6_renderCar.2.1 78 = .ok (.pop, 1) := by decide +kernel
theorem eX6_renderCar_79 : decode rX6_renderCar.2.1 79 = .ok (.aload_n 0, 1) := by decide +kernel
theorem eX6_renderCar_80 : decode rX6_renderCar.2.1 80 = .ok (.getfield 39, 3) := by decide +kernel
theorem eX6_renderCar_83 : decode rX6_renderCar.2.1 83 = .ok (.aload_n 2, 1) := by decide +kernel
theorem eX6_renderCar_84 : decode rX6_renderCar.2.1 84 = .ok (.getfield 131, 3) := by decide +kernel
theorem eX6_renderCar_87 : decode rX6_renderCar.2.1 87 = .ok (.invokevirtual 320, 3) := by decide +kernel
theorem eX6_renderCar_90 : decode rX6_renderCar.2.1 90 = .ok (.bipush 47, 2) := by decide +kernel
theorem eX6_renderCar_92 : decode rX6_renderCar.2.1 92 = .ok (.invokevirtual 324, 3) := by decide +kernel
theorem eX6_renderCar_95 : decode rX6_renderCar.2.1 95 = .ok (.aload_n 2, 1) := by decide +kernel
theorem eX6_renderCar_96 : decode rX6_renderCar.2.1 96 = .ok (.getfield 128, 3) := by decide +kernel
theorem eX6_renderCar_99 : decode rX6_renderCar.2.1 99 = .ok (.invokevirtual 320, 3) := by decide +kernel
theorem eX6_renderCar_102 : decode rX6_renderCar.2.1 102 = .ok (.pop, 1) := by decide +kernel
theorem eX6_renderCar_103 : decode rX6_renderCar.2.1 103 = .ok (.aload_n 0, 1) := by decide +kernel
theorem eX6_renderCar_104 : decode rX6_renderCar.2.1 104 = .ok (.getfield 39, 3) := by decide +kernel
theorem eX6_renderCar_107 : decode rX6_renderCar.2.1 107 = .ok (.aload_n 2, 1) := by decide +kernel
theorem eX6_renderCar_108 : decode rX6_renderCar.2.1 108 = .ok (.getfield 137, 3) := by decide +kernel
theorem eX6_renderCar_111 : decode rX6_renderCar.2.1 111 = .ok (.ifCond .le 8, 3) := by decide +kernel
theorem eX6_renderCar_114 : decode rX6_renderCar.2.1 114 = .ok (.bipush 111, 2) := by decide +kernel
theorem eX6_renderCar_116 : decode rX6_renderCar.2.1 116 = .ok (.goto 5, 3) := by decide +kernel
theorem eX6_renderCar_119 : decode rX6_renderCar.2.1 119 = .ok (.bipush 124, 2) := by decide +kernel
theorem eX6_renderCar_121 : decode rX6_renderCar.2.1 121 = .ok (.invokevirtual 324, 3) := by decide +kernel
theorem eX6_renderCar_124 : decode rX6_renderCar.2.1 124 = .ok (.pop, 1) := by decide +kernel
theorem eX6_renderCar_125 : decode rX6_renderCar.2.1 125 = .ok (.aload_n 2, 1) := by decide +kernel
theorem eX6_renderCar_126 : decode rX6_renderCar.2.1 126 = .ok (.getfield 140, 3) := by decide +kernel
theorem eX6_renderCar_129 : decode rX6_renderCar.2.1 129 = .ok (.ifCond .ne 13, 3) := by decide +kernel
theorem eX6_renderCar_132 : decode rX6_renderCar.2.1 132 = .ok (.aload_n 0, 1) := by decide +kernel
theorem eX6_renderCar_133 : decode rX6_renderCar.2.1 133 = .ok (.getfield 39, 3) := by decide +kernel
theorem eX6_renderCar_136 : decode rX6_renderCar.2.1 136 = .ok (.bipush 120, 2) := by decide +kernel
theorem eX6_renderCar_138 : decode rX6_renderCar.2.1 138 = .ok (.invokevirtual 324, 3) := by decide +kernel
theorem eX6_renderCar_141 : decode rX6_renderCar.2.1 141 = .ok (.pop, 1) := by decide +kernel
theorem eX6_renderCar_142 : decode rX6_renderCar.2.1 142 = .ok (.aload_n 0, 1) := by decide +kernel
theorem eX6_renderCar_143 : decode rX6_renderCar.2.1 143 = .ok (.getfield 39, 3) := by decide +kernel
theorem eX6_renderCar_146 : decode rX6_renderCar.2.1 146 = .ok (.invokevirtual 327, 3) := by decide +kernel
theorem eX6_renderCar_149 : decode rX6_renderCar.2.1 149 = .ok (.ireturn, 1) := by decide +kernel
theorem eX6_renderFloors_0 : decode rX6_renderFloors.2.1 0 = .ok (.aload_n 0, 1) := by decide +kernel
theorem eX6_renderFloors_1 : decode rX6_renderFloors.2.1 1 = .ok (.getfield 39, 3) := by decide +kernel
theorem eX6_renderFloors_4 : decode rX6_renderFloors.2.1 4 = .ok (.iconst 0, 1) := by decide +kernel
theorem eX6_renderFloors_5 : decode rX6_renderFloors.2.1 5 = .ok (.invokevirtual 317, 3) := by decide +kernel
theorem eX6_renderFloors_8 : decode rX6_renderFloors.2.1 8 = .ok (.iconst 0, 1) := by decide +kernel
theorem eX6_renderFloors_9 : decode rX6_renderFloors.2.1 9 = .ok (.istore_n 1, 1) := by decide +kernel
theorem eX6_renderFloors_10 : decode rX6_renderFloors.2.1 10 = .ok (.iload_n 1, 1) := by decide +kernel
theorem eX6_renderFloors_11 : decode rX6_renderFloors.2.1 11 = .ok (.bipush 10, 2) := by decide +kernel
theorem eX6_renderFloors_13 : decode rX6_renderFloors.2.1 13 = .ok (.if_icmp .ge 39, 3) := by decide +kernel
theorem eX6_renderFloors_16 : decode rX6_renderFloors.2.1 16 = .ok (.iload_n 1, 1) := by decide +kernel
theorem eX6_renderFloors_17 : decode rX6_renderFloors.2.1 17 = .ok (.ifCond .le 13, 3) := by decide +kernel
theorem eX6_renderFloors_20 : decode rX6_renderFloors.2.1 20 = .ok (.aload_n 0, 1) := by decide +kernel
theorem eX6_renderFloors_21 : decode rX6_renderFloors.2.1 21 = .ok (.getfield 39, 3) := by decide +kernel
theorem eX6_renderFloors_24 : decode rX6_renderFloors.2.1 24 = .ok (.bipush 44, 2) := by decide +kernel
theorem eX6_renderFloors_26 : decode rX6_renderFloors.2.1 26 = .ok (.invokevirtual 324, 3) := by decide +kernel
theorem eX6_renderFloors_29 : decode rX6_renderFloors.2.1 29 = .ok (.pop, 1) := by decide +kernel
theorem eX6_renderFloors_30 : decode rX6_renderFloors.2.1 30 = .ok (.aload_n 0, 1) := by decide +kernel
theorem eX6_renderFloors_31 : decode rX6_renderFloors.2.1 31 = .ok (.getfield 39, 3) := by decide +kernel
theorem eX6_renderFloors_34 : decode rX6_renderFloors.2.1 34 = .ok (.aload_n 0, 1) := by decide +kernel
theorem eX6_renderFloors_35 : decode rX6_renderFloors.2.1 35 = .ok (.getfield 12, 3) := by decide +kernel
theorem eX6_renderFloors_38 : decode rX6_renderFloors.2.1 38 = .ok (.iload_n 1, 1) := by decide +kernel
theorem eX6_renderFloors_39 : decode rX6_renderFloors.2.1 39 = .ok (.invokevirtual 210, 3) := by decide +kernel
theorem eX6_renderFloors_42 : decode rX6_renderFloors.2.1 42 = .ok (.invokevirtual 320, 3) := by decide +kernel
theorem eX6_renderFloors_45 : decode rX6_renderFloors.2.1 45 = .ok (.pop, 1) := by decide +kernel
theorem eX6_renderFloors_46 : decode rX6_renderFloors.2.1 46 = .ok (.iinc 1 1, 3) := by decide +kernel
theorem eX6_renderFloors_49 : decode rX6_renderFloors.2.1 49 = .ok (.goto (-39), 3) := by decide +kernel
theorem eX6_renderFloors_52 : decode rX6_renderFloors.2.1 52 = .ok (.aload_n 0, 1) := by decide +kernel
theorem eX6_renderFloors_53 : decode rX6_renderFloors.2.1 53 = .ok (.getfield 39, 3) := by decide +kernel
theorem eX6_renderFloors_56 : decode rX6_renderFloors.2.1 56 = .ok (.invokevirtual 327, 3) := by decide +kernel
theorem eX6_renderFloors_59 : decode rX6_renderFloors.2.1 59 = .ok (.ireturn, 1) := by decide +kernel
theorem eX6_outputAt_0 : decode rX6_outputAt.2.1 0 = .ok (.iload_n 1, 1) := by decide +kernel
theorem eX6_outputAt_1 : decode rX6_outputAt.2.1 1 = .ok (.ifCond .lt 14, 3) := by decide +kernel
theorem eX6_outputAt_4 : decode rX6_outputAt.2.1 4 = .ok (.iload_n 1, 1) := by decide +kernel
theorem eX6_outputAt_5 : decode rX6_outputAt.2.1 5 = .ok (.aload_n 0, 1) := by decide +kernel
theorem eX6_outputAt_6 : decode rX6_outputAt.2.1 6 = .ok (.getfield 39, 3) := by decide +kernel
theorem eX6_outputAt_9 : decode rX6_outputAt.2.1 9 = .ok (.invokevirtual 327, 3) := by decide +kernel
theorem eX6_outputAt_12 : decode rX6_outputAt.2.1 12 = .ok (.if_icmp .lt 14, 3) := by decide +kernel
theorem eX6_outputAt_15 : decode rX6_outputAt.2.1 15 = .ok (.new 331, 3) := by decide +kernel
theorem eX6_outputAt_18 : decode rX6_outputAt.2.1 18 = .ok (.dup, 1) := by decide +kernel
theorem eX6_outputAt_19 : decode rX6_outputAt.2.1 19 = .ok (.ldc_w 333, 3) := by decide +kernel
theorem eX6_outputAt_22 : decode rX6_outputAt.2.1 22 = .ok (.invokespecial 335, 3) := by decide +kernel
theorem eX6_outputAt_25 : decode rX6_outputAt.2.1 25 = .ok (.athrow, 1) := by decide +kernel
theorem eX6_outputAt_26 : decode rX6_outputAt.2.1 26 = .ok (.aload_n 0, 1) := by decide +kernel
theorem eX6_outputAt_27 : decode rX6_outputAt.2.1 27 = .ok (.getfield 39, 3) := by decide +kernel
theorem eX6_outputAt_30 : decode rX6_outputAt.2.1 30 = .ok (.iload_n 1, 1) := by decide +kernel
theorem eX6_outputAt_31 : decode rX6_outputAt.2.1 31 = .ok (.invokevirtual 336, 3) := by decide +kernel
theorem eX6_outputAt_34 : decode rX6_outputAt.2.1 34 = .ok (.ireturn, 1) := by decide +kernel
theorem eX6_type_0 : decode rX6_type.2.1 0 = .ok (.iload_n 1, 1) := by decide +kernel
theorem eX6_type_1 : decode rX6_type.2.1 1 = .ok (.bipush 32, 2) := by decide +kernel
theorem eX6_type_3 : decode rX6_type.2.1 3 = .ok (.if_icmp .lt 9, 3) := by decide +kernel
theorem eX6_type_6 : decode rX6_type.2.1 6 = .ok (.iload_n 1, 1) := by decide +kernel
theorem eX6_type_7 : decode rX6_type.2.1 7 = .ok (.bipush 126, 2) := by decide +kernel
theorem eX6_type_9 : decode rX6_type.2.1 9 = .ok (.if_icmp .le 14, 3) := by decide +kernel
theorem eX6_type_12 : decode rX6_type.2.1 12 = .ok (.new 223, 3) := by decide +kernel
theorem eX6_type_15 : decode rX6_type.2.1 15 = .ok (.dup, 1) := by decide +kernel
theorem eX6_type_16 : decode rX6_type.2.1 16 = .ok (.ldc_w 340, 3) := by decide +kernel
theorem eX6_type_19 : decode rX6_type.2.1 19 = .ok (.invokespecial 227, 3) := by decide +kernel
theorem eX6_type_22 : decode rX6_type.2.1 22 = .ok (.athrow, 1) := by decide +kernel
theorem eX6_type_23 : decode rX6_type.2.1 23 = .ok (.aload_n 0, 1) := by decide +kernel
theorem eX6_type_24 : decode rX6_type.2.1 24 = .ok (.getfield 32, 3) := by decide +kernel
theorem eX6_type_27 : decode rX6_type.2.1 27 = .ok (.getfield 342, 3) := by decide +kernel
theorem eX6_type_30 : decode rX6_type.2.1 30 = .ok (.invokevirtual 327, 3) := by decide +kernel
theorem eX6_type_33 : decode rX6_type.2.1 33 = .ok (.bipush 60, 2) := by decide +kernel
theorem eX6_type_35 : decode rX6_type.2.1 35 = .ok (.if_icmp .lt 14, 3) := by decide +kernel
theorem eX6_type_38 : decode rX6_type.2.1 38 = .ok (.new 345, 3) := by decide +kernel
theorem eX6_type_41 : decode rX6_type.2.1 41 = .ok (.dup, 1) := by decide +kernel
theorem eX6_type_42 : decode rX6_type.2.1 42 = .ok (.ldc_w 347, 3) := by decide +kernel
theorem eX6_type_45 : decode rX6_type.2.1 45 = .ok (.invokespecial 349, 3) := by decide +kernel
theorem eX6_type_48 : decode rX6_type.2.1 48 = .ok (.athrow, 1) := by decide +kernel
theorem eX6_type_49 : decode rX6_type.2.1 49 = .ok (.aload_n 0, 1) := by decide +kernel
theorem eX6_type_50 : decode rX6_type.2.1 50 = .ok (.getfield 32, 3) := by decide +kernel
theorem eX6_type_53 : decode rX6_type.2.1 53 = .ok (.getfield 342, 3) := by decide +kernel
theorem eX6_type_56 : decode rX6_type.2.1 56 = .ok (.iload_n 1, 1) := by decide +kernel
theorem eX6_type_57 : decode rX6_type.2.1 57 = .ok (.invokevirtual 324, 3) := by decide +kernel
theorem eX6_type_60 : decode rX6_type.2.1 60 = .ok (.pop, 1) := by decide +kernel
theorem eX6_type_61 : decode rX6_type.2.1 61 = .ok (.aload_n 0, 1) := by decide +kernel
theorem eX6_type_62 : decode rX6_type.2.1 62 = .ok (.getfield 32, 3) := by decide +kernel
theorem eX6_type_65 : decode rX6_type.2.1 65 = .ok (.getfield 342, 3) := by decide +kernel
theorem eX6_type_68 : decode rX6_type.2.1 68 = .ok (.invokevirtual 327, 3) := by decide +kernel
theorem eX6_type_71 : decode rX6_type.2.1 71 = .ok (.ireturn, 1) := by decide +kernel
theorem eX6_runScript_0 : decode rX6_runScript.2.1 0 = .ok (.aload_n 0, 1) := by decide +kernel
theorem eX6_runScript_1 : decode rX6_runScript.2.1 1 = .ok (.getfield 32, 3) := by decide +kernel
theorem eX6_runScript_4 : decode rX6_runScript.2.1 4 = .ok (.invokevirtual 350, 3) := by decide +kernel
theorem eX6_runScript_7 : decode rX6_runScript.2.1 7 = .ok (.istore_n 1, 1) := by decide +kernel
theorem eX6_runScript_8 : decode rX6_runScript.2.1 8 = .ok (.aload_n 0, 1) := by decide +kernel
theorem eX6_runScript_9 : decode rX6_runScript.2.1 9 = .ok (.getfield 32, 3) := by decide +kernel
theorem eX6_runScript_12 : decode rX6_runScript.2.1 12 = .ok (.getfield 342, 3) := by decide +kernel
theorem eX6_runScript_15 : decode rX6_runScript.2.1 15 = .ok (.iconst 0, 1) := by decide +kernel
theorem eX6_runScript_16 : decode rX6_runScript.2.1 16 = .ok (.invokevirtual 317, 3) := by decide +kernel
theorem eX6_runScript_19 : decode rX6_runScript.2.1 19 = .ok (.iload_n 1, 1) := by decide +kernel
theorem eX6_runScript_20 : decode rX6_runScript.2.1 20 = .ok (.iconst (-1), 1) := by decide +kernel
theorem eX6_runScript_21 : decode rX6_runScript.2.1 21 = .ok (.if_icmp .eq 19, 3) := by decide +kernel
theorem eX6_runScript_24 : decode rX6_runScript.2.1 24 = .ok (.aload_n 0, 1) := by decide +kernel
theorem eX6_runScript_25 : decode rX6_runScript.2.1 25 = .ok (.iload_n 1, 1) := by decide +kernel
theorem eX6_runScript_26 : decode rX6_runScript.2.1 26 = .ok (.putfield 47, 3) := by decide +kernel
theorem eX6_runScript_29 : decode rX6_runScript.2.1 29 = .ok (.new 223, 3) := by decide +kernel
theorem eX6_runScript_32 : decode rX6_runScript.2.1 32 = .ok (.dup, 1) := by decide +kernel
theorem eX6_runScript_33 : decode rX6_runScript.2.1 33 = .ok (.ldc_w 353, 3) := by decide +kernel
theorem eX6_runScript_36 : decode rX6_runScript.2.1 36 = .ok (.invokespecial 227, 3) := by decide +kernel
theorem eX6_runScript_39 : decode rX6_runScript.2.1 39 = .ok (.athrow, 1) := by decide +kernel
theorem eX6_runScript_40 : decode rX6_runScript.2.1 40 = .ok (.aload_n 0, 1) := by decide +kernel
theorem eX6_runScript_41 : decode rX6_runScript.2.1 41 = .ok (.getfield 16, 3) := by decide +kernel
theorem eX6_runScript_44 : decode rX6_runScript.2.1 44 = .ok (.aload_n 0, 1) := by decide +kernel
theorem eX6_runScript_45 : decode rX6_runScript.2.1 45 = .ok (.getfield 12, 3) := by decide +kernel
theorem eX6_runScript_48 : decode rX6_runScript.2.1 48 = .ok (.invokevirtual 233, 3) := by decide +kernel
theorem eX6_runScript_51 : decode rX6_runScript.2.1 51 = .ok (.iconst 0, 1) := by decide +kernel
theorem eX6_runScript_52 : decode rX6_runScript.2.1 52 = .ok (.istore_n 2, 1) := by decide +kernel
theorem eX6_runScript_53 : decode rX6_runScript.2.1 53 = .ok (.iload_n 2, 1) := by decide +kernel
theorem eX6_runScript_54 : decode rX6_runScript.2.1 54 = .ok (.aload_n 0, 1) := by decide +kernel
theorem eX6_runScript_55 : decode rX6_runScript.2.1 55 = .ok (.getfield 32, 3) := by decide +kernel
theorem eX6_runScript_58 : decode rX6_runScript.2.1 58 = .ok (.getfield 355, 3) := by decide +kernel
theorem eX6_runScript_61 : decode rX6_runScript.2.1 61 = .ok (.if_icmp .ge 79, 3) := by decide +kernel
theorem eX6_runScript_64 : decode rX6_runScript.2.1 64 = .ok (.aload_n 0, 1) := by decide +kernel
theorem eX6_runScript_65 : decode rX6_runScript.2.1 65 = .ok (.getfield 16, 3) := by decide +kernel
theorem eX6_runScript_68 : decode rX6_runScript.2.1 68 = .ok (.aload_n 0, 1) := by decide +kernel
theorem eX6_runScript_69 : decode rX6_runScript.2.1 69 = .ok (.getfield 32, 3) := by decide +kernel
theorem eX6_runScript_72 : decode rX6_runScript.2.1 72 = .ok (.getfield 358, 3) := by decide +kernel
theorem eX6_runScript_75 : decode rX6_runScript.2.1 75 = .ok (.iload_n 2, 1) := by decide +kernel
theorem eX6_runScript_76 : decode rX6_runScript.2.1 76 = .ok (.iaload, 1) := by decide +kernel
theorem eX6_runScript_77 : decode rX6_runScript.2.1 77 = .ok (.aload_n 0, 1) := by decide +kernel
theorem eX6_runScript_78 : decode rX6_runScript.2.1 78 = .ok (.getfield 32, 3) := by decide +kernel
theorem eX6_runScript_81 : decode rX6_runScript.2.1 81 = .ok (.getfield 361, 3) := by decide +kernel
theorem eX6_runScript_84 : decode rX6_runScript.2.1 84 = .ok (.iload_n 2, 1) := by decide +kernel
theorem eX6_runScript_85 : decode rX6_runScript.2.1 85 = .ok (.aaload, 1) := by decide +kernel
theorem eX6_runScript_86 : decode rX6_runScript.2.1 86 = .ok (.invokevirtual 365, 3) := by decide +kernel
theorem eX6_runScript_89 : decode rX6_runScript.2.1 89 = .ok (.ifCond .eq 19, 3) := by decide +kernel
theorem eX6_runScript_92 : decode rX6_runScript.2.1 92 = .ok (.aload_n 0, 1) := by decide +kernel
theorem eX6_runScript_93 : decode rX6_runScript.2.1 93 = .ok (.iload_n 2, 1) := by decide +kernel
theorem eX6_runScript_94 : decode rX6_runScript.2.1 94 = .ok (.putfield 51, 3) := by decide +kernel
theorem eX6_runScript_97 : decode rX6_runScript.2.1 97 = .ok (.new 345, 3) := by decide +kernel
theorem eX6_runScript_100 : decode rX6_runScript.2.1 100 = .ok (.dup, 1) := by decide +kernel
theorem eX6_runScript_101 : decode rX6_runScript.2.1 101 = .ok (.ldc_w 369, 3) := by decide +kernel
theorem eX6_runScript_104 : decode rX6_runScript.2.1 104 = .ok (.invokespecial 349, 3) := by decide +kernel
theorem eX6_runScript_107 : decode rX6_runScript.2.1 107 = .ok (.athrow, 1) := by decide +kernel
theorem eX6_runScript_108 : decode rX6_runScript.2.1 108 = .ok (.aload_n 0, 1) := by decide +kernel
theorem eX6_runScript_109 : decode rX6_runScript.2.1 109 = .ok (.getfield 16, 3) := by decide +kernel
theorem eX6_runScript_112 : decode rX6_runScript.2.1 112 = .ok (.aload_n 0, 1) := by decide +kernel
theorem eX6_runScript_113 : decode rX6_runScript.2.1 113 = .ok (.getfield 32, 3) := by decide +kernel
theorem eX6_runScript_116 : decode rX6_runScript.2.1 116 = .ok (.getfield 358, 3) := by decide +kernel
theorem eX6_runScript_119 : decode rX6_runScript.2.1 119 = .ok (.iload_n 2, 1) := by decide +kernel
theorem eX6_runScript_120 : decode rX6_runScript.2.1 120 = .ok (.iaload, 1) := by decide +kernel
theorem eX6_runScript_121 : decode rX6_runScript.2.1 121 = .ok (.aload_n 0, 1) := by decide +kernel
theorem eX6_runScript_122 : decode rX6_runScript.2.1 122 = .ok (.getfield 32, 3) := by decide +kernel
theorem eX6_runScript_125 : decode rX6_runScript.2.1 125 = .ok (.getfield 361, 3) := by decide +kernel
theorem eX6_runScript_128 : decode rX6_runScript.2.1 128 = .ok (.iload_n 2, 1) := by decide +kernel
theorem eX6_runScript_129 : decode rX6_runScript.2.1 129 = .ok (.aaload, 1) := by decide +kernel
theorem eX6_runScript_130 : decode rX6_runScript.2.1 130 = .ok (.invokevirtual 371, 3) := by decide +kernel
theorem eX6_runScript_133 : decode rX6_runScript.2.1 133 = .ok (.pop, 1) := by decide +kernel
theorem eX6_runScript_134 : decode rX6_runScript.2.1 134 = .ok (.iinc 2 1, 3) := by decide +kernel
theorem eX6_runScript_137 : decode rX6_runScript.2.1 137 = .ok (.goto (-84), 3) := by decide +kernel
theorem eX6_runScript_140 : decode rX6_runScript.2.1 140 = .ok (.aload_n 0, 1) := by decide +kernel
theorem eX6_runScript_141 : decode rX6_runScript.2.1 141 = .ok (.getfield 25, 3) := by decide +kernel
theorem eX6_runScript_144 : decode rX6_runScript.2.1 144 = .ok (.aload_n 0, 1) := by decide +kernel
theorem eX6_runScript_145 : decode rX6_runScript.2.1 145 = .ok (.getfield 12, 3) := by decide +kernel
theorem eX6_runScript_148 : decode rX6_runScript.2.1 148 = .ok (.invokevirtual 62, 3) := by decide +kernel
theorem eX6_runScript_151 : decode rX6_runScript.2.1 151 = .ok (.aload_n 0, 1) := by decide +kernel
theorem eX6_runScript_152 : decode rX6_runScript.2.1 152 = .ok (.getfield 12, 3) := by decide +kernel
theorem eX6_runScript_155 : decode rX6_runScript.2.1 155 = .ok (.aload_n 0, 1) := by decide +kernel
theorem eX6_runScript_156 : decode rX6_runScript.2.1 156 = .ok (.getfield 16, 3) := by decide +kernel
theorem eX6_runScript_159 : decode rX6_runScript.2.1 159 = .ok (.invokevirtual 233, 3) := by decide +kernel
theorem eX6_runScript_162 : decode rX6_runScript.2.1 162 = .ok (.aload_n 0, 1) := by decide +kernel
theorem eX6_runScript_163 : decode rX6_runScript.2.1 163 = .ok (.getfield 32, 3) := by decide +kernel
theorem eX6_runScript_166 : decode rX6_runScript.2.1 166 = .ok (.getfield 355, 3) := by decide +kernel
theorem eX6_runScript_169 : decode rX6_runScript.2.1 169 = .ok (.ireturn, 1) := by decide +kernel
theorem eX6_errorPosition_0 : decode rX6_errorPosition.2.1 0 = .ok (.aload_n 0, 1) := by decide +kernel
theorem eX6_errorPosition_1 : decode rX6_errorPosition.2.1 1 = .ok (.getfield 47, 3) := by decide +kernel
theorem eX6_errorPosition_4 : decode rX6_errorPosition.2.1 4 = .ok (.iconst (-1), 1) := by decide +kernel
theorem eX6_errorPosition_5 : decode rX6_errorPosition.2.1 5 = .ok (.if_icmp .ne 14, 3) := by decide +kernel
theorem eX6_errorPosition_8 : decode rX6_errorPosition.2.1 8 = .ok (.new 161, 3) := by decide +kernel
theorem eX6_errorPosition_11 : decode rX6_errorPosition.2.1 11 = .ok (.dup, 1) := by decide +kernel
theorem eX6_errorPosition_12 : decode rX6_errorPosition.2.1 12 = .ok (.ldc_w 374, 3) := by decide +kernel
theorem eX6_errorPosition_15 : decode rX6_errorPosition.2.1 15 = .ok (.invokespecial 165, 3) := by decide +kernel
theorem eX6_errorPosition_18 : decode rX6_errorPosition.2.1 18 = .ok (.athrow, 1) := by decide +kernel
theorem eX6_errorPosition_19 : decode rX6_errorPosition.2.1 19 = .ok (.aload_n 0, 1) := by decide +kernel
theorem eX6_errorPosition_20 : decode rX6_errorPosition.2.1 20 = .ok (.getfield 47, 3) := by decide +kernel
theorem eX6_errorPosition_23 : decode rX6_errorPosition.2.1 23 = .ok (.ireturn, 1) := by decide +kernel
theorem eX6_failedCommand_0 : decode rX6_failedCommand.2.1 0 = .ok (.aload_n 0, 1) := by decide +kernel
theorem eX6_failedCommand_1 : decode rX6_failedCommand.2.1 1 = .ok (.getfield 51, 3) := by decide +kernel
theorem eX6_failedCommand_4 : decode rX6_failedCommand.2.1 4 = .ok (.iconst (-1), 1) := by decide +kernel
theorem eX6_failedCommand_5 : decode rX6_failedCommand.2.1 5 = .ok (.if_icmp .ne 14, 3) := by decide +kernel
theorem eX6_failedCommand_8 : decode rX6_failedCommand.2.1 8 = .ok (.new 161, 3) := by decide +kernel
theorem eX6_failedCommand_11 : decode rX6_failedCommand.2.1 11 = .ok (.dup, 1) := by decide +kernel
theorem eX6_failedCommand_12 : decode rX6_failedCommand.2.1 12 = .ok (.ldc_w 376, 3) := by decide +kernel
theorem eX6_failedCommand_15 : decode rX6_failedCommand.2.1 15 = .ok (.invokespecial 165, 3) := by decide +kernel
theorem eX6_failedCommand_18 : decode rX6_failedCommand.2.1 18 = .ok (.athrow, 1) := by decide +kernel
theorem eX6_failedCommand_19 : decode rX6_failedCommand.2.1 19 = .ok (.aload_n 0, 1) := by decide +kernel
theorem eX6_failedCommand_20 : decode rX6_failedCommand.2.1 20 = .ok (.getfield 51, 3) := by decide +kernel
theorem eX6_failedCommand_23 : decode rX6_failedCommand.2.1 23 = .ok (.ireturn, 1) := by decide +kernel
theorem eX6_undo_0 : decode rX6_undo.2.1 0 = .ok (.aload_n 0, 1) := by decide +kernel
theorem eX6_undo_1 : decode rX6_undo.2.1 1 = .ok (.getfield 25, 3) := by decide +kernel
theorem eX6_undo_4 : decode rX6_undo.2.1 4 = .ok (.getfield 378, 3) := by decide +kernel
theorem eX6_undo_7 : decode rX6_undo.2.1 7 = .ok (.ifCond .ne 14, 3) := by decide +kernel
theorem eX6_undo_10 : decode rX6_undo.2.1 10 = .ok (.new 345, 3) := by decide +kernel
theorem eX6_undo_13 : decode rX6_undo.2.1 13 = .ok (.dup, 1) := by decide +kernel
theorem eX6_undo_14 : decode rX6_undo.2.1 14 = .ok (.ldc_w 379, 3) := by decide +kernel
theorem eX6_undo_17 : decode rX6_undo.2.1 17 = .ok (.invokespecial 349, 3) := by decide +kernel
theorem eX6_undo_20 : decode rX6_undo.2.1 20 = .ok (.athrow, 1) := by decide +kernel
theorem eX6_undo_21 : decode rX6_undo.2.1 21 = .ok (.aload_n 0, 1) := by decide +kernel
theorem eX6_undo_22 : decode rX6_undo.2.1 22 = .ok (.getfield 25, 3) := by decide +kernel
theorem eX6_undo_25 : decode rX6_undo.2.1 25 = .ok (.aload_n 0, 1) := by decide +kernel
theorem eX6_undo_26 : decode rX6_undo.2.1 26 = .ok (.getfield 12, 3) := by decide +kernel
theorem eX6_undo_29 : decode rX6_undo.2.1 29 = .ok (.invokevirtual 381, 3) := by decide +kernel
theorem eX6_undo_32 : decode rX6_undo.2.1 32 = .ok (.aload_n 0, 1) := by decide +kernel
theorem eX6_undo_33 : decode rX6_undo.2.1 33 = .ok (.getfield 25, 3) := by decide +kernel
theorem eX6_undo_36 : decode rX6_undo.2.1 36 = .ok (.getfield 378, 3) := by decide +kernel
theorem eX6_undo_39 : decode rX6_undo.2.1 39 = .ok (.ireturn, 1) := by decide +kernel
theorem eX6_save_0 : decode rX6_save.2.1 0 = .ok (.aload_n 0, 1) := by decide +kernel
theorem eX6_save_1 : decode rX6_save.2.1 1 = .ok (.getfield 19, 3) := by decide +kernel
theorem eX6_save_4 : decode rX6_save.2.1 4 = .ok (.aload_n 0, 1) := by decide +kernel
theorem eX6_save_5 : decode rX6_save.2.1 5 = .ok (.getfield 12, 3) := by decide +kernel
theorem eX6_save_8 : decode rX6_save.2.1 8 = .ok (.invokevirtual 233, 3) := by decide +kernel
theorem eX6_save_11 : decode rX6_save.2.1 11 = .ok (.aload_n 0, 1) := by decide +kernel
theorem eX6_save_12 : decode rX6_save.2.1 12 = .ok (.iconst 1, 1) := by decide +kernel
theorem eX6_save_13 : decode rX6_save.2.1 13 = .ok (.putfield 43, 3) := by decide +kernel
theorem eX6_save_16 : decode rX6_save.2.1 16 = .ok (.aload_n 0, 1) := by decide +kernel
theorem eX6_save_17 : decode rX6_save.2.1 17 = .ok (.getfield 12, 3) := by decide +kernel
theorem eX6_save_20 : decode rX6_save.2.1 20 = .ok (.getfield 175, 3) := by decide +kernel
theorem eX6_save_23 : decode rX6_save.2.1 23 = .ok (.ireturn, 1) := by decide +kernel
theorem eX6_restore_0 : decode rX6_restore.2.1 0 = .ok (.aload_n 0, 1) := by decide +kernel
theorem eX6_restore_1 : decode rX6_restore.2.1 1 = .ok (.getfield 43, 3) := by decide +kernel
theorem eX6_restore_4 : decode rX6_restore.2.1 4 = .ok (.ifCond .ne 14, 3) := by decide +kernel
theorem eX6_restore_7 : decode rX6_restore.2.1 7 = .ok (.new 345, 3) := by decide +kernel
theorem eX6_restore_10 : decode rX6_restore.2.1 10 = .ok (.dup, 1) := by decide +kernel
theorem eX6_restore_11 : decode rX6_restore.2.1 11 = .ok (.ldc_w 384, 3) := by decide +kernel
theorem eX6_restore_14 : decode rX6_restore.2.1 14 = .ok (.invokespecial 349, 3) := by decide +kernel
theorem eX6_restore_17 : decode rX6_restore.2.1 17 = .ok (.athrow, 1) := by decide +kernel
theorem eX6_restore_18 : decode rX6_restore.2.1 18 = .ok (.aload_n 0, 1) := by decide +kernel
theorem eX6_restore_19 : decode rX6_restore.2.1 19 = .ok (.getfield 12, 3) := by decide +kernel
theorem eX6_restore_22 : decode rX6_restore.2.1 22 = .ok (.aload_n 0, 1) := by decide +kernel
theorem eX6_restore_23 : decode rX6_restore.2.1 23 = .ok (.getfield 19, 3) := by decide +kernel
theorem eX6_restore_26 : decode rX6_restore.2.1 26 = .ok (.invokevirtual 233, 3) := by decide +kernel
theorem eX6_restore_29 : decode rX6_restore.2.1 29 = .ok (.aload_n 0, 1) := by decide +kernel
theorem eX6_restore_30 : decode rX6_restore.2.1 30 = .ok (.getfield 25, 3) := by decide +kernel
theorem eX6_restore_33 : decode rX6_restore.2.1 33 = .ok (.iconst 0, 1) := by decide +kernel
theorem eX6_restore_34 : decode rX6_restore.2.1 34 = .ok (.putfield 378, 3) := by decide +kernel
theorem eX6_restore_37 : decode rX6_restore.2.1 37 = .ok (.aload_n 0, 1) := by decide +kernel
theorem eX6_restore_38 : decode rX6_restore.2.1 38 = .ok (.getfield 12, 3) := by decide +kernel
theorem eX6_restore_41 : decode rX6_restore.2.1 41 = .ok (.getfield 175, 3) := by decide +kernel
theorem eX6_restore_44 : decode rX6_restore.2.1 44 = .ok (.ireturn, 1) := by decide +kernel
theorem eX6_isCar_0 : decode rX6_isCar.2.1 0 = .ok (.iload_n 0, 1) := by decide +kernel
theorem eX6_isCar_1 : decode rX6_isCar.2.1 1 = .ok (.ifCond .lt 12, 3) := by decide +kernel
theorem eX6_isCar_4 : decode rX6_isCar.2.1 4 = .ok (.iload_n 0, 1) := by decide +kernel
theorem eX6_isCar_5 : decode rX6_isCar.2.1 5 = .ok (.iconst 3, 1) := by decide +kernel
theorem eX6_isCar_6 : decode rX6_isCar.2.1 6 = .ok (.if_icmp .ge 7, 3) := by decide +kernel
theorem eX6_isCar_9 : decode rX6_isCar.2.1 9 = .ok (.iconst 1, 1) := by decide +kernel
theorem eX6_isCar_10 : decode rX6_isCar.2.1 10 = .ok (.goto 4, 3) := by decide +kernel
theorem eX6_isCar_13 : decode rX6_isCar.2.1 13 = .ok (.iconst 0, 1) := by decide +kernel
theorem eX6_isCar_14 : decode rX6_isCar.2.1 14 = .ok (.ireturn, 1) := by decide +kernel
theorem eX6_isFloor_0 : decode rX6_isFloor.2.1 0 = .ok (.iload_n 0, 1) := by decide +kernel
theorem eX6_isFloor_1 : decode rX6_isFloor.2.1 1 = .ok (.ifCond .lt 13, 3) := by decide +kernel
theorem eX6_isFloor_4 : decode rX6_isFloor.2.1 4 = .ok (.iload_n 0, 1) := by decide +kernel
theorem eX6_isFloor_5 : decode rX6_isFloor.2.1 5 = .ok (.bipush 10, 2) := by decide +kernel
theorem eX6_isFloor_7 : decode rX6_isFloor.2.1 7 = .ok (.if_icmp .ge 7, 3) := by decide +kernel
theorem eX6_isFloor_10 : decode rX6_isFloor.2.1 10 = .ok (.iconst 1, 1) := by decide +kernel
theorem eX6_isFloor_11 : decode rX6_isFloor.2.1 11 = .ok (.goto 4, 3) := by decide +kernel
theorem eX6_isFloor_14 : decode rX6_isFloor.2.1 14 = .ok (.iconst 0, 1) := by decide +kernel
theorem eX6_isFloor_15 : decode rX6_isFloor.2.1 15 = .ok (.ireturn, 1) := by decide +kernel
theorem eX6_isWeight_0 : decode rX6_isWeight.2.1 0 = .ok (.iload_n 0, 1) := by decide +kernel
theorem eX6_isWeight_1 : decode rX6_isWeight.2.1 1 = .ok (.bipush 10, 2) := by decide +kernel
theorem eX6_isWeight_3 : decode rX6_isWeight.2.1 3 = .ok (.if_icmp .lt 14, 3) := by decide +kernel
theorem eX6_isWeight_6 : decode rX6_isWeight.2.1 6 = .ok (.iload_n 0, 1) := by decide +kernel
theorem eX6_isWeight_7 : decode rX6_isWeight.2.1 7 = .ok (.sipush 150, 3) := by decide +kernel
theorem eX6_isWeight_10 : decode rX6_isWeight.2.1 10 = .ok (.if_icmp .gt 7, 3) := by decide +kernel
theorem eX6_isWeight_13 : decode rX6_isWeight.2.1 13 = .ok (.iconst 1, 1) := by decide +kernel
theorem eX6_isWeight_14 : decode rX6_isWeight.2.1 14 = .ok (.goto 4, 3) := by decide +kernel
theorem eX6_isWeight_17 : decode rX6_isWeight.2.1 17 = .ok (.iconst 0, 1) := by decide +kernel
theorem eX6_isWeight_18 : decode rX6_isWeight.2.1 18 = .ok (.ireturn, 1) := by decide +kernel
theorem eX6_checkCar_0 : decode rX6_checkCar.2.1 0 = .ok (.iload_n 0, 1) := by decide +kernel
theorem eX6_checkCar_1 : decode rX6_checkCar.2.1 1 = .ok (.invokestatic 386, 3) := by decide +kernel
theorem eX6_checkCar_4 : decode rX6_checkCar.2.1 4 = .ok (.ifCond .ne 14, 3) := by decide +kernel
theorem eX6_checkCar_7 : decode rX6_checkCar.2.1 7 = .ok (.new 331, 3) := by decide +kernel
theorem eX6_checkCar_10 : decode rX6_checkCar.2.1 10 = .ok (.dup, 1) := by decide +kernel
theorem eX6_checkCar_11 : decode rX6_checkCar.2.1 11 = .ok (.ldc_w 389, 3) := by decide +kernel
theorem eX6_checkCar_14 : decode rX6_checkCar.2.1 14 = .ok (.invokespecial 335, 3) := by decide +kernel
theorem eX6_checkCar_17 : decode rX6_checkCar.2.1 17 = .ok (.athrow, 1) := by decide +kernel
theorem eX6_checkCar_18 : decode rX6_checkCar.2.1 18 = .ok (.return_, 1) := by decide +kernel
theorem eX6_checkFloor_0 : decode rX6_checkFloor.2.1 0 = .ok (.iload_n 0, 1) := by decide +kernel
theorem eX6_checkFloor_1 : decode rX6_checkFloor.2.1 1 = .ok (.invokestatic 391, 3) := by decide +kernel
theorem eX6_checkFloor_4 : decode rX6_checkFloor.2.1 4 = .ok (.ifCond .ne 14, 3) := by decide +kernel
theorem eX6_checkFloor_7 : decode rX6_checkFloor.2.1 7 = .ok (.new 223, 3) := by decide +kernel
theorem eX6_checkFloor_10 : decode rX6_checkFloor.2.1 10 = .ok (.dup, 1) := by decide +kernel
theorem eX6_checkFloor_11 : decode rX6_checkFloor.2.1 11 = .ok (.ldc_w 394, 3) := by decide +kernel
theorem eX6_checkFloor_14 : decode rX6_checkFloor.2.1 14 = .ok (.invokespecial 227, 3) := by decide +kernel
theorem eX6_checkFloor_17 : decode rX6_checkFloor.2.1 17 = .ok (.athrow, 1) := by decide +kernel
theorem eX6_checkFloor_18 : decode rX6_checkFloor.2.1 18 = .ok (.return_, 1) := by decide +kernel
theorem eX6_checkPassenger_0 : decode rX6_checkPassenger.2.1 0 = .ok (.aload_n 0, 1) := by decide +kernel
theorem eX6_checkPassenger_1 : decode rX6_checkPassenger.2.1 1 = .ok (.getfield 12, 3) := by decide +kernel
theorem eX6_checkPassenger_4 : decode rX6_checkPassenger.2.1 4 = .ok (.iload_n 1, 1) := by decide +kernel
theorem eX6_checkPassenger_5 : decode rX6_checkPassenger.2.1 5 = .ok (.invokevirtual 396, 3) := by decide +kernel
theorem eX6_checkPassenger_8 : decode rX6_checkPassenger.2.1 8 = .ok (.ifCond .ne 14, 3) := by decide +kernel
theorem eX6_checkPassenger_11 : decode rX6_checkPassenger.2.1 11 = .ok (.new 331, 3) := by decide +kernel
theorem eX6_checkPassenger_14 : decode rX6_checkPassenger.2.1 14 = .ok (.dup, 1) := by decide +kernel
theorem eX6_checkPassenger_15 : decode rX6_checkPassenger.2.1 15 = .ok (.ldc_w 399, 3) := by decide +kernel
theorem eX6_checkPassenger_18 : decode rX6_checkPassenger.2.1 18 = .ok (.invokespecial 335, 3) := by decide +kernel
theorem eX6_checkPassenger_21 : decode rX6_checkPassenger.2.1 21 = .ok (.athrow, 1) := by decide +kernel
theorem eX6_checkPassenger_22 : decode rX6_checkPassenger.2.1 22 = .ok (.return_, 1) := by decide +kernel
theorem eX6_checkTrip_0 : decode rX6_checkTrip.2.1 0 = .ok (.aload_n 0, 1) := by decide +kernel
theorem eX6_checkTrip_1 : decode rX6_checkTrip.2.1 1 = .ok (.getfield 12, 3) := by decide +kernel
theorem eX6_checkTrip_4 : decode rX6_checkTrip.2.1 4 = .ok (.getfield 262, 3) := by decide +kernel
theorem eX6_checkTrip_7 : decode rX6_checkTrip.2.1 7 = .ok (.iload_n 1, 1) := by decide +kernel
theorem eX6_checkTrip_8 : decode rX6_checkTrip.2.1 8 = .ok (.invokevirtual 401, 3) := by decide +kernel
theorem eX6_checkTrip_11 : decode rX6_checkTrip.2.1 11 = .ok (.ifCond .ne 14, 3) := by decide +kernel
theorem eX6_checkTrip_14 : decode rX6_checkTrip.2.1 14 = .ok (.new 161, 3) := by decide +kernel
theorem eX6_checkTrip_17 : decode rX6_checkTrip.2.1 17 = .ok (.dup, 1) := by decide +kernel
theorem eX6_checkTrip_18 : decode rX6_checkTrip.2.1 18 = .ok (.ldc_w 404, 3) := by decide +kernel
theorem eX6_checkTrip_21 : decode rX6_checkTrip.2.1 21 = .ok (.invokespecial 165, 3) := by decide +kernel
theorem eX6_checkTrip_24 : decode rX6_checkTrip.2.1 24 = .ok (.athrow, 1) := by decide +kernel
theorem eX6_checkTrip_25 : decode rX6_checkTrip.2.1 25 = .ok (.return_, 1) := by decide +kernel
theorem eX6_throwIfRefused_0 : decode rX6_throwIfRefused.2.1 0 = .ok (.iload_n 0, 1) := by decide +kernel
theorem eX6_throwIfRefused_1 : decode rX6_throwIfRefused.2.1 1 = .ok (.iconst 1, 1) := by decide +kernel
theorem eX6_throwIfRefused_2 : decode rX6_throwIfRefused.2.1 2 = .ok (.if_icmp .ne 14, 3) := by decide +kernel
theorem eX6_throwIfRefused_5 : decode rX6_throwIfRefused.2.1 5 = .ok (.new 331, 3) := by decide +kernel
theorem eX6_throwIfRefused_8 : decode rX6_throwIfRefused.2.1 8 = .ok (.dup, 1) := by decide +kernel
theorem eX6_throwIfRefused_9 : decode rX6_throwIfRefused.2.1 9 = .ok (.ldc_w 406, 3) := by decide +kernel
theorem eX6_throwIfRefused_12 : decode rX6_throwIfRefused.2.1 12 = .ok (.invokespecial 335, 3) := by decide +kernel
theorem eX6_throwIfRefused_15 : decode rX6_throwIfRefused.2.1 15 = .ok (.athrow, 1) := by decide +kernel
theorem eX6_throwIfRefused_16 : decode rX6_throwIfRefused.2.1 16 = .ok (.iload_n 0, 1) := by decide +kernel
theorem eX6_throwIfRefused_17 : decode rX6_throwIfRefused.2.1 17 = .ok (.iconst 2, 1) := by decide +kernel
theorem eX6_throwIfRefused_18 : decode rX6_throwIfRefused.2.1 18 = .ok (.if_icmp .ne 14, 3) := by decide +kernel
theorem eX6_throwIfRefused_21 : decode rX6_throwIfRefused.2.1 21 = .ok (.new 223, 3) := by decide +kernel
theorem eX6_throwIfRefused_24 : decode rX6_throwIfRefused.2.1 24 = .ok (.dup, 1) := by decide +kernel
theorem eX6_throwIfRefused_25 : decode rX6_throwIfRefused.2.1 25 = .ok (.ldc_w 408, 3) := by decide +kernel
theorem eX6_throwIfRefused_28 : decode rX6_throwIfRefused.2.1 28 = .ok (.invokespecial 227, 3) := by decide +kernel
theorem eX6_throwIfRefused_31 : decode rX6_throwIfRefused.2.1 31 = .ok (.athrow, 1) := by decide +kernel
theorem eX6_throwIfRefused_32 : decode rX6_throwIfRefused.2.1 32 = .ok (.iload_n 0, 1) := by decide +kernel
theorem eX6_throwIfRefused_33 : decode rX6_throwIfRefused.2.1 33 = .ok (.iconst 3, 1) := by decide +kernel
theorem eX6_throwIfRefused_34 : decode rX6_throwIfRefused.2.1 34 = .ok (.if_icmp .ne 14, 3) := by decide +kernel
theorem eX6_throwIfRefused_37 : decode rX6_throwIfRefused.2.1 37 = .ok (.new 345, 3) := by decide +kernel
theorem eX6_throwIfRefused_40 : decode rX6_throwIfRefused.2.1 40 = .ok (.dup, 1) := by decide +kernel
theorem eX6_throwIfRefused_41 : decode rX6_throwIfRefused.2.1 41 = .ok (.ldc_w 410, 3) := by decide +kernel
theorem eX6_throwIfRefused_44 : decode rX6_throwIfRefused.2.1 44 = .ok (.invokespecial 349, 3) := by decide +kernel
theorem eX6_throwIfRefused_47 : decode rX6_throwIfRefused.2.1 47 = .ok (.athrow, 1) := by decide +kernel
theorem eX6_throwIfRefused_48 : decode rX6_throwIfRefused.2.1 48 = .ok (.iload_n 0, 1) := by decide +kernel
theorem eX6_throwIfRefused_49 : decode rX6_throwIfRefused.2.1 49 = .ok (.iconst 4, 1) := by decide +kernel
theorem eX6_throwIfRefused_50 : decode rX6_throwIfRefused.2.1 50 = .ok (.if_icmp .ne 14, 3) := by decide +kernel
theorem eX6_throwIfRefused_53 : decode rX6_throwIfRefused.2.1 53 = .ok (.new 412, 3) := by decide +kernel
theorem eX6_throwIfRefused_56 : decode rX6_throwIfRefused.2.1 56 = .ok (.dup, 1) := by decide +kernel
theorem eX6_throwIfRefused_57 : decode rX6_throwIfRefused.2.1 57 = .ok (.ldc_w 414, 3) := by decide +kernel
theorem eX6_throwIfRefused_60 : decode rX6_throwIfRefused.2.1 60 = .ok (.invokespecial 416, 3) := by decide +kernel
theorem eX6_throwIfRefused_63 : decode rX6_throwIfRefused.2.1 63 = .ok (.athrow, 1) := by decide +kernel
theorem eX6_throwIfRefused_64 : decode rX6_throwIfRefused.2.1 64 = .ok (.return_, 1) := by decide +kernel
theorem eX6_holds_0 : decode rX6_holds.2.1 0 = .ok (.iload_n 1, 1) := by decide +kernel
theorem eX6_holds_1 : decode rX6_holds.2.1 1 = .ok (.invokestatic 391, 3) := by decide +kernel
theorem eX6_holds_4 : decode rX6_holds.2.1 4 = .ok (.ifCond .eq 16, 3) := by decide +kernel
theorem eX6_holds_7 : decode rX6_holds.2.1 7 = .ok (.iload_n 0, 1) := by decide +kernel
theorem eX6_holds_8 : decode rX6_holds.2.1 8 = .ok (.iload_n 1, 1) := by decide +kernel
theorem eX6_holds_9 : decode rX6_holds.2.1 9 = .ok (.ishr, 1) := by decide +kernel
theorem eX6_holds_10 : decode rX6_holds.2.1 10 = .ok (.iconst 1, 1) := by decide +kernel
theorem eX6_holds_11 : decode rX6_holds.2.1 11 = .ok (.iand, 1) := by decide +kernel
theorem eX6_holds_12 : decode rX6_holds.2.1 12 = .ok (.iconst 1, 1) := by decide +kernel
theorem eX6_holds_13 : decode rX6_holds.2.1 13 = .ok (.if_icmp .ne 7, 3) := by decide +kernel
theorem eX6_holds_16 : decode rX6_holds.2.1 16 = .ok (.iconst 1, 1) := by decide +kernel
theorem eX6_holds_17 : decode rX6_holds.2.1 17 = .ok (.goto 4, 3) := by decide +kernel
theorem eX6_holds_20 : decode rX6_holds.2.1 20 = .ok (.iconst 0, 1) := by decide +kernel
theorem eX6_holds_21 : decode rX6_holds.2.1 21 = .ok (.ireturn, 1) := by decide +kernel
theorem eX6_distanceToFirst_0 : decode rX6_distanceToFirst.2.1 0 = .ok (.iconst 1, 1) := by decide +kernel
theorem eX6_distanceToFirst_1 : decode rX6_distanceToFirst.2.1 1 = .ok (.istore_n 3, 1) := by decide +kernel
theorem eX6_distanceToFirst_2 : decode rX6_distanceToFirst.2.1 2 = .ok (.iload_n 3, 1) := by decide +kernel
theorem eX6_distanceToFirst_3 : decode rX6_distanceToFirst.2.1 3 = .ok (.bipush 10, 2) := by decide +kernel
theorem eX6_distanceToFirst_5 : decode rX6_distanceToFirst.2.1 5 = .ok (.if_icmp .ge 40, 3) := by decide +kernel
theorem eX6_distanceToFirst_8 : decode rX6_distanceToFirst.2.1 8 = .ok (.iload_n 1, 1) := by decide +kernel
theorem eX6_distanceToFirst_9 : decode rX6_distanceToFirst.2.1 9 = .ok (.iload_n 3, 1) := by decide +kernel
theorem eX6_distanceToFirst_10 : decode rX6_distanceToFirst.2.1 10 = .ok (.iload_n 2, 1) := by decide +kernel
theorem eX6_distanceToFirst_11 : decode rX6_distanceToFirst.2.1 11 = .ok (.imul, 1) := by decide +kernel
theorem eX6_distanceToFirst_12 : decode rX6_distanceToFirst.2.1 12 = .ok (.iadd, 1) := by decide +kernel
theorem eX6_distanceToFirst_13 : decode rX6_distanceToFirst.2.1 13 = .ok (.istore 4, 2) := by decide +kernel
theorem eX6_distanceToFirst_15 : decode rX6_distanceToFirst.2.1 15 = .ok (.iload 4, 2) := by decide +kernel
theorem eX6_distanceToFirst_17 : decode rX6_distanceToFirst.2.1 17 = .ok (.ifCond .lt 22, 3) := by decide +kernel
theorem eX6_distanceToFirst_20 : decode rX6_distanceToFirst.2.1 20 = .ok (.iload 4, 2) := by decide +kernel
theorem eX6_distanceToFirst_22 : decode rX6_distanceToFirst.2.1 22 = .ok (.bipush 10, 2) := by decide +kernel
theorem eX6_distanceToFirst_24 : decode rX6_distanceToFirst.2.1 24 = .ok (.if_icmp .ge 15, 3) := by decide +kernel
theorem eX6_distanceToFirst_27 : decode rX6_distanceToFirst.2.1 27 = .ok (.iload_n 0, 1) := by decide +kernel
theorem eX6_distanceToFirst_28 : decode rX6_distanceToFirst.2.1 28 = .ok (.iload 4, 2) := by decide +kernel
theorem eX6_distanceToFirst_30 : decode rX6_distanceToFirst.2.1 30 = .ok (.ishr, 1) := by decide +kernel
theorem eX6_distanceToFirst_31 : decode rX6_distanceToFirst.2.1 31 = .ok (.iconst 1, 1) := by decide +kernel
theorem eX6_distanceToFirst_32 : decode rX6_distanceToFirst.2.1 32 = .ok (.iand, 1) := by decide +kernel
theorem eX6_distanceToFirst_33 : decode rX6_distanceToFirst.2.1 33 = .ok (.iconst 1, 1) := by decide +kernel
theorem eX6_distanceToFirst_34 : decode rX6_distanceToFirst.2.1 34 = .ok (.if_icmp .ne 5, 3) := by decide +kernel
theorem eX6_distanceToFirst_37 : decode rX6_distanceToFirst.2.1 37 = .ok (.iload_n 3, 1) := by decide +kernel
theorem eX6_distanceToFirst_38 : decode rX6_distanceToFirst.2.1 38 = .ok (.ireturn, 1) := by decide +kernel
theorem eX6_distanceToFirst_39 : decode rX6_distanceToFirst.2.1 39 = .ok (.iinc 3 1, 3) := by decide +kernel
theorem eX6_distanceToFirst_42 : decode rX6_distanceToFirst.2.1 42 = .ok (.goto (-40), 3) := by decide +kernel
theorem eX6_distanceToFirst_45 : decode rX6_distanceToFirst.2.1 45 = .ok (.iconst 0, 1) := by decide +kernel
theorem eX6_distanceToFirst_46 : decode rX6_distanceToFirst.2.1 46 = .ok (.ireturn, 1) := by decide +kernel
theorem eX6_distanceToLast_0 : decode rX6_distanceToLast.2.1 0 = .ok (.bipush 9, 2) := by decide +kernel
theorem eX6_distanceToLast_2 : decode rX6_distanceToLast.2.1 2 = .ok (.istore_n 3, 1) := by decide +kernel
theorem eX6_distanceToLast_3 : decode rX6_distanceToLast.2.1 3 = .ok (.iload_n 3, 1) := by decide +kernel
theorem eX6_distanceToLast_4 : decode rX6_distanceToLast.2.1 4 = .ok (.ifCond .le 40, 3) := by decide +kernel
theorem eX6_distanceToLast_7 : decode rX6_distanceToLast.2.1 7 = .ok (.iload_n 1, 1) := by decide +kernel
theorem eX6_distanceToLast_8 : decode rX6_distanceToLast.2.1 8 = .ok (.iload_n 3, 1) := by decide +kernel
theorem eX6_distanceToLast_9 : decode rX6_distanceToLast.2.1 9 = .ok (.iload_n 2, 1) := by decide +kernel
theorem eX6_distanceToLast_10 : decode rX6_distanceToLast.2.1 10 = .ok (.imul, 1) := by decide +kernel
theorem eX6_distanceToLast_11 : decode rX6_distanceToLast.2.1 11 = .ok (.iadd, 1) := by decide +kernel
theorem eX6_distanceToLast_12 : decode rX6_distanceToLast.2.1 12 = .ok (.istore 4, 2) := by decide +kernel
theorem eX6_distanceToLast_14 : decode rX6_distanceToLast.2.1 14 = .ok (.iload 4, 2) := by decide +kernel
theorem eX6_distanceToLast_16 : decode rX6_distanceToLast.2.1 16 = .ok (.ifCond .lt 22, 3) := by decide +kernel
theorem eX6_distanceToLast_19 : decode rX6_distanceToLast.2.1 19 = .ok (.iload 4, 2) := by decide +kernel
theorem eX6_distanceToLast_21 : decode rX6_distanceToLast.2.1 21 = .ok (.bipush 10, 2) := by decide +kernel
theorem eX6_distanceToLast_23 : decode rX6_distanceToLast.2.1 23 = .ok (.if_icmp .ge 15, 3) := by decide +kernel
theorem eX6_distanceToLast_26 : decode rX6_distanceToLast.2.1 26 = .ok (.iload_n 0, 1) := by decide +kernel
theorem eX6_distanceToLast_27 : decode rX6_distanceToLast.2.1 27 = .ok (.iload 4, 2) := by decide +kernel
theorem eX6_distanceToLast_29 : decode rX6_distanceToLast.2.1 29 = .ok (.ishr, 1) := by decide +kernel
theorem eX6_distanceToLast_30 : decode rX6_distanceToLast.2.1 30 = .ok (.iconst 1, 1) := by decide +kernel
theorem eX6_distanceToLast_31 : decode rX6_distanceToLast.2.1 31 = .ok (.iand, 1) := by decide +kernel
theorem eX6_distanceToLast_32 : decode rX6_distanceToLast.2.1 32 = .ok (.iconst 1, 1) := by decide +kernel
theorem eX6_distanceToLast_33 : decode rX6_distanceToLast.2.1 33 = .ok (.if_icmp .ne 5, 3) := by decide +kernel
theorem eX6_distanceToLast_36 : decode rX6_distanceToLast.2.1 36 = .ok (.iload_n 3, 1) := by decide +kernel
theorem eX6_distanceToLast_37 : decode rX6_distanceToLast.2.1 37 = .ok (.ireturn, 1) := by decide +kernel
theorem eX6_distanceToLast_38 : decode rX6_distanceToLast.2.1 38 = .ok (.iinc 3 (-1), 3) := by decide +kernel
theorem eX6_distanceToLast_41 : decode rX6_distanceToLast.2.1 41 = .ok (.goto (-38), 3) := by decide +kernel
theorem eX6_distanceToLast_44 : decode rX6_distanceToLast.2.1 44 = .ok (.iconst 0, 1) := by decide +kernel
theorem eX6_distanceToLast_45 : decode rX6_distanceToLast.2.1 45 = .ok (.ireturn, 1) := by decide +kernel
theorem eX6_directionToChoose_0 : decode rX6_directionToChoose.2.1 0 = .ok (.iload_n 1, 1) := by decide +kernel
theorem eX6_directionToChoose_1 : decode rX6_directionToChoose.2.1 1 = .ok (.ifCond .ne 5, 3) := by decide +kernel
theorem eX6_directionToChoose_4 : decode rX6_directionToChoose.2.1 4 = .ok (.iconst 0, 1) := by decide +kernel
theorem eX6_directionToChoose_5 : decode rX6_directionToChoose.2.1 5 = .ok (.ireturn, 1) := by decide +kernel
theorem eX6_directionToChoose_6 : decode rX6_directionToChoose.2.1 6 = .ok (.iload_n 1, 1) := by decide +kernel
theorem eX6_directionToChoose_7 : decode rX6_directionToChoose.2.1 7 = .ok (.aload_n 0, 1) := by decide +kernel
theorem eX6_directionToChoose_8 : decode rX6_directionToChoose.2.1 8 = .ok (.getfield 117, 3) := by decide +kernel
theorem eX6_directionToChoose_11 : decode rX6_directionToChoose.2.1 11 = .ok (.iconst 1, 1) := by decide +kernel
theorem eX6_directionToChoose_12 : decode rX6_directionToChoose.2.1 12 = .ok (.invokestatic 172, 3) := by decide +kernel
theorem eX6_directionToChoose_15 : decode rX6_directionToChoose.2.1 15 = .ok (.istore_n 2, 1) := by decide +kernel
theorem eX6_directionToChoose_16 : decode rX6_directionToChoose.2.1 16 = .ok (.iload_n 1, 1) := by decide +kernel
theorem eX6_directionToChoose_17 : decode rX6_directionToChoose.2.1 17 = .ok (.aload_n 0, 1) := by decide +kernel
theorem eX6_directionToChoose_18 : decode rX6_directionToChoose.2.1 18 = .ok (.getfield 117, 3) := by decide +kernel
theorem eX6_directionToChoose_21 : decode rX6_directionToChoose.2.1 21 = .ok (.iconst (-1), 1) := by decide +kernel
theorem eX6_directionToChoose_22 : decode rX6_directionToChoose.2.1 22 = .ok (.invokestatic 172, 3) := by decide +kernel
theorem eX6_directionToChoose_25 : decode rX6_directionToChoose.2.1 25 = .ok (.istore_n 3, 1) := by decide +kernel
theorem eX6_directionToChoose_26 : decode rX6_directionToChoose.2.1 26 = .ok (.iload_n 2, 1) := by decide +kernel
theorem eX6_directionToChoose_27 : decode rX6_directionToChoose.2.1 27 = .ok (.ifCond .ne 5, 3) := by decide +kernel
theorem eX6_directionToChoose_30 : decode rX6_directionToChoose.2.1 30 = .ok (.iconst (-1), 1) := by decide +kernel
theorem eX6_directionToChoose_31 : decode rX6_directionToChoose.2.1 31 = .ok (.ireturn, 1) := by decide +kernel
theorem eX6_directionToChoose_32 : decode rX6_directionToChoose.2.1 32 = .ok (.iload_n 3, 1) := by decide +kernel
theorem eX6_directionToChoose_33 : decode rX6_directionToChoose.2.1 33 = .ok (.ifCond .ne 5, 3) := by decide +kernel
theorem eX6_directionToChoose_36 : decode rX6_directionToChoose.2.1 36 = .ok (.iconst 1, 1) := by decide +kernel
theorem eX6_directionToChoose_37 : decode rX6_directionToChoose.2.1 37 = .ok (.ireturn, 1) := by decide +kernel
theorem eX6_directionToChoose_38 : decode rX6_directionToChoose.2.1 38 = .ok (.aload_n 0, 1) := by decide +kernel
theorem eX6_directionToChoose_39 : decode rX6_directionToChoose.2.1 39 = .ok (.getfield 122, 3) := by decide +kernel
theorem eX6_directionToChoose_42 : decode rX6_directionToChoose.2.1 42 = .ok (.ifCond .eq 8, 3) := by decide +kernel
theorem eX6_directionToChoose_45 : decode rX6_directionToChoose.2.1 45 = .ok (.aload_n 0, 1) := by decide +kernel
theorem eX6_directionToChoose_46 : decode rX6_directionToChoose.2.1 46 = .ok (.getfield 122, 3) := by decide +kernel
theorem eX6_directionToChoose_49 : decode rX6_directionToChoose.2.1 49 = .ok (.ireturn, 1) := by decide +kernel
theorem eX6_directionToChoose_50 : decode rX6_directionToChoose.2.1 50 = .ok (.iload_n 2, 1) := by decide +kernel
theorem eX6_directionToChoose_51 : decode rX6_directionToChoose.2.1 51 = .ok (.iload_n 3, 1) := by decide +kernel
theorem eX6_directionToChoose_52 : decode rX6_directionToChoose.2.1 52 = .ok (.if_icmp .gt 7, 3) := by decide +kernel
theorem eX6_directionToChoose_55 : decode rX6_directionToChoose.2.1 55 = .ok (.iconst 1, 1) := by decide +kernel
theorem eX6_directionToChoose_56 : decode rX6_directionToChoose.2.1 56 = .ok (.goto 4, 3) := by decide +kernel
theorem eX6_directionToChoose_59 : decode rX6_directionToChoose.2.1 59 = .ok (.iconst (-1), 1) := by decide +kernel
theorem eX6_directionToChoose_60 : decode rX6_directionToChoose.2.1 60 = .ok (.ireturn, 1) := by decide +kernel
