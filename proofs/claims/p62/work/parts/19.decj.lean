theorem eJ4_init_da8c8_0 : decode rJ4_init_da8c8.2.1 0 = .ok (.aload_n 0, 1) := by decide +kernel
theorem eJ4_init_da8c8_1 : decode rJ4_init_da8c8.2.1 1 = .ok (.bipush 16, 2) := by decide +kernel
theorem eJ4_init_da8c8_3 : decode rJ4_init_da8c8.2.1 3 = .ok (.invokespecial 1, 3) := by decide +kernel
theorem eJ4_init_da8c8_6 : decode rJ4_init_da8c8.2.1 6 = .ok (.return_, 1) := by decide +kernel
theorem eJ5_init_d00df_0 : decode rJ5_init_d00df.2.1 0 = .ok (.aload_n 0, 1) := by decide +kernel
theorem eJ5_init_d00df_1 : decode rJ5_init_d00df.2.1 1 = .ok (.invokespecial 3, 3) := by decide +kernel
theorem eJ5_init_d00df_4 : decode rJ5_init_d00df.2.1 4 = .ok (.getstatic 18, 3) := by decide +kernel
theorem eJ5_init_d00df_7 : decode rJ5_init_d00df.2.1 7 = .ok (.ifCond .eq 18, 3) := by decide +kernel
theorem eJ5_init_d00df_10 : decode rJ5_init_d00df.2.1 10 = .ok (.aload_n 0, 1) := by decide +kernel
theorem eJ5_init_d00df_11 : decode rJ5_init_d00df.2.1 11 = .ok (.iload_n 1, 1) := by decide +kernel
theorem eJ5_init_d00df_12 : decode rJ5_init_d00df.2.1 12 = .ok (.newarray .byte, 2) := by decide +kernel
theorem eJ5_init_d00df_14 : decode rJ5_init_d00df.2.1 14 = .ok (.putfield 15, 3) := by decide +kernel
theorem eJ5_init_d00df_17 : decode rJ5_init_d00df.2.1 17 = .ok (.aload_n 0, 1) := by decide +kernel
theorem eJ5_init_d00df_18 : decode rJ5_init_d00df.2.1 18 = .ok (.iconst 0, 1) := by decide +kernel
theorem eJ5_init_d00df_19 : decode rJ5_init_d00df.2.1 19 = .ok (.putfield 22, 3) := by decide +kernel
theorem eJ5_init_d00df_22 : decode rJ5_init_d00df.2.1 22 = .ok (.goto 16, 3) := by decide +kernel
theorem eJ5_init_d00df_25 : decode rJ5_init_d00df.2.1 25 = .ok (.aload_n 0, 1) := by decide +kernel
theorem eJ5_init_d00df_26 : decode rJ5_init_d00df.2.1 26 = .ok (.iload_n 1, 1) := by decide +kernel
theorem eJ5_init_d00df_27 : decode rJ5_init_d00df.2.1 27 = .ok (.invokestatic 26, 3) := by decide +kernel
theorem eJ5_init_d00df_30 : decode rJ5_init_d00df.2.1 30 = .ok (.putfield 15, 3) := by decide +kernel
theorem eJ5_init_d00df_33 : decode rJ5_init_d00df.2.1 33 = .ok (.aload_n 0, 1) := by decide +kernel
theorem eJ5_init_d00df_34 : decode rJ5_init_d00df.2.1 34 = .ok (.iconst 1, 1) := by decide +kernel
theorem eJ5_init_d00df_35 : decode rJ5_init_d00df.2.1 35 = .ok (.putfield 22, 3) := by decide +kernel
theorem eJ5_init_d00df_38 : decode rJ5_init_d00df.2.1 38 = .ok (.return_, 1) := by decide +kernel
theorem eJ4_append_cf468_0 : decode rJ4_append_cf468.2.1 0 = .ok (.aload_n 0, 1) := by decide +kernel
theorem eJ4_append_cf468_1 : decode rJ4_append_cf468.2.1 1 = .ok (.iload_n 1, 1) := by decide +kernel
theorem eJ4_append_cf468_2 : decode rJ4_append_cf468.2.1 2 = .ok (.invokespecial 50, 3) := by decide +kernel
theorem eJ4_append_cf468_5 : decode rJ4_append_cf468.2.1 5 = .ok (.pop, 1) := by decide +kernel
theorem eJ4_append_cf468_6 : decode rJ4_append_cf468.2.1 6 = .ok (.aload_n 0, 1) := by decide +kernel
theorem eJ4_append_cf468_7 : decode rJ4_append_cf468.2.1 7 = .ok (.areturn, 1) := by decide +kernel
theorem eJ5_append_3fe6f_0 : decode rJ5_append_3fe6f.2.1 0 = .ok (.aload_n 0, 1) := by decide +kernel
theorem eJ5_append_3fe6f_1 : decode rJ5_append_3fe6f.2.1 1 = .ok (.aload_n 0, 1) := by decide +kernel
theorem eJ5_append_3fe6f_2 : decode rJ5_append_3fe6f.2.1 2 = .ok (.getfield 79, 3) := by decide +kernel
theorem eJ5_append_3fe6f_5 : decode rJ5_append_3fe6f.2.1 5 = .ok (.iconst 1, 1) := by decide +kernel
theorem eJ5_append_3fe6f_6 : decode rJ5_append_3fe6f.2.1 6 = .ok (.iadd, 1) := by decide +kernel
theorem eJ5_append_3fe6f_7 : decode rJ5_append_3fe6f.2.1 7 = .ok (.invokevirtual 100, 3) := by decide +kernel
theorem eJ5_append_3fe6f_10 : decode rJ5_append_3fe6f.2.1 10 = .ok (.aload_n 0, 1) := by decide +kernel
theorem eJ5_append_3fe6f_11 : decode rJ5_append_3fe6f.2.1 11 = .ok (.invokevirtual 83, 3) := by decide +kernel
theorem eJ5_append_3fe6f_14 : decode rJ5_append_3fe6f.2.1 14 = .ok (.ifCond .eq 31, 3) := by decide +kernel
theorem eJ5_append_3fe6f_17 : decode rJ5_append_3fe6f.2.1 17 = .ok (.iload_n 1, 1) := by decide +kernel
theorem eJ5_append_3fe6f_18 : decode rJ5_append_3fe6f.2.1 18 = .ok (.invokestatic 191, 3) := by decide +kernel
theorem eJ5_append_3fe6f_21 : decode rJ5_append_3fe6f.2.1 21 = .ok (.ifCond .eq 24, 3) := by decide +kernel
theorem eJ5_append_3fe6f_24 : decode rJ5_append_3fe6f.2.1 24 = .ok (.aload_n 0, 1) := by decide +kernel
theorem eJ5_append_3fe6f_25 : decode rJ5_append_3fe6f.2.1 25 = .ok (.getfield 15, 3) := by decide +kernel
theorem eJ5_append_3fe6f_28 : decode rJ5_append_3fe6f.2.1 28 = .ok (.aload_n 0, 1) := by decide +kernel
theorem eJ5_append_3fe6f_29 : decode rJ5_append_3fe6f.2.1 29 = .ok (.dup, 1) := by decide +kernel
theorem eJ5_append_3fe6f_30 : decode rJ5_append_3fe6f.2.1 30 = .ok (.getfield 79, 3) := by decide +kernel
theorem eJ5_append_3fe6f_33 : decode rJ5_append_3fe6f.2.1 33 = .ok (.dup_x1, 1) := by decide +kernel
theorem eJ5_append_3fe6f_34 : decode rJ5_append_3fe6f.2.1 34 = .ok (.iconst 1, 1) := by decide +kernel
theorem eJ5_append_3fe6f_35 : decode rJ5_append_3fe6f.2.1 35 = .ok (.iadd, 1) := by decide +kernel
theorem eJ5_append_3fe6f_36 : decode rJ5_append_3fe6f.2.1 36 = .ok (.putfield 79, 3) := by decide +kernel
theorem eJ5_append_3fe6f_39 : decode rJ5_append_3fe6f.2.1 39 = .ok (.iload_n 1, 1) := by decide +kernel
theorem eJ5_append_3fe6f_40 : decode rJ5_append_3fe6f.2.1 40 = .ok (.i2b, 1) := by decide +kernel
theorem eJ5_append_3fe6f_41 : decode rJ5_append_3fe6f.2.1 41 = .ok (.bastore, 1) := by decide +kernel
theorem eJ5_append_3fe6f_42 : decode rJ5_append_3fe6f.2.1 42 = .ok (.goto 33, 3) := by decide +kernel
theorem eJ5_append_3fe6f_45 : decode rJ5_append_3fe6f.2.1 45 = .ok (.aload_n 0, 1) := by decide +kernel
theorem eJ5_append_3fe6f_46 : decode rJ5_append_3fe6f.2.1 46 = .ok (.invokevirtual 83, 3) := by decide +kernel
theorem eJ5_append_3fe6f_49 : decode rJ5_append_3fe6f.2.1 49 = .ok (.ifCond .eq 7, 3) := by decide +kernel
theorem eJ5_append_3fe6f_52 : decode rJ5_append_3fe6f.2.1 52 = .ok (.aload_n 0, 1) := by decide +kernel
theorem eJ5_append_3fe6f_53 : decode rJ5_append_3fe6f.2.1 53 = .ok (.invokevirtual 195, 3) := by decide +kernel
theorem eJ5_append_3fe6f_56 : decode rJ5_append_3fe6f.2.1 56 = .ok (.aload_n 0, 1) := by decide +kernel
theorem eJ5_append_3fe6f_57 : decode rJ5_append_3fe6f.2.1 57 = .ok (.getfield 15, 3) := by decide +kernel
theorem eJ5_append_3fe6f_60 : decode rJ5_append_3fe6f.2.1 60 = .ok (.aload_n 0, 1) := by decide +kernel
theorem eJ5_append_3fe6f_61 : decode rJ5_append_3fe6f.2.1 61 = .ok (.dup, 1) := by decide +kernel
theorem eJ5_append_3fe6f_62 : decode rJ5_append_3fe6f.2.1 62 = .ok (.getfield 79, 3) := by decide +kernel
theorem eJ5_append_3fe6f_65 : decode rJ5_append_3fe6f.2.1 65 = .ok (.dup_x1, 1) := by decide +kernel
theorem eJ5_append_3fe6f_66 : decode rJ5_append_3fe6f.2.1 66 = .ok (.iconst 1, 1) := by decide +kernel
theorem eJ5_append_3fe6f_67 : decode rJ5_append_3fe6f.2.1 67 = .ok (.iadd, 1) := by decide +kernel
theorem eJ5_append_3fe6f_68 : decode rJ5_append_3fe6f.2.1 68 = .ok (.putfield 79, 3) := by decide +kernel
theorem eJ5_append_3fe6f_71 : decode rJ5_append_3fe6f.2.1 71 = .ok (.iload_n 1, 1) := by decide +kernel
theorem eJ5_append_3fe6f_72 : decode rJ5_append_3fe6f.2.1 72 = .ok (.invokestatic 197, 3) := by decide +kernel
theorem eJ5_append_3fe6f_75 : decode rJ5_append_3fe6f.2.1 75 = .ok (.aload_n 0, 1) := by decide +kernel
theorem eJ5_append_3fe6f_76 : decode rJ5_append_3fe6f.2.1 76 = .ok (.areturn, 1) := by decide +kernel
theorem eJ5_ensureCapacityInternal_d00df_0 : decode rJ5_ensureCapacityInternal_d00df.2.1 0 = .ok (.aload_n 0, 1) := by decide +kernel
theorem eJ5_ensureCapacityInternal_d00df_1 : decode rJ5_ensureCapacityInternal_d00df.2.1 1 = .ok (.getfield 15, 3) := by decide +kernel
theorem eJ5_ensureCapacityInternal_d00df_4 : decode rJ5_ensureCapacityInternal_d00df.2.1 4 = .ok (.arraylength, 1) := by decide +kernel
theorem eJ5_ensureCapacityInternal_d00df_5 : decode rJ5_ensureCapacityInternal_d00df.2.1 5 = .ok (.aload_n 0, 1) := by decide +kernel
theorem eJ5_ensureCapacityInternal_d00df_6 : decode rJ5_ensureCapacityInternal_d00df.2.1 6 = .ok (.getfield 22, 3) := by decide +kernel
theorem eJ5_ensureCapacityInternal_d00df_9 : decode rJ5_ensureCapacityInternal_d00df.2.1 9 = .ok (.ishr, 1) := by decide +kernel
theorem eJ5_ensureCapacityInternal_d00df_10 : decode rJ5_ensureCapacityInternal_d00df.2.1 10 = .ok (.istore_n 2, 1) := by decide +kernel
theorem eJ5_ensureCapacityInternal_d00df_11 : decode rJ5_ensureCapacityInternal_d00df.2.1 11 = .ok (.iload_n 1, 1) := by decide +kernel
theorem eJ5_ensureCapacityInternal_d00df_12 : decode rJ5_ensureCapacityInternal_d00df.2.1 12 = .ok (.iload_n 2, 1) := by decide +kernel
theorem eJ5_ensureCapacityInternal_d00df_13 : decode rJ5_ensureCapacityInternal_d00df.2.1 13 = .ok (.isub, 1) := by decide +kernel
theorem eJ5_ensureCapacityInternal_d00df_14 : decode rJ5_ensureCapacityInternal_d00df.2.1 14 = .ok (.ifCond .le 24, 3) := by decide +kernel
theorem eJ5_ensureCapacityInternal_d00df_17 : decode rJ5_ensureCapacityInternal_d00df.2.1 17 = .ok (.aload_n 0, 1) := by decide +kernel
theorem eJ5_ensureCapacityInternal_d00df_18 : decode rJ5_ensureCapacityInternal_d00df.2.1 18 = .ok (.aload_n 0, 1) := by decide +kernel
theorem eJ5_ensureCapacityInternal_d00df_19 : decode rJ5_ensureCapacityInternal_d00df.2.1 19 = .ok (.getfield 15, 3) := by decide +kernel
theorem eJ5_ensureCapacityInternal_d00df_22 : decode rJ5_ensureCapacityInternal_d00df.2.1 22 = .ok (.aload_n 0, 1) := by decide +kernel
theorem eJ5_ensureCapacityInternal_d00df_23 : decode rJ5_ensureCapacityInternal_d00df.2.1 23 = .ok (.iload_n 1, 1) := by decide +kernel
theorem eJ5_ensureCapacityInternal_d00df_24 : decode rJ5_ensureCapacityInternal_d00df.2.1 24 = .ok (.invokevirtual 104, 3) := by decide +kernel
theorem eJ5_ensureCapacityInternal_d00df_27 : decode rJ5_ensureCapacityInternal_d00df.2.1 27 = .ok (.aload_n 0, 1) := by decide +kernel
theorem eJ5_ensureCapacityInternal_d00df_28 : decode rJ5_ensureCapacityInternal_d00df.2.1 28 = .ok (.getfield 22, 3) := by decide +kernel
theorem eJ5_ensureCapacityInternal_d00df_31 : decode rJ5_ensureCapacityInternal_d00df.2.1 31 = .ok (.ishl, 1) := by decide +kernel
theorem eJ5_ensureCapacityInternal_d00df_32 : decode rJ5_ensureCapacityInternal_d00df.2.1 32 = .ok (.invokestatic 108, 3) := by decide +kernel
theorem eJ5_ensureCapacityInternal_d00df_35 : decode rJ5_ensureCapacityInternal_d00df.2.1 35 = .ok (.putfield 15, 3) := by decide +kernel
theorem eJ5_ensureCapacityInternal_d00df_38 : decode rJ5_ensureCapacityInternal_d00df.2.1 38 = .ok (.return_, 1) := by decide +kernel
theorem eJ5_newCapacity_0f7a4_0 : decode rJ5_newCapacity_0f7a4.2.1 0 = .ok (.aload_n 0, 1) := by decide +kernel
theorem eJ5_newCapacity_0f7a4_1 : decode rJ5_newCapacity_0f7a4.2.1 1 = .ok (.getfield 15, 3) := by decide +kernel
theorem eJ5_newCapacity_0f7a4_4 : decode rJ5_newCapacity_0f7a4.2.1 4 = .ok (.arraylength, 1) := by decide +kernel
theorem eJ5_newCapacity_0f7a4_5 : decode rJ5_newCapacity_0f7a4.2.1 5 = .ok (.istore_n 2, 1) := by decide +kernel
theorem eJ5_newCapacity_0f7a4_6 : decode rJ5_newCapacity_0f7a4.2.1 6 = .ok (.iload_n 1, 1) := by decide +kernel
theorem eJ5_newCapacity_0f7a4_7 : decode rJ5_newCapacity_0f7a4.2.1 7 = .ok (.aload_n 0, 1) := by decide +kernel
theorem eJ5_newCapacity_0f7a4_8 : decode rJ5_newCapacity_0f7a4.2.1 8 = .ok (.getfield 22, 3) := by decide +kernel
theorem eJ5_newCapacity_0f7a4_11 : decode rJ5_newCapacity_0f7a4.2.1 11 = .ok (.ishl, 1) := by decide +kernel
theorem eJ5_newCapacity_0f7a4_12 : decode rJ5_newCapacity_0f7a4.2.1 12 = .ok (.istore_n 3, 1) := by decide +kernel
theorem eJ5_newCapacity_0f7a4_13 : decode rJ5_newCapacity_0f7a4.2.1 13 = .ok (.iload_n 3, 1) := by decide +kernel
theorem eJ5_newCapacity_0f7a4_14 : decode rJ5_newCapacity_0f7a4.2.1 14 = .ok (.iload_n 2, 1) := by decide +kernel
theorem eJ5_newCapacity_0f7a4_15 : decode rJ5_newCapacity_0f7a4.2.1 15 = .ok (.isub, 1) := by decide +kernel
theorem eJ5_newCapacity_0f7a4_16 : decode rJ5_newCapacity_0f7a4.2.1 16 = .ok (.istore 4, 2) := by decide +kernel
theorem eJ5_newCapacity_0f7a4_18 : decode rJ5_newCapacity_0f7a4.2.1 18 = .ok (.iload_n 2, 1) := by decide +kernel
theorem eJ5_newCapacity_0f7a4_19 : decode rJ5_newCapacity_0f7a4.2.1 19 = .ok (.iload 4, 2) := by decide +kernel
theorem eJ5_newCapacity_0f7a4_21 : decode rJ5_newCapacity_0f7a4.2.1 21 = .ok (.iload_n 2, 1) := by decide +kernel
theorem eJ5_newCapacity_0f7a4_22 : decode rJ5_newCapacity_0f7a4.2.1 22 = .ok (.iconst 2, 1) := by decide +kernel
theorem eJ5_newCapacity_0f7a4_23 : decode rJ5_newCapacity_0f7a4.2.1 23 = .ok (.aload_n 0, 1) := by decide +kernel
theorem eJ5_newCapacity_0f7a4_24 : decode rJ5_newCapacity_0f7a4.2.1 24 = .ok (.getfield 22, 3) := by decide +kernel
theorem eJ5_newCapacity_0f7a4_27 : decode rJ5_newCapacity_0f7a4.2.1 27 = .ok (.ishl, 1) := by decide +kernel
theorem eJ5_newCapacity_0f7a4_28 : decode rJ5_newCapacity_0f7a4.2.1 28 = .ok (.iadd, 1) := by decide +kernel
theorem eJ5_newCapacity_0f7a4_29 : decode rJ5_newCapacity_0f7a4.2.1 29 = .ok (.invokestatic 114, 3) := by decide +kernel
theorem eJ5_newCapacity_0f7a4_32 : decode rJ5_newCapacity_0f7a4.2.1 32 = .ok (.istore 5, 2) := by decide +kernel
theorem eJ5_newCapacity_0f7a4_34 : decode rJ5_newCapacity_0f7a4.2.1 34 = .ok (.iload 5, 2) := by decide +kernel
theorem eJ5_newCapacity_0f7a4_36 : decode rJ5_newCapacity_0f7a4.2.1 36 = .ok (.ldc 39, 2) := by decide +kernel
theorem eJ5_newCapacity_0f7a4_38 : decode rJ5_newCapacity_0f7a4.2.1 38 = .ok (.if_icmp .ne 13, 3) := by decide +kernel
theorem eJ5_newCapacity_0f7a4_41 : decode rJ5_newCapacity_0f7a4.2.1 41 = .ok (.new 120, 3) := by decide +kernel
theorem eJ5_newCapacity_0f7a4_44 : decode rJ5_newCapacity_0f7a4.2.1 44 = .ok (.dup, 1) := by decide +kernel
theorem eJ5_newCapacity_0f7a4_45 : decode rJ5_newCapacity_0f7a4.2.1 45 = .ok (.ldc 122, 2) := by decide +kernel
theorem eJ5_newCapacity_0f7a4_47 : decode rJ5_newCapacity_0f7a4.2.1 47 = .ok (.invokespecial 124, 3) := by decide +kernel
theorem eJ5_newCapacity_0f7a4_50 : decode rJ5_newCapacity_0f7a4.2.1 50 = .ok (.athrow, 1) := by decide +kernel
theorem eJ5_newCapacity_0f7a4_51 : decode rJ5_newCapacity_0f7a4.2.1 51 = .ok (.iload 5, 2) := by decide +kernel
theorem eJ5_newCapacity_0f7a4_53 : decode rJ5_newCapacity_0f7a4.2.1 53 = .ok (.aload_n 0, 1) := by decide +kernel
theorem eJ5_newCapacity_0f7a4_54 : decode rJ5_newCapacity_0f7a4.2.1 54 = .ok (.getfield 22, 3) := by decide +kernel
theorem eJ5_newCapacity_0f7a4_57 : decode rJ5_newCapacity_0f7a4.2.1 57 = .ok (.ishr, 1) := by decide +kernel
theorem eJ5_newCapacity_0f7a4_58 : decode rJ5_newCapacity_0f7a4.2.1 58 = .ok (.ireturn, 1) := by decide +kernel
theorem eJ8_newLength_cabcc_0 : decode rJ8_newLength_cabcc.2.1 0 = .ok (.iload_n 0, 1) := by decide +kernel
theorem eJ8_newLength_cabcc_1 : decode rJ8_newLength_cabcc.2.1 1 = .ok (.iload_n 1, 1) := by decide +kernel
theorem eJ8_newLength_cabcc_2 : decode rJ8_newLength_cabcc.2.1 2 = .ok (.iload_n 2, 1) := by decide +kernel
theorem eJ8_newLength_cabcc_3 : decode rJ8_newLength_cabcc.2.1 3 = .ok (.invokestatic 194, 3) := by decide +kernel
theorem eJ8_newLength_cabcc_6 : decode rJ8_newLength_cabcc.2.1 6 = .ok (.iadd, 1) := by decide +kernel
theorem eJ8_newLength_cabcc_7 : decode rJ8_newLength_cabcc.2.1 7 = .ok (.istore_n 3, 1) := by decide +kernel
theorem eJ8_newLength_cabcc_8 : decode rJ8_newLength_cabcc.2.1 8 = .ok (.iconst 0, 1) := by decide +kernel
theorem eJ8_newLength_cabcc_9 : decode rJ8_newLength_cabcc.2.1 9 = .ok (.iload_n 3, 1) := by decide +kernel
theorem eJ8_newLength_cabcc_10 : decode rJ8_newLength_cabcc.2.1 10 = .ok (.if_icmp .ge 11, 3) := by decide +kernel
theorem eJ8_newLength_cabcc_13 : decode rJ8_newLength_cabcc.2.1 13 = .ok (.iload_n 3, 1) := by decide +kernel
theorem eJ8_newLength_cabcc_14 : decode rJ8_newLength_cabcc.2.1 14 = .ok (.ldc 200, 2) := by decide +kernel
theorem eJ8_newLength_cabcc_16 : decode rJ8_newLength_cabcc.2.1 16 = .ok (.if_icmp .gt 5, 3) := by decide +kernel
theorem eJ8_newLength_cabcc_19 : decode rJ8_newLength_cabcc.2.1 19 = .ok (.iload_n 3, 1) := by decide +kernel
theorem eJ8_newLength_cabcc_20 : decode rJ8_newLength_cabcc.2.1 20 = .ok (.ireturn, 1) := by decide +kernel
theorem eJ8_newLength_cabcc_21 : decode rJ8_newLength_cabcc.2.1 21 = .ok (.iload_n 0, 1) := by decide +kernel
theorem eJ8_newLength_cabcc_22 : decode rJ8_newLength_cabcc.2.1 22 = .ok (.iload_n 1, 1) := by decide +kernel
theorem eJ8_newLength_cabcc_23 : decode rJ8_newLength_cabcc.2.1 23 = .ok (.invokestatic 201, 3) := by decide +kernel
theorem eJ8_newLength_cabcc_26 : decode rJ8_newLength_cabcc.2.1 26 = .ok (.ireturn, 1) := by decide +kernel
theorem eJ7_copyOf_9075b_0 : decode rJ7_copyOf_9075b.2.1 0 = .ok (.iload_n 1, 1) := by decide +kernel
theorem eJ7_copyOf_9075b_1 : decode rJ7_copyOf_9075b.2.1 1 = .ok (.aload_n 0, 1) := by decide +kernel
theorem eJ7_copyOf_9075b_2 : decode rJ7_copyOf_9075b.2.1 2 = .ok (.arraylength, 1) := by decide +kernel
theorem eJ7_copyOf_9075b_3 : decode rJ7_copyOf_9075b.2.1 3 = .ok (.if_icmp .ne 11, 3) := by decide +kernel
theorem eJ7_copyOf_9075b_6 : decode rJ7_copyOf_9075b.2.1 6 = .ok (.aload_n 0, 1) := by decide +kernel
theorem eJ7_copyOf_9075b_7 : decode rJ7_copyOf_9075b.2.1 7 = .ok (.invokevirtual 310, 3) := by decide +kernel
theorem eJ7_copyOf_9075b_10 : decode rJ7_copyOf_9075b.2.1 10 = .ok (.checkcast 311, 3) := by decide +kernel
theorem eJ7_copyOf_9075b_13 : decode rJ7_copyOf_9075b.2.1 13 = .ok (.areturn, 1) := by decide +kernel
theorem eJ7_copyOf_9075b_14 : decode rJ7_copyOf_9075b.2.1 14 = .ok (.iload_n 1, 1) := by decide +kernel
theorem eJ7_copyOf_9075b_15 : decode rJ7_copyOf_9075b.2.1 15 = .ok (.newarray .byte, 2) := by decide +kernel
theorem eJ7_copyOf_9075b_17 : decode rJ7_copyOf_9075b.2.1 17 = .ok (.astore_n 2, 1) := by decide +kernel
theorem eJ7_copyOf_9075b_18 : decode rJ7_copyOf_9075b.2.1 18 = .ok (.aload_n 0, 1) := by decide +kernel
theorem eJ7_copyOf_9075b_19 : decode rJ7_copyOf_9075b.2.1 19 = .ok (.iconst 0, 1) := by decide +kernel
theorem eJ7_copyOf_9075b_20 : decode rJ7_copyOf_9075b.2.1 20 = .ok (.aload_n 2, 1) := by decide +kernel
theorem eJ7_copyOf_9075b_21 : decode rJ7_copyOf_9075b.2.1 21 = .ok (.iconst 0, 1) := by decide +kernel
theorem eJ7_copyOf_9075b_22 : decode rJ7_copyOf_9075b.2.1 22 = .ok (.aload_n 0, 1) := by decide +kernel
theorem eJ7_copyOf_9075b_23 : decode rJ7_copyOf_9075b.2.1 23 = .ok (.arraylength, 1) := by decide +kernel
theorem eJ7_copyOf_9075b_24 : decode rJ7_copyOf_9075b.2.1 24 = .ok (.iload_n 1, 1) := by decide +kernel
theorem eJ7_copyOf_9075b_25 : decode rJ7_copyOf_9075b.2.1 25 = .ok (.invokestatic 304, 3) := by decide +kernel
theorem eJ7_copyOf_9075b_28 : decode rJ7_copyOf_9075b.2.1 28 = .ok (.invokestatic 150, 3) := by decide +kernel
theorem eJ7_copyOf_9075b_31 : decode rJ7_copyOf_9075b.2.1 31 = .ok (.aload_n 2, 1) := by decide +kernel
theorem eJ7_copyOf_9075b_32 : decode rJ7_copyOf_9075b.2.1 32 = .ok (.areturn, 1) := by decide +kernel
theorem eJ5_isLatin1_aae02_0 : decode rJ5_isLatin1_aae02.2.1 0 = .ok (.getstatic 18, 3) := by decide +kernel
theorem eJ5_isLatin1_aae02_3 : decode rJ5_isLatin1_aae02.2.1 3 = .ok (.ifCond .eq 14, 3) := by decide +kernel
theorem eJ5_isLatin1_aae02_6 : decode rJ5_isLatin1_aae02.2.1 6 = .ok (.aload_n 0, 1) := by decide +kernel
theorem eJ5_isLatin1_aae02_7 : decode rJ5_isLatin1_aae02.2.1 7 = .ok (.getfield 22, 3) := by decide +kernel
theorem eJ5_isLatin1_aae02_10 : decode rJ5_isLatin1_aae02.2.1 10 = .ok (.ifCond .ne 7, 3) := by decide +kernel
theorem eJ5_isLatin1_aae02_13 : decode rJ5_isLatin1_aae02.2.1 13 = .ok (.iconst 1, 1) := by decide +kernel
theorem eJ5_isLatin1_aae02_14 : decode rJ5_isLatin1_aae02.2.1 14 = .ok (.goto 4, 3) := by decide +kernel
theorem eJ5_isLatin1_aae02_17 : decode rJ5_isLatin1_aae02.2.1 17 = .ok (.iconst 0, 1) := by decide +kernel
theorem eJ5_isLatin1_aae02_18 : decode rJ5_isLatin1_aae02.2.1 18 = .ok (.ireturn, 1) := by decide +kernel
theorem eJ1_canEncode_fc78d_0 : decode rJ1_canEncode_fc78d.2.1 0 = .ok (.iload_n 0, 1) := by decide +kernel
theorem eJ1_canEncode_fc78d_1 : decode rJ1_canEncode_fc78d.2.1 1 = .ok (.sipush 255, 3) := by decide +kernel
theorem eJ1_canEncode_fc78d_4 : decode rJ1_canEncode_fc78d.2.1 4 = .ok (.if_icmp .gt 7, 3) := by decide +kernel
theorem eJ1_canEncode_fc78d_7 : decode rJ1_canEncode_fc78d.2.1 7 = .ok (.iconst 1, 1) := by decide +kernel
theorem eJ1_canEncode_fc78d_8 : decode rJ1_canEncode_fc78d.2.1 8 = .ok (.goto 4, 3) := by decide +kernel
theorem eJ1_canEncode_fc78d_11 : decode rJ1_canEncode_fc78d.2.1 11 = .ok (.iconst 0, 1) := by decide +kernel
theorem eJ1_canEncode_fc78d_12 : decode rJ1_canEncode_fc78d.2.1 12 = .ok (.ireturn, 1) := by decide +kernel
theorem eJ4_charAt_5068e_0 : decode rJ4_charAt_5068e.2.1 0 = .ok (.aload_n 0, 1) := by decide +kernel
theorem eJ4_charAt_5068e_1 : decode rJ4_charAt_5068e.2.1 1 = .ok (.iload_n 1, 1) := by decide +kernel
theorem eJ4_charAt_5068e_2 : decode rJ4_charAt_5068e.2.1 2 = .ok (.invokespecial 329, 3) := by decide +kernel
theorem eJ4_charAt_5068e_5 : decode rJ4_charAt_5068e.2.1 5 = .ok (.ireturn, 1) := by decide +kernel
theorem eJ5_charAt_5068e_0 : decode rJ5_charAt_5068e.2.1 0 = .ok (.aload_n 0, 1) := by decide +kernel
theorem eJ5_charAt_5068e_1 : decode rJ5_charAt_5068e.2.1 1 = .ok (.getfield 22, 3) := by decide +kernel
theorem eJ5_charAt_5068e_4 : decode rJ5_charAt_5068e.2.1 4 = .ok (.istore_n 2, 1) := by decide +kernel
theorem eJ5_charAt_5068e_5 : decode rJ5_charAt_5068e.2.1 5 = .ok (.aload_n 0, 1) := by decide +kernel
theorem eJ5_charAt_5068e_6 : decode rJ5_charAt_5068e.2.1 6 = .ok (.getfield 15, 3) := by decide +kernel
theorem eJ5_charAt_5068e_9 : decode rJ5_charAt_5068e.2.1 9 = .ok (.astore_n 3, 1) := by decide +kernel
theorem eJ5_charAt_5068e_10 : decode rJ5_charAt_5068e.2.1 10 = .ok (.aload_n 0, 1) := by decide +kernel
theorem eJ5_charAt_5068e_11 : decode rJ5_charAt_5068e.2.1 11 = .ok (.getfield 79, 3) := by decide +kernel
theorem eJ5_charAt_5068e_14 : decode rJ5_charAt_5068e.2.1 14 = .ok (.aload_n 3, 1) := by decide +kernel
theorem eJ5_charAt_5068e_15 : decode rJ5_charAt_5068e.2.1 15 = .ok (.arraylength, 1) := by decide +kernel
theorem eJ5_charAt_5068e_16 : decode rJ5_charAt_5068e.2.1 16 = .ok (.iload_n 2, 1) := by decide +kernel
theorem eJ5_charAt_5068e_17 : decode rJ5_charAt_5068e.2.1 17 = .ok (.ishr, 1) := by decide +kernel
theorem eJ5_charAt_5068e_18 : decode rJ5_charAt_5068e.2.1 18 = .ok (.invokestatic 138, 3) := by decide +kernel
theorem eJ5_charAt_5068e_21 : decode rJ5_charAt_5068e.2.1 21 = .ok (.istore 4, 2) := by decide +kernel
theorem eJ5_charAt_5068e_23 : decode rJ5_charAt_5068e.2.1 23 = .ok (.iload_n 1, 1) := by decide +kernel
theorem eJ5_charAt_5068e_24 : decode rJ5_charAt_5068e.2.1 24 = .ok (.iload 4, 2) := by decide +kernel
theorem eJ5_charAt_5068e_26 : decode rJ5_charAt_5068e.2.1 26 = .ok (.invokestatic 144, 3) := by decide +kernel
theorem eJ5_charAt_5068e_29 : decode rJ5_charAt_5068e.2.1 29 = .ok (.iload_n 2, 1) := by decide +kernel
theorem eJ5_charAt_5068e_30 : decode rJ5_charAt_5068e.2.1 30 = .ok (.ifCond .ne 12, 3) := by decide +kernel
theorem eJ5_charAt_5068e_33 : decode rJ5_charAt_5068e.2.1 33 = .ok (.aload_n 3, 1) := by decide +kernel
theorem eJ5_charAt_5068e_34 : decode rJ5_charAt_5068e.2.1 34 = .ok (.iload_n 1, 1) := by decide +kernel
theorem eJ5_charAt_5068e_35 : decode rJ5_charAt_5068e.2.1 35 = .ok (.baload, 1) := by decide +kernel
theorem eJ5_charAt_5068e_36 : decode rJ5_charAt_5068e.2.1 36 = .ok (.sipush 255, 3) := by decide +kernel
theorem eJ5_charAt_5068e_39 : decode rJ5_charAt_5068e.2.1 39 = .ok (.iand, 1) := by decide +kernel
theorem eJ5_charAt_5068e_40 : decode rJ5_charAt_5068e.2.1 40 = .ok (.i2c, 1) := by decide +kernel
theorem eJ5_charAt_5068e_41 : decode rJ5_charAt_5068e.2.1 41 = .ok (.ireturn, 1) := by decide +kernel
theorem eJ5_charAt_5068e_42 : decode rJ5_charAt_5068e.2.1 42 = .ok (.aload_n 3, 1) := by decide +kernel
theorem eJ5_charAt_5068e_43 : decode rJ5_charAt_5068e.2.1 43 = .ok (.iload_n 1, 1) := by decide +kernel
theorem eJ5_charAt_5068e_44 : decode rJ5_charAt_5068e.2.1 44 = .ok (.invokestatic 148, 3) := by decide +kernel
theorem eJ5_charAt_5068e_47 : decode rJ5_charAt_5068e.2.1 47 = .ok (.ireturn, 1) := by decide +kernel
theorem eJ3_checkIndex_8e157_0 : decode rJ3_checkIndex_8e157.2.1 0 = .ok (.iload_n 0, 1) := by decide +kernel
theorem eJ3_checkIndex_8e157_1 : decode rJ3_checkIndex_8e157.2.1 1 = .ok (.ifCond .lt 8, 3) := by decide +kernel
theorem eJ3_checkIndex_8e157_4 : decode rJ3_checkIndex_8e157.2.1 4 = .ok (.iload_n 0, 1) := by decide +kernel
theorem eJ3_checkIndex_8e157_5 : decode rJ3_checkIndex_8e157.2.1 5 = .ok (.iload_n 1, 1) := by decide +kernel
theorem eJ3_checkIndex_8e157_6 : decode rJ3_checkIndex_8e157.2.1 6 = .ok (.if_icmp .lt 10, 3) := by decide +kernel
theorem eJ3_checkIndex_8e157_9 : decode rJ3_checkIndex_8e157.2.1 9 = .ok (.aload_n 2, 1) := by decide +kernel
theorem eJ3_checkIndex_8e157_10 : decode rJ3_checkIndex_8e157.2.1 10 = .ok (.iload_n 0, 1) := by decide +kernel
theorem eJ3_checkIndex_8e157_11 : decode rJ3_checkIndex_8e157.2.1 11 = .ok (.iload_n 1, 1) := by decide +kernel
theorem eJ3_checkIndex_8e157_12 : decode rJ3_checkIndex_8e157.2.1 12 = .ok (.invokestatic 95, 3) := by decide +kernel
theorem eJ3_checkIndex_8e157_15 : decode rJ3_checkIndex_8e157.2.1 15 = .ok (.athrow, 1) := by decide +kernel
theorem eJ3_checkIndex_8e157_16 : decode rJ3_checkIndex_8e157.2.1 16 = .ok (.iload_n 0, 1) := by decide +kernel
theorem eJ3_checkIndex_8e157_17 : decode rJ3_checkIndex_8e157.2.1 17 = .ok (.ireturn, 1) := by decide +kernel
theorem eJ4_length_8abf5_0 : decode rJ4_length_8abf5.2.1 0 = .ok (.aload_n 0, 1) := by decide +kernel
theorem eJ4_length_8abf5_1 : decode rJ4_length_8abf5.2.1 1 = .ok (.invokespecial 343, 3) := by decide +kernel
theorem eJ4_length_8abf5_4 : decode rJ4_length_8abf5.2.1 4 = .ok (.ireturn, 1) := by decide +kernel
theorem eJ4_setLength_d00df_0 : decode rJ4_setLength_d00df.2.1 0 = .ok (.aload_n 0, 1) := by decide +kernel
theorem eJ4_setLength_d00df_1 : decode rJ4_setLength_d00df.2.1 1 = .ok (.iload_n 1, 1) := by decide +kernel
theorem eJ4_setLength_d00df_2 : decode rJ4_setLength_d00df.2.1 2 = .ok (.invokespecial 333, 3) := by decide +kernel
theorem eJ4_setLength_d00df_5 : decode rJ4_setLength_d00df.2.1 5 = .ok (.return_, 1) := by decide +kernel
theorem eJ5_setLength_d00df_0 : decode rJ5_setLength_d00df.2.1 0 = .ok (.iload_n 1, 1) := by decide +kernel
theorem eJ5_setLength_d00df_1 : decode rJ5_setLength_d00df.2.1 1 = .ok (.ifCond .ge 12, 3) := by decide +kernel
theorem eJ5_setLength_d00df_4 : decode rJ5_setLength_d00df.2.1 4 = .ok (.new 129, 3) := by decide +kernel
theorem eJ5_setLength_d00df_7 : decode rJ5_setLength_d00df.2.1 7 = .ok (.dup, 1) := by decide +kernel
theorem eJ5_setLength_d00df_8 : decode rJ5_setLength_d00df.2.1 8 = .ok (.iload_n 1, 1) := by decide +kernel
theorem eJ5_setLength_d00df_9 : decode rJ5_setLength_d00df.2.1 9 = .ok (.invokespecial 131, 3) := by decide +kernel
theorem eJ5_setLength_d00df_12 : decode rJ5_setLength_d00df.2.1 12 = .ok (.athrow, 1) := by decide +kernel
theorem eJ5_setLength_d00df_13 : decode rJ5_setLength_d00df.2.1 13 = .ok (.aload_n 0, 1) := by decide +kernel
theorem eJ5_setLength_d00df_14 : decode rJ5_setLength_d00df.2.1 14 = .ok (.iload_n 1, 1) := by decide +kernel
theorem eJ5_setLength_d00df_15 : decode rJ5_setLength_d00df.2.1 15 = .ok (.invokevirtual 100, 3) := by decide +kernel
theorem eJ5_setLength_d00df_18 : decode rJ5_setLength_d00df.2.1 18 = .ok (.aload_n 0, 1) := by decide +kernel
theorem eJ5_setLength_d00df_19 : decode rJ5_setLength_d00df.2.1 19 = .ok (.getfield 79, 3) := by decide +kernel
theorem eJ5_setLength_d00df_22 : decode rJ5_setLength_d00df.2.1 22 = .ok (.iload_n 1, 1) := by decide +kernel
theorem eJ5_setLength_d00df_23 : decode rJ5_setLength_d00df.2.1 23 = .ok (.if_icmp .ge 40, 3) := by decide +kernel
theorem eJ5_setLength_d00df_26 : decode rJ5_setLength_d00df.2.1 26 = .ok (.aload_n 0, 1) := by decide +kernel
theorem eJ5_setLength_d00df_27 : decode rJ5_setLength_d00df.2.1 27 = .ok (.invokevirtual 83, 3) := by decide +kernel
theorem eJ5_setLength_d00df_30 : decode rJ5_setLength_d00df.2.1 30 = .ok (.ifCond .eq 18, 3) := by decide +kernel
theorem eJ5_setLength_d00df_33 : decode rJ5_setLength_d00df.2.1 33 = .ok (.aload_n 0, 1) := by decide +kernel
theorem eJ5_setLength_d00df_34 : decode rJ5_setLength_d00df.2.1 34 = .ok (.getfield 15, 3) := by decide +kernel
theorem eJ5_setLength_d00df_37 : decode rJ5_setLength_d00df.2.1 37 = .ok (.aload_n 0, 1) := by decide +kernel
theorem eJ5_setLength_d00df_38 : decode rJ5_setLength_d00df.2.1 38 = .ok (.getfield 79, 3) := by decide +kernel
theorem eJ5_setLength_d00df_41 : decode rJ5_setLength_d00df.2.1 41 = .ok (.iload_n 1, 1) := by decide +kernel
theorem eJ5_setLength_d00df_42 : decode rJ5_setLength_d00df.2.1 42 = .ok (.invokestatic 133, 3) := by decide +kernel
theorem eJ5_setLength_d00df_45 : decode rJ5_setLength_d00df.2.1 45 = .ok (.goto 31, 3) := by decide +kernel
theorem eJ5_setLength_d00df_48 : decode rJ5_setLength_d00df.2.1 48 = .ok (.aload_n 0, 1) := by decide +kernel
theorem eJ5_setLength_d00df_49 : decode rJ5_setLength_d00df.2.1 49 = .ok (.getfield 15, 3) := by decide +kernel
theorem eJ5_setLength_d00df_52 : decode rJ5_setLength_d00df.2.1 52 = .ok (.aload_n 0, 1) := by decide +kernel
theorem eJ5_setLength_d00df_53 : decode rJ5_setLength_d00df.2.1 53 = .ok (.getfield 79, 3) := by decide +kernel
theorem eJ5_setLength_d00df_56 : decode rJ5_setLength_d00df.2.1 56 = .ok (.iload_n 1, 1) := by decide +kernel
theorem eJ5_setLength_d00df_57 : decode rJ5_setLength_d00df.2.1 57 = .ok (.invokestatic 137, 3) := by decide +kernel
theorem eJ5_setLength_d00df_60 : decode rJ5_setLength_d00df.2.1 60 = .ok (.goto 16, 3) := by decide +kernel
theorem eJ5_setLength_d00df_63 : decode rJ5_setLength_d00df.2.1 63 = .ok (.aload_n 0, 1) := by decide +kernel
theorem eJ5_setLength_d00df_64 : decode rJ5_setLength_d00df.2.1 64 = .ok (.getfield 79, 3) := by decide +kernel
theorem eJ5_setLength_d00df_67 : decode rJ5_setLength_d00df.2.1 67 = .ok (.iload_n 1, 1) := by decide +kernel
theorem eJ5_setLength_d00df_68 : decode rJ5_setLength_d00df.2.1 68 = .ok (.if_icmp .le 8, 3) := by decide +kernel
theorem eJ5_setLength_d00df_71 : decode rJ5_setLength_d00df.2.1 71 = .ok (.aload_n 0, 1) := by decide +kernel
theorem eJ5_setLength_d00df_72 : decode rJ5_setLength_d00df.2.1 72 = .ok (.iconst 1, 1) := by decide +kernel
theorem eJ5_setLength_d00df_73 : decode rJ5_setLength_d00df.2.1 73 = .ok (.putfield 73, 3) := by decide +kernel
theorem eJ5_setLength_d00df_76 : decode rJ5_setLength_d00df.2.1 76 = .ok (.aload_n 0, 1) := by decide +kernel
theorem eJ5_setLength_d00df_77 : decode rJ5_setLength_d00df.2.1 77 = .ok (.iload_n 1, 1) := by decide +kernel
theorem eJ5_setLength_d00df_78 : decode rJ5_setLength_d00df.2.1 78 = .ok (.putfield 79, 3) := by decide +kernel
theorem eJ5_setLength_d00df_81 : decode rJ5_setLength_d00df.2.1 81 = .ok (.return_, 1) := by decide +kernel
theorem eJ0_length_8abf5_0 : decode rJ0_length_8abf5.2.1 0 = .ok (.aload_n 0, 1) := by decide +kernel
theorem eJ0_length_8abf5_1 : decode rJ0_length_8abf5.2.1 1 = .ok (.getfield 9, 3) := by decide +kernel
theorem eJ0_length_8abf5_4 : decode rJ0_length_8abf5.2.1 4 = .ok (.arraylength, 1) := by decide +kernel
theorem eJ0_length_8abf5_5 : decode rJ0_length_8abf5.2.1 5 = .ok (.aload_n 0, 1) := by decide +kernel
theorem eJ0_length_8abf5_6 : decode rJ0_length_8abf5.2.1 6 = .ok (.invokevirtual 335, 3) := by decide +kernel
theorem eJ0_length_8abf5_9 : decode rJ0_length_8abf5.2.1 9 = .ok (.ishr, 1) := by decide +kernel
theorem eJ0_length_8abf5_10 : decode rJ0_length_8abf5.2.1 10 = .ok (.ireturn, 1) := by decide +kernel
theorem eJ0_coder_7d493_0 : decode rJ0_coder_7d493.2.1 0 = .ok (.getstatic 38, 3) := by decide +kernel
theorem eJ0_coder_7d493_3 : decode rJ0_coder_7d493.2.1 3 = .ok (.ifCond .eq 10, 3) := by decide +kernel
theorem eJ0_coder_7d493_6 : decode rJ0_coder_7d493.2.1 6 = .ok (.aload_n 0, 1) := by decide +kernel
theorem eJ0_coder_7d493_7 : decode rJ0_coder_7d493.2.1 7 = .ok (.getfield 15, 3) := by decide +kernel
theorem eJ0_coder_7d493_10 : decode rJ0_coder_7d493.2.1 10 = .ok (.goto 4, 3) := by decide +kernel
theorem eJ0_coder_7d493_13 : decode rJ0_coder_7d493.2.1 13 = .ok (.iconst 1, 1) := by decide +kernel
theorem eJ0_coder_7d493_14 : decode rJ0_coder_7d493.2.1 14 = .ok (.ireturn, 1) := by decide +kernel
theorem eJ0_charAt_5068e_0 : decode rJ0_charAt_5068e.2.1 0 = .ok (.aload_n 0, 1) := by decide +kernel
theorem eJ0_charAt_5068e_1 : decode rJ0_charAt_5068e.2.1 1 = .ok (.invokevirtual 492, 3) := by decide +kernel
theorem eJ0_charAt_5068e_4 : decode rJ0_charAt_5068e.2.1 4 = .ok (.ifCond .eq 12, 3) := by decide +kernel
theorem eJ0_charAt_5068e_7 : decode rJ0_charAt_5068e.2.1 7 = .ok (.aload_n 0, 1) := by decide +kernel
theorem eJ0_charAt_5068e_8 : decode rJ0_charAt_5068e.2.1 8 = .ok (.getfield 9, 3) := by decide +kernel
theorem eJ0_charAt_5068e_11 : decode rJ0_charAt_5068e.2.1 11 = .ok (.iload_n 1, 1) := by decide +kernel
theorem eJ0_charAt_5068e_12 : decode rJ0_charAt_5068e.2.1 12 = .ok (.invokestatic 495, 3) := by decide +kernel
theorem eJ0_charAt_5068e_15 : decode rJ0_charAt_5068e.2.1 15 = .ok (.ireturn, 1) := by decide +kernel
theorem eJ0_charAt_5068e_16 : decode rJ0_charAt_5068e.2.1 16 = .ok (.aload_n 0, 1) := by decide +kernel
theorem eJ0_charAt_5068e_17 : decode rJ0_charAt_5068e.2.1 17 = .ok (.getfield 9, 3) := by decide +kernel
theorem eJ0_charAt_5068e_20 : decode rJ0_charAt_5068e.2.1 20 = .ok (.iload_n 1, 1) := by decide +kernel
theorem eJ0_charAt_5068e_21 : decode rJ0_charAt_5068e.2.1 21 = .ok (.invokestatic 498, 3) := by decide +kernel
theorem eJ0_charAt_5068e_24 : decode rJ0_charAt_5068e.2.1 24 = .ok (.ireturn, 1) := by decide +kernel
theorem eJ0_isLatin1_aae02_0 : decode rJ0_isLatin1_aae02.2.1 0 = .ok (.getstatic 38, 3) := by decide +kernel
theorem eJ0_isLatin1_aae02_3 : decode rJ0_isLatin1_aae02.2.1 3 = .ok (.ifCond .eq 14, 3) := by decide +kernel
theorem eJ0_isLatin1_aae02_6 : decode rJ0_isLatin1_aae02.2.1 6 = .ok (.aload_n 0, 1) := by decide +kernel
theorem eJ0_isLatin1_aae02_7 : decode rJ0_isLatin1_aae02.2.1 7 = .ok (.getfield 15, 3) := by decide +kernel
theorem eJ0_isLatin1_aae02_10 : decode rJ0_isLatin1_aae02.2.1 10 = .ok (.ifCond .ne 7, 3) := by decide +kernel
theorem eJ0_isLatin1_aae02_13 : decode rJ0_isLatin1_aae02.2.1 13 = .ok (.iconst 1, 1) := by decide +kernel
theorem eJ0_isLatin1_aae02_14 : decode rJ0_isLatin1_aae02.2.1 14 = .ok (.goto 4, 3) := by decide +kernel
theorem eJ0_isLatin1_aae02_17 : decode rJ0_isLatin1_aae02.2.1 17 = .ok (.iconst 0, 1) := by decide +kernel
theorem eJ0_isLatin1_aae02_18 : decode rJ0_isLatin1_aae02.2.1 18 = .ok (.ireturn, 1) := by decide +kernel
theorem eJ1_charAt_3b067_0 : decode rJ1_charAt_3b067.2.1 0 = .ok (.iload_n 1, 1) := by decide +kernel
theorem eJ1_charAt_3b067_1 : decode rJ1_charAt_3b067.2.1 1 = .ok (.aload_n 0, 1) := by decide +kernel
theorem eJ1_charAt_3b067_2 : decode rJ1_charAt_3b067.2.1 2 = .ok (.arraylength, 1) := by decide +kernel
theorem eJ1_charAt_3b067_3 : decode rJ1_charAt_3b067.2.1 3 = .ok (.invokestatic 9, 3) := by decide +kernel
theorem eJ1_charAt_3b067_6 : decode rJ1_charAt_3b067.2.1 6 = .ok (.aload_n 0, 1) := by decide +kernel
theorem eJ1_charAt_3b067_7 : decode rJ1_charAt_3b067.2.1 7 = .ok (.iload_n 1, 1) := by decide +kernel
theorem eJ1_charAt_3b067_8 : decode rJ1_charAt_3b067.2.1 8 = .ok (.baload, 1) := by decide +kernel
theorem eJ1_charAt_3b067_9 : decode rJ1_charAt_3b067.2.1 9 = .ok (.sipush 255, 3) := by decide +kernel
theorem eJ1_charAt_3b067_12 : decode rJ1_charAt_3b067.2.1 12 = .ok (.iand, 1) := by decide +kernel
theorem eJ1_charAt_3b067_13 : decode rJ1_charAt_3b067.2.1 13 = .ok (.i2c, 1) := by decide +kernel
theorem eJ1_charAt_3b067_14 : decode rJ1_charAt_3b067.2.1 14 = .ok (.ireturn, 1) := by decide +kernel
theorem eJ0_checkIndex_df160_0 : decode rJ0_checkIndex_df160.2.1 0 = .ok (.iload_n 0, 1) := by decide +kernel
theorem eJ0_checkIndex_df160_1 : decode rJ0_checkIndex_df160.2.1 1 = .ok (.iload_n 1, 1) := by decide +kernel
theorem eJ0_checkIndex_df160_2 : decode rJ0_checkIndex_df160.2.1 2 = .ok (.getstatic 1053, 3) := by decide +kernel
theorem eJ0_checkIndex_df160_5 : decode rJ0_checkIndex_df160.2.1 5 = .ok (.invokestatic 1059, 3) := by decide +kernel
theorem eJ0_checkIndex_df160_8 : decode rJ0_checkIndex_df160.2.1 8 = .ok (.pop, 1) := by decide +kernel
theorem eJ0_checkIndex_df160_9 : decode rJ0_checkIndex_df160.2.1 9 = .ok (.return_, 1) := by decide +kernel
theorem eJxa1e45_init_da8c8_0 : decode rJxa1e45_init_da8c8.2.1 0 = .ok (.aload_n 0, 1) := by decide +kernel
theorem eJxa1e45_init_da8c8_1 : decode rJxa1e45_init_da8c8.2.1 1 = .ok (.invokespecial 1, 3) := by decide +kernel
theorem eJxa1e45_init_da8c8_4 : decode rJxa1e45_init_da8c8.2.1 4 = .ok (.return_, 1) := by decide +kernel
theorem eJxc12de_init_da8c8_0 : decode rJxc12de_init_da8c8.2.1 0 = .ok (.aload_n 0, 1) := by decide +kernel
theorem eJxc12de_init_da8c8_1 : decode rJxc12de_init_da8c8.2.1 1 = .ok (.invokespecial 1, 3) := by decide +kernel
theorem eJxc12de_init_da8c8_4 : decode rJxc12de_init_da8c8.2.1 4 = .ok (.aload_n 0, 1) := by decide +kernel
theorem eJxc12de_init_da8c8_5 : decode rJxc12de_init_da8c8.2.1 5 = .ok (.iconst 0, 1) := by decide +kernel
theorem eJxc12de_init_da8c8_6 : decode rJxc12de_init_da8c8.2.1 6 = .ok (.putfield 7, 3) := by decide +kernel
theorem eJxc12de_init_da8c8_9 : decode rJxc12de_init_da8c8.2.1 9 = .ok (.return_, 1) := by decide +kernel
theorem eJx4a65c_init_da8c8_0 : decode rJx4a65c_init_da8c8.2.1 0 = .ok (.aload_n 0, 1) := by decide +kernel
theorem eJx4a65c_init_da8c8_1 : decode rJx4a65c_init_da8c8.2.1 1 = .ok (.invokespecial 1, 3) := by decide +kernel
theorem eJx4a65c_init_da8c8_4 : decode rJx4a65c_init_da8c8.2.1 4 = .ok (.aload_n 0, 1) := by decide +kernel
theorem eJx4a65c_init_da8c8_5 : decode rJx4a65c_init_da8c8.2.1 5 = .ok (.getstatic 39, 3) := by decide +kernel
theorem eJx4a65c_init_da8c8_8 : decode rJx4a65c_init_da8c8.2.1 8 = .ok (.putfield 9, 3) := by decide +kernel
theorem eJx4a65c_init_da8c8_11 : decode rJx4a65c_init_da8c8.2.1 11 = .ok (.return_, 1) := by decide +kernel
theorem eJx4a65c_grow_92f84_0 : decode rJx4a65c_grow_92f84.2.1 0 = .ok (.aload_n 0, 1) := by decide +kernel
theorem eJx4a65c_grow_92f84_1 : decode rJx4a65c_grow_92f84.2.1 1 = .ok (.getfield 9, 3) := by decide +kernel
theorem eJx4a65c_grow_92f84_4 : decode rJx4a65c_grow_92f84.2.1 4 = .ok (.arraylength, 1) := by decide +kernel
theorem eJx4a65c_grow_92f84_5 : decode rJx4a65c_grow_92f84.2.1 5 = .ok (.istore_n 2, 1) := by decide +kernel
theorem eJx4a65c_grow_92f84_6 : decode rJx4a65c_grow_92f84.2.1 6 = .ok (.iload_n 2, 1) := by decide +kernel
theorem eJx4a65c_grow_92f84_7 : decode rJx4a65c_grow_92f84.2.1 7 = .ok (.ifCond .gt 13, 3) := by decide +kernel
theorem eJx4a65c_grow_92f84_10 : decode rJx4a65c_grow_92f84.2.1 10 = .ok (.aload_n 0, 1) := by decide +kernel
theorem eJx4a65c_grow_92f84_11 : decode rJx4a65c_grow_92f84.2.1 11 = .ok (.getfield 9, 3) := by decide +kernel
theorem eJx4a65c_grow_92f84_14 : decode rJx4a65c_grow_92f84.2.1 14 = .ok (.getstatic 39, 3) := by decide +kernel
theorem eJx4a65c_grow_92f84_17 : decode rJx4a65c_grow_92f84.2.1 17 = .ok (.if_acmp .eq 28, 3) := by decide +kernel
theorem eJx4a65c_grow_92f84_20 : decode rJx4a65c_grow_92f84.2.1 20 = .ok (.iload_n 2, 1) := by decide +kernel
theorem eJx4a65c_grow_92f84_21 : decode rJx4a65c_grow_92f84.2.1 21 = .ok (.iload_n 1, 1) := by decide +kernel
theorem eJx4a65c_grow_92f84_22 : decode rJx4a65c_grow_92f84.2.1 22 = .ok (.iload_n 2, 1) := by decide +kernel
theorem eJx4a65c_grow_92f84_23 : decode rJx4a65c_grow_92f84.2.1 23 = .ok (.isub, 1) := by decide +kernel
theorem eJx4a65c_grow_92f84_24 : decode rJx4a65c_grow_92f84.2.1 24 = .ok (.iload_n 2, 1) := by decide +kernel
theorem eJx4a65c_grow_92f84_25 : decode rJx4a65c_grow_92f84.2.1 25 = .ok (.iconst 1, 1) := by decide +kernel
theorem eJx4a65c_grow_92f84_26 : decode rJx4a65c_grow_92f84.2.1 26 = .ok (.ishr, 1) := by decide +kernel
theorem eJx4a65c_grow_92f84_27 : decode rJx4a65c_grow_92f84.2.1 27 = .ok (.invokestatic 73, 3) := by decide +kernel
theorem eJx4a65c_grow_92f84_30 : decode rJx4a65c_grow_92f84.2.1 30 = .ok (.istore_n 3, 1) := by decide +kernel
theorem eJx4a65c_grow_92f84_31 : decode rJx4a65c_grow_92f84.2.1 31 = .ok (.aload_n 0, 1) := by decide +kernel
theorem eJx4a65c_grow_92f84_32 : decode rJx4a65c_grow_92f84.2.1 32 = .ok (.aload_n 0, 1) := by decide +kernel
theorem eJx4a65c_grow_92f84_33 : decode rJx4a65c_grow_92f84.2.1 33 = .ok (.getfield 9, 3) := by decide +kernel
theorem eJx4a65c_grow_92f84_36 : decode rJx4a65c_grow_92f84.2.1 36 = .ok (.iload_n 3, 1) := by decide +kernel
theorem eJx4a65c_grow_92f84_37 : decode rJx4a65c_grow_92f84.2.1 37 = .ok (.invokestatic 66, 3) := by decide +kernel
theorem eJx4a65c_grow_92f84_40 : decode rJx4a65c_grow_92f84.2.1 40 = .ok (.dup_x1, 1) := by decide +kernel
theorem eJx4a65c_grow_92f84_41 : decode rJx4a65c_grow_92f84.2.1 41 = .ok (.putfield 9, 3) := by decide +kernel
theorem eJx4a65c_grow_92f84_44 : decode rJx4a65c_grow_92f84.2.1 44 = .ok (.areturn, 1) := by decide +kernel
theorem eJx4a65c_grow_92f84_45 : decode rJx4a65c_grow_92f84.2.1 45 = .ok (.aload_n 0, 1) := by decide +kernel
theorem eJx4a65c_grow_92f84_46 : decode rJx4a65c_grow_92f84.2.1 46 = .ok (.bipush 10, 2) := by decide +kernel
theorem eJx4a65c_grow_92f84_48 : decode rJx4a65c_grow_92f84.2.1 48 = .ok (.iload_n 1, 1) := by decide +kernel
theorem eJx4a65c_grow_92f84_49 : decode rJx4a65c_grow_92f84.2.1 49 = .ok (.invokestatic 79, 3) := by decide +kernel
theorem eJx4a65c_grow_92f84_52 : decode rJx4a65c_grow_92f84.2.1 52 = .ok (.anewarray 7, 3) := by decide +kernel
theorem eJx4a65c_grow_92f84_55 : decode rJx4a65c_grow_92f84.2.1 55 = .ok (.dup_x1, 1) := by decide +kernel
theorem eJx4a65c_grow_92f84_56 : decode rJx4a65c_grow_92f84.2.1 56 = .ok (.putfield 9, 3) := by decide +kernel
theorem eJx4a65c_grow_92f84_59 : decode rJx4a65c_grow_92f84.2.1 59 = .ok (.areturn, 1) := by decide +kernel
theorem eJx4a65c_grow_d5877_0 : decode rJx4a65c_grow_d5877.2.1 0 = .ok (.aload_n 0, 1) := by decide +kernel
theorem eJx4a65c_grow_d5877_1 : decode rJx4a65c_grow_d5877.2.1 1 = .ok (.aload_n 0, 1) := by decide +kernel
theorem eJx4a65c_grow_d5877_2 : decode rJx4a65c_grow_d5877.2.1 2 = .ok (.getfield 48, 3) := by decide +kernel
theorem eJx4a65c_grow_d5877_5 : decode rJx4a65c_grow_d5877.2.1 5 = .ok (.iconst 1, 1) := by decide +kernel
theorem eJx4a65c_grow_d5877_6 : decode rJx4a65c_grow_d5877.2.1 6 = .ok (.iadd, 1) := by decide +kernel
theorem eJx4a65c_grow_d5877_7 : decode rJx4a65c_grow_d5877.2.1 7 = .ok (.invokevirtual 69, 3) := by decide +kernel
theorem eJx4a65c_grow_d5877_10 : decode rJx4a65c_grow_d5877.2.1 10 = .ok (.areturn, 1) := by decide +kernel
theorem eJx4a65c_add_72be8_0 : decode rJx4a65c_add_72be8.2.1 0 = .ok (.iload_n 3, 1) := by decide +kernel
theorem eJx4a65c_add_72be8_1 : decode rJx4a65c_add_72be8.2.1 1 = .ok (.aload_n 2, 1) := by decide +kernel
theorem eJx4a65c_add_72be8_2 : decode rJx4a65c_add_72be8.2.1 2 = .ok (.arraylength, 1) := by decide +kernel
theorem eJx4a65c_add_72be8_3 : decode rJx4a65c_add_72be8.2.1 3 = .ok (.if_icmp .ne 8, 3) := by decide +kernel
theorem eJx4a65c_add_72be8_6 : decode rJx4a65c_add_72be8.2.1 6 = .ok (.aload_n 0, 1) := by decide +kernel
theorem eJx4a65c_add_72be8_7 : decode rJx4a65c_add_72be8.2.1 7 = .ok (.invokevirtual 129, 3) := by decide +kernel
theorem eJx4a65c_add_72be8_10 : decode rJx4a65c_add_72be8.2.1 10 = .ok (.astore_n 2, 1) := by decide +kernel
theorem eJx4a65c_add_72be8_11 : decode rJx4a65c_add_72be8.2.1 11 = .ok (.aload_n 2, 1) := by decide +kernel
theorem eJx4a65c_add_72be8_12 : decode rJx4a65c_add_72be8.2.1 12 = .ok (.iload_n 3, 1) := by decide +kernel
theorem eJx4a65c_add_72be8_13 : decode rJx4a65c_add_72be8.2.1 13 = .ok (.aload_n 1, 1) := by decide +kernel
theorem eJx4a65c_add_72be8_14 : decode rJx4a65c_add_72be8.2.1 14 = .ok (.aastore, 1) := by decide +kernel
theorem eJx4a65c_add_72be8_15 : decode rJx4a65c_add_72be8.2.1 15 = .ok (.aload_n 0, 1) := by decide +kernel
theorem eJx4a65c_add_72be8_16 : decode rJx4a65c_add_72be8.2.1 16 = .ok (.iload_n 3, 1) := by decide +kernel
theorem eJx4a65c_add_72be8_17 : decode rJx4a65c_add_72be8.2.1 17 = .ok (.iconst 1, 1) := by decide +kernel
theorem eJx4a65c_add_72be8_18 : decode rJx4a65c_add_72be8.2.1 18 = .ok (.iadd, 1) := by decide +kernel
theorem eJx4a65c_add_72be8_19 : decode rJx4a65c_add_72be8.2.1 19 = .ok (.putfield 48, 3) := by decide +kernel
theorem eJx4a65c_add_72be8_22 : decode rJx4a65c_add_72be8.2.1 22 = .ok (.return_, 1) := by decide +kernel
theorem eJx4a65c_add_9ea2d_0 : decode rJx4a65c_add_9ea2d.2.1 0 = .ok (.aload_n 0, 1) := by decide +kernel
theorem eJx4a65c_add_9ea2d_1 : decode rJx4a65c_add_9ea2d.2.1 1 = .ok (.dup, 1) := by decide +kernel
theorem eJx4a65c_add_9ea2d_2 : decode rJx4a65c_add_9ea2d.2.1 2 = .ok (.getfield 63, 3) := by decide +kernel
theorem eJx4a65c_add_9ea2d_5 : decode rJx4a65c_add_9ea2d.2.1 5 = .ok (.iconst 1, 1) := by decide +kernel
theorem eJx4a65c_add_9ea2d_6 : decode rJx4a65c_add_9ea2d.2.1 6 = .ok (.iadd, 1) := by decide +kernel
theorem eJx4a65c_add_9ea2d_7 : decode rJx4a65c_add_9ea2d.2.1 7 = .ok (.putfield 63, 3) := by decide +kernel
theorem eJx4a65c_add_9ea2d_10 : decode rJx4a65c_add_9ea2d.2.1 10 = .ok (.aload_n 0, 1) := by decide +kernel
theorem eJx4a65c_add_9ea2d_11 : decode rJx4a65c_add_9ea2d.2.1 11 = .ok (.aload_n 1, 1) := by decide +kernel
theorem eJx4a65c_add_9ea2d_12 : decode rJx4a65c_add_9ea2d.2.1 12 = .ok (.aload_n 0, 1) := by decide +kernel
theorem eJx4a65c_add_9ea2d_13 : decode rJx4a65c_add_9ea2d.2.1 13 = .ok (.getfield 9, 3) := by decide +kernel
theorem eJx4a65c_add_9ea2d_16 : decode rJx4a65c_add_9ea2d.2.1 16 = .ok (.aload_n 0, 1) := by decide +kernel
theorem eJx4a65c_add_9ea2d_17 : decode rJx4a65c_add_9ea2d.2.1 17 = .ok (.getfield 48, 3) := by decide +kernel
theorem eJx4a65c_add_9ea2d_20 : decode rJx4a65c_add_9ea2d.2.1 20 = .ok (.invokevirtual 131, 3) := by decide +kernel
theorem eJx4a65c_add_9ea2d_23 : decode rJx4a65c_add_9ea2d.2.1 23 = .ok (.iconst 1, 1) := by decide +kernel
theorem eJx4a65c_add_9ea2d_24 : decode rJx4a65c_add_9ea2d.2.1 24 = .ok (.ireturn, 1) := by decide +kernel
theorem eJx4a65c_iterator_32c93_0 : decode rJx4a65c_iterator_32c93.2.1 0 = .ok (.new 267, 3) := by decide +kernel
theorem eJx4a65c_iterator_32c93_3 : decode rJx4a65c_iterator_32c93.2.1 3 = .ok (.dup, 1) := by decide +kernel
theorem eJx4a65c_iterator_32c93_4 : decode rJx4a65c_iterator_32c93.2.1 4 = .ok (.aload_n 0, 1) := by decide +kernel
theorem eJx4a65c_iterator_32c93_5 : decode rJx4a65c_iterator_32c93.2.1 5 = .ok (.invokespecial 269, 3) := by decide +kernel
theorem eJx4a65c_iterator_32c93_8 : decode rJx4a65c_iterator_32c93.2.1 8 = .ok (.areturn, 1) := by decide +kernel
theorem eJx35411_init_45d68_0 : decode rJx35411_init_45d68.2.1 0 = .ok (.aload_n 0, 1) := by decide +kernel
theorem eJx35411_init_45d68_1 : decode rJx35411_init_45d68.2.1 1 = .ok (.aload_n 1, 1) := by decide +kernel
theorem eJx35411_init_45d68_2 : decode rJx35411_init_45d68.2.1 2 = .ok (.putfield 1, 3) := by decide +kernel
theorem eJx35411_init_45d68_5 : decode rJx35411_init_45d68.2.1 5 = .ok (.aload_n 0, 1) := by decide +kernel
theorem eJx35411_init_45d68_6 : decode rJx35411_init_45d68.2.1 6 = .ok (.invokespecial 7, 3) := by decide +kernel
theorem eJx35411_init_45d68_9 : decode rJx35411_init_45d68.2.1 9 = .ok (.aload_n 0, 1) := by decide +kernel
theorem eJx35411_init_45d68_10 : decode rJx35411_init_45d68.2.1 10 = .ok (.iconst (-1), 1) := by decide +kernel
theorem eJx35411_init_45d68_11 : decode rJx35411_init_45d68.2.1 11 = .ok (.putfield 13, 3) := by decide +kernel
theorem eJx35411_init_45d68_14 : decode rJx35411_init_45d68.2.1 14 = .ok (.aload_n 0, 1) := by decide +kernel
theorem eJx35411_init_45d68_15 : decode rJx35411_init_45d68.2.1 15 = .ok (.aload_n 0, 1) := by decide +kernel
theorem eJx35411_init_45d68_16 : decode rJx35411_init_45d68.2.1 16 = .ok (.getfield 1, 3) := by decide +kernel
theorem eJx35411_init_45d68_19 : decode rJx35411_init_45d68.2.1 19 = .ok (.getfield 17, 3) := by decide +kernel
theorem eJx35411_init_45d68_22 : decode rJx35411_init_45d68.2.1 22 = .ok (.putfield 22, 3) := by decide +kernel
theorem eJx35411_init_45d68_25 : decode rJx35411_init_45d68.2.1 25 = .ok (.return_, 1) := by decide +kernel
theorem eJx35411_hasNext_aae02_0 : decode rJx35411_hasNext_aae02.2.1 0 = .ok (.aload_n 0, 1) := by decide +kernel
theorem eJx35411_hasNext_aae02_1 : decode rJx35411_hasNext_aae02.2.1 1 = .ok (.getfield 25, 3) := by decide +kernel
theorem eJx35411_hasNext_aae02_4 : decode rJx35411_hasNext_aae02.2.1 4 = .ok (.aload_n 0, 1) := by decide +kernel
theorem eJx35411_hasNext_aae02_5 : decode rJx35411_hasNext_aae02.2.1 5 = .ok (.getfield 1, 3) := by decide +kernel
theorem eJx35411_hasNext_aae02_8 : decode rJx35411_hasNext_aae02.2.1 8 = .ok (.getfield 28, 3) := by decide +kernel
theorem eJx35411_hasNext_aae02_11 : decode rJx35411_hasNext_aae02.2.1 11 = .ok (.if_icmp .eq 7, 3) := by decide +kernel
theorem eJx35411_hasNext_aae02_14 : decode rJx35411_hasNext_aae02.2.1 14 = .ok (.iconst 1, 1) := by decide +kernel
theorem eJx35411_hasNext_aae02_15 : decode rJx35411_hasNext_aae02.2.1 15 = .ok (.goto 4, 3) := by decide +kernel
theorem eJx35411_hasNext_aae02_18 : decode rJx35411_hasNext_aae02.2.1 18 = .ok (.iconst 0, 1) := by decide +kernel
theorem eJx35411_hasNext_aae02_19 : decode rJx35411_hasNext_aae02.2.1 19 = .ok (.ireturn, 1) := by decide +kernel
theorem eJx35411_next_0502b_0 : decode rJx35411_next_0502b.2.1 0 = .ok (.aload_n 0, 1) := by decide +kernel
theorem eJx35411_next_0502b_1 : decode rJx35411_next_0502b.2.1 1 = .ok (.invokevirtual 31, 3) := by decide +kernel
theorem eJx35411_next_0502b_4 : decode rJx35411_next_0502b.2.1 4 = .ok (.aload_n 0, 1) := by decide +kernel
theorem eJx35411_next_0502b_5 : decode rJx35411_next_0502b.2.1 5 = .ok (.getfield 25, 3) := by decide +kernel
theorem eJx35411_next_0502b_8 : decode rJx35411_next_0502b.2.1 8 = .ok (.istore_n 1, 1) := by decide +kernel
theorem eJx35411_next_0502b_9 : decode rJx35411_next_0502b.2.1 9 = .ok (.iload_n 1, 1) := by decide +kernel
theorem eJx35411_next_0502b_10 : decode rJx35411_next_0502b.2.1 10 = .ok (.aload_n 0, 1) := by decide +kernel
theorem eJx35411_next_0502b_11 : decode rJx35411_next_0502b.2.1 11 = .ok (.getfield 1, 3) := by decide +kernel
theorem eJx35411_next_0502b_14 : decode rJx35411_next_0502b.2.1 14 = .ok (.getfield 28, 3) := by decide +kernel
theorem eJx35411_next_0502b_17 : decode rJx35411_next_0502b.2.1 17 = .ok (.if_icmp .lt 11, 3) := by decide +kernel
theorem eJx35411_next_0502b_20 : decode rJx35411_next_0502b.2.1 20 = .ok (.new 34, 3) := by decide +kernel
theorem eJx35411_next_0502b_23 : decode rJx35411_next_0502b.2.1 23 = .ok (.dup, 1) := by decide +kernel
theorem eJx35411_next_0502b_24 : decode rJx35411_next_0502b.2.1 24 = .ok (.invokespecial 36, 3) := by decide +kernel
theorem eJx35411_next_0502b_27 : decode rJx35411_next_0502b.2.1 27 = .ok (.athrow, 1) := by decide +kernel
theorem eJx35411_next_0502b_28 : decode rJx35411_next_0502b.2.1 28 = .ok (.aload_n 0, 1) := by decide +kernel
theorem eJx35411_next_0502b_29 : decode rJx35411_next_0502b.2.1 29 = .ok (.getfield 1, 3) := by decide +kernel
theorem eJx35411_next_0502b_32 : decode rJx35411_next_0502b.2.1 32 = .ok (.getfield 37, 3) := by decide +kernel
theorem eJx35411_next_0502b_35 : decode rJx35411_next_0502b.2.1 35 = .ok (.astore_n 2, 1) := by decide +kernel
theorem eJx35411_next_0502b_36 : decode rJx35411_next_0502b.2.1 36 = .ok (.iload_n 1, 1) := by decide +kernel
theorem eJx35411_next_0502b_37 : decode rJx35411_next_0502b.2.1 37 = .ok (.aload_n 2, 1) := by decide +kernel
theorem eJx35411_next_0502b_38 : decode rJx35411_next_0502b.2.1 38 = .ok (.arraylength, 1) := by decide +kernel
theorem eJx35411_next_0502b_39 : decode rJx35411_next_0502b.2.1 39 = .ok (.if_icmp .lt 11, 3) := by decide +kernel
theorem eJx35411_next_0502b_42 : decode rJx35411_next_0502b.2.1 42 = .ok (.new 41, 3) := by decide +kernel
theorem eJx35411_next_0502b_45 : decode rJx35411_next_0502b.2.1 45 = .ok (.dup, 1) := by decide +kernel
theorem eJx35411_next_0502b_46 : decode rJx35411_next_0502b.2.1 46 = .ok (.invokespecial 43, 3) := by decide +kernel
theorem eJx35411_next_0502b_49 : decode rJx35411_next_0502b.2.1 49 = .ok (.athrow, 1) := by decide +kernel
theorem eJx35411_next_0502b_50 : decode rJx35411_next_0502b.2.1 50 = .ok (.aload_n 0, 1) := by decide +kernel
theorem eJx35411_next_0502b_51 : decode rJx35411_next_0502b.2.1 51 = .ok (.iload_n 1, 1) := by decide +kernel
theorem eJx35411_next_0502b_52 : decode rJx35411_next_0502b.2.1 52 = .ok (.iconst 1, 1) := by decide +kernel
theorem eJx35411_next_0502b_53 : decode rJx35411_next_0502b.2.1 53 = .ok (.iadd, 1) := by decide +kernel
theorem eJx35411_next_0502b_54 : decode rJx35411_next_0502b.2.1 54 = .ok (.putfield 25, 3) := by decide +kernel
theorem eJx35411_next_0502b_57 : decode rJx35411_next_0502b.2.1 57 = .ok (.aload_n 2, 1) := by decide +kernel
theorem eJx35411_next_0502b_58 : decode rJx35411_next_0502b.2.1 58 = .ok (.aload_n 0, 1) := by decide +kernel
theorem eJx35411_next_0502b_59 : decode rJx35411_next_0502b.2.1 59 = .ok (.iload_n 1, 1) := by decide +kernel
theorem eJx35411_next_0502b_60 : decode rJx35411_next_0502b.2.1 60 = .ok (.dup_x1, 1) := by decide +kernel
theorem eJx35411_next_0502b_61 : decode rJx35411_next_0502b.2.1 61 = .ok (.putfield 13, 3) := by decide +kernel
theorem eJx35411_next_0502b_64 : decode rJx35411_next_0502b.2.1 64 = .ok (.aaload, 1) := by decide +kernel
theorem eJx35411_next_0502b_65 : decode rJx35411_next_0502b.2.1 65 = .ok (.areturn, 1) := by decide +kernel
theorem eJx35411_checkForComodification_da8c8_0 : decode rJx35411_checkForComodification_da8c8.2.1 0 = .ok (.aload_n 0, 1) := by decide +kernel
theorem eJx35411_checkForComodification_da8c8_1 : decode rJx35411_checkForComodification_da8c8.2.1 1 = .ok (.getfield 1, 3) := by decide +kernel
theorem eJx35411_checkForComodification_da8c8_4 : decode rJx35411_checkForComodification_da8c8.2.1 4 = .ok (.getfield 17, 3) := by decide +kernel
theorem eJx35411_checkForComodification_da8c8_7 : decode rJx35411_checkForComodification_da8c8.2.1 7 = .ok (.aload_n 0, 1) := by decide +kernel
theorem eJx35411_checkForComodification_da8c8_8 : decode rJx35411_checkForComodification_da8c8.2.1 8 = .ok (.getfield 22, 3) := by decide +kernel
theorem eJx35411_checkForComodification_da8c8_11 : decode rJx35411_checkForComodification_da8c8.2.1 11 = .ok (.if_icmp .eq 11, 3) := by decide +kernel
theorem eJx35411_checkForComodification_da8c8_14 : decode rJx35411_checkForComodification_da8c8.2.1 14 = .ok (.new 41, 3) := by decide +kernel
theorem eJx35411_checkForComodification_da8c8_17 : decode rJx35411_checkForComodification_da8c8.2.1 17 = .ok (.dup, 1) := by decide +kernel
theorem eJx35411_checkForComodification_da8c8_18 : decode rJx35411_checkForComodification_da8c8.2.1 18 = .ok (.invokespecial 43, 3) := by decide +kernel
theorem eJx35411_checkForComodification_da8c8_21 : decode rJx35411_checkForComodification_da8c8.2.1 21 = .ok (.athrow, 1) := by decide +kernel
theorem eJx35411_checkForComodification_da8c8_22 : decode rJx35411_checkForComodification_da8c8.2.1 22 = .ok (.return_, 1) := by decide +kernel
theorem eJ7_copyOf_1904c_0 : decode rJ7_copyOf_1904c.2.1 0 = .ok (.aload_n 0, 1) := by decide +kernel
theorem eJ7_copyOf_1904c_1 : decode rJ7_copyOf_1904c.2.1 1 = .ok (.iload_n 1, 1) := by decide +kernel
theorem eJ7_copyOf_1904c_2 : decode rJ7_copyOf_1904c.2.1 2 = .ok (.aload_n 0, 1) := by decide +kernel
theorem eJ7_copyOf_1904c_3 : decode rJ7_copyOf_1904c.2.1 3 = .ok (.invokevirtual 86, 3) := by decide +kernel
theorem eJ7_copyOf_1904c_6 : decode rJ7_copyOf_1904c.2.1 6 = .ok (.invokestatic 300, 3) := by decide +kernel
theorem eJ7_copyOf_1904c_9 : decode rJ7_copyOf_1904c.2.1 9 = .ok (.areturn, 1) := by decide +kernel
theorem eJ7_copyOf_6403c_0 : decode rJ7_copyOf_6403c.2.1 0 = .ok (.aload_n 2, 1) := by decide +kernel
theorem eJ7_copyOf_6403c_1 : decode rJ7_copyOf_6403c.2.1 1 = .ok (.ldc 110, 2) := by decide +kernel
theorem eJ7_copyOf_6403c_3 : decode rJ7_copyOf_6403c.2.1 3 = .ok (.if_acmp .ne 10, 3) := by decide +kernel
theorem eJ7_copyOf_6403c_6 : decode rJ7_copyOf_6403c.2.1 6 = .ok (.iload_n 1, 1) := by decide +kernel
theorem eJ7_copyOf_6403c_7 : decode rJ7_copyOf_6403c.2.1 7 = .ok (.anewarray 2, 3) := by decide +kernel
theorem eJ7_copyOf_6403c_10 : decode rJ7_copyOf_6403c.2.1 10 = .ok (.goto 14, 3) := by decide +kernel
theorem eJ7_copyOf_6403c_13 : decode rJ7_copyOf_6403c.2.1 13 = .ok (.aload_n 2, 1) := by decide +kernel
theorem eJ7_copyOf_6403c_14 : decode rJ7_copyOf_6403c.2.1 14 = .ok (.invokevirtual 90, 3) := by decide +kernel
theorem eJ7_copyOf_6403c_17 : decode rJ7_copyOf_6403c.2.1 17 = .ok (.iload_n 1, 1) := by decide +kernel
theorem eJ7_copyOf_6403c_18 : decode rJ7_copyOf_6403c.2.1 18 = .ok (.invokestatic 95, 3) := by decide +kernel
theorem eJ7_copyOf_6403c_21 : decode rJ7_copyOf_6403c.2.1 21 = .ok (.checkcast 110, 3) := by decide +kernel
theorem eJ7_copyOf_6403c_24 : decode rJ7_copyOf_6403c.2.1 24 = .ok (.astore_n 3, 1) := by decide +kernel
theorem eJ7_copyOf_6403c_25 : decode rJ7_copyOf_6403c.2.1 25 = .ok (.aload_n 0, 1) := by decide +kernel
theorem eJ7_copyOf_6403c_26 : decode rJ7_copyOf_6403c.2.1 26 = .ok (.iconst 0, 1) := by decide +kernel
theorem eJ7_copyOf_6403c_27 : decode rJ7_copyOf_6403c.2.1 27 = .ok (.aload_n 3, 1) := by decide +kernel
theorem eJ7_copyOf_6403c_28 : decode rJ7_copyOf_6403c.2.1 28 = .ok (.iconst 0, 1) := by decide +kernel
theorem eJ7_copyOf_6403c_29 : decode rJ7_copyOf_6403c.2.1 29 = .ok (.aload_n 0, 1) := by decide +kernel
theorem eJ7_copyOf_6403c_30 : decode rJ7_copyOf_6403c.2.1 30 = .ok (.arraylength, 1) := by decide +kernel
theorem eJ7_copyOf_6403c_31 : decode rJ7_copyOf_6403c.2.1 31 = .ok (.iload_n 1, 1) := by decide +kernel
theorem eJ7_copyOf_6403c_32 : decode rJ7_copyOf_6403c.2.1 32 = .ok (.invokestatic 304, 3) := by decide +kernel
theorem eJ7_copyOf_6403c_35 : decode rJ7_copyOf_6403c.2.1 35 = .ok (.invokestatic 150, 3) := by decide +kernel
theorem eJ7_copyOf_6403c_38 : decode rJ7_copyOf_6403c.2.1 38 = .ok (.aload_n 3, 1) := by decide +kernel
theorem eJ7_copyOf_6403c_39 : decode rJ7_copyOf_6403c.2.1 39 = .ok (.areturn, 1) := by decide +kernel
theorem eJ6_compare_7cf53_0 : decode rJ6_compare_7cf53.2.1 0 = .ok (.iload_n 0, 1) := by decide +kernel
theorem eJ6_compare_7cf53_1 : decode rJ6_compare_7cf53.2.1 1 = .ok (.iload_n 1, 1) := by decide +kernel
theorem eJ6_compare_7cf53_2 : decode rJ6_compare_7cf53.2.1 2 = .ok (.if_icmp .ge 7, 3) := by decide +kernel
theorem eJ6_compare_7cf53_5 : decode rJ6_compare_7cf53.2.1 5 = .ok (.iconst (-1), 1) := by decide +kernel
theorem eJ6_compare_7cf53_6 : decode rJ6_compare_7cf53.2.1 6 = .ok (.goto 13, 3) := by decide +kernel
theorem eJ6_compare_7cf53_9 : decode rJ6_compare_7cf53.2.1 9 = .ok (.iload_n 0, 1) := by decide +kernel
theorem eJ6_compare_7cf53_10 : decode rJ6_compare_7cf53.2.1 10 = .ok (.iload_n 1, 1) := by decide +kernel
theorem eJ6_compare_7cf53_11 : decode rJ6_compare_7cf53.2.1 11 = .ok (.if_icmp .ne 7, 3) := by decide +kernel
theorem eJ6_compare_7cf53_14 : decode rJ6_compare_7cf53.2.1 14 = .ok (.iconst 0, 1) := by decide +kernel
theorem eJ6_compare_7cf53_15 : decode rJ6_compare_7cf53.2.1 15 = .ok (.goto 4, 3) := by decide +kernel
theorem eJ6_compare_7cf53_18 : decode rJ6_compare_7cf53.2.1 18 = .ok (.iconst 1, 1) := by decide +kernel
theorem eJ6_compare_7cf53_19 : decode rJ6_compare_7cf53.2.1 19 = .ok (.ireturn, 1) := by decide +kernel
