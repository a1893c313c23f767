theorem eJ4_init_da8c8_0 : decode rJ4_init_da8c8.2.1 0 = .ok (.aload_n 0, 1) := by decide +kernel
theorem eJ4_init_da8c8_1 : decode rJ4_init_da8c8.2.1 1 = .ok (.bipush 16, 2) := by decide +kernel
theorem eJ4_init_da8c8_3 : decode rJ4_init_da8c8.2.1 3 = .ok (.invokespecial 1, 3) := by decide +kernel
theorem eJ4_init_da8c8_6 : decode rJ4_init_da8c8.2.1 6 = .ok (.return_, 1) := by decide +kernel
theorem eJ5_init_d00df_0 : decode rJ5_init_d00df.2.1 0 = .ok (.aload_n 0, 1) := by decide +kernel
theorem eJ5_init_d00df_1 : decode rJ5_init_d00df.2.1 1 = .ok (.invokespecial 3, 3) := by decide +kernel
theorem eJ5_init_d00df_4 : decode rJ5_init_d00df.2.1 4 = .ok (.getstatic 18, 3) := by decide +kernel
theorem eJ5_init_d00df_7 : decode rJ5_init_d00df.2.1 7 = .ok (.ifCond .eq 18, 3) := by decide +kernel
theorem eJ5_init_d00df_10 : decode rJ5_init_d00df.2.1 10 = .ok (.aload_n 0, 1) := by decide +kernel
theorem eJ5_init_d00df_11 : decode rJ5_init_d00df.2.1 11 = .ok (.iload_n 1, 1) := by decide +kernel
theorem eJ5_init_d00df_12 : decode rJ5_init_d00df.2.1 12 = .ok (.newarray .byte, 2) := by decide +kernel
theorem eJ5_init_d00df_14 : decode rJ5_init_d00df.2.1 14 = .ok (.putfield 15, 3) := by decide +kernel
theorem eJ5_init_d00df_17 : decode rJ5_init_d00df.2.1 17 = .ok (.aload_n 0, 1) := by decide +kernel
theorem eJ5_init_d00df_18 : decode rJ5_init_d00df.2.1 18 = .ok (.iconst 0, 1) := by decide +kernel
theorem eJ5_init_d00df_19 : decode rJ5_init_d00df.2.1 19 = .ok (.putfield 22, 3) := by decide +kernel
theorem eJ5_init_d00df_22 : decode rJ5_init_d00df.2.1 22 = .ok (.goto 16, 3) := by decide +kernel
theorem eJ5_init_d00df_25 : decode rJ5_init_d00df.2.1 25 = .ok (.aload_n 0, 1) := by decide +kernel
theorem eJ5_init_d00df_26 : decode rJ5_init_d00df.2.1 26 = .ok (.iload_n 1, 1) := by decide +kernel
theorem eJ5_init_d00df_27 : decode rJ5_init_d00df.2.1 27 = .ok (.invokestatic 26, 3) := by decide +kernel
theorem eJ5_init_d00df_30 : decode rJ5_init_d00df.2.1 30 = .ok (.putfield 15, 3) := by decide +kernel
theorem eJ5_init_d00df_33 : decode rJ5_init_d00df.2.1 33 = .ok (.aload_n 0, 1) := by decide +kernel
theorem eJ5_init_d00df_34 : decode rJ5_init_d00df.2.1 34 = .ok (.iconst 1, 1) := by decide +kernel
theorem eJ5_init_d00df_35 : decode rJ5_init_d00df.2.1 35 = .ok (.putfield 22, 3) := by decide +kernel
theorem eJ5_init_d00df_38 : decode rJ5_init_d00df.2.1 38 = .ok (.return_, 1) := by decide +kernel
theorem eJ4_append_cf468_0 : decode rJ4_append_cf468.2.1 0 = .ok (.aload_n 0, 1) := by decide +kernel
theorem eJ4_append_cf468_1 : decode rJ4_append_cf468.2.1 1 = .ok (.iload_n 1, 1) := by decide +kernel
theorem eJ4_append_cf468_2 : decode rJ4_append_cf468.2.1 2 = .ok (.invokespecial 50, 3) := by decide +kernel
theorem eJ4_append_cf468_5 : decode rJ4_append_cf468.2.1 5 = .ok (.pop, 1) := by decide +kernel
theorem eJ4_append_cf468_6 : decode rJ4_append_cf468.2.1 6 = .ok (.aload_n 0, 1) := by decide +kernel
theorem eJ4_append_cf468_7 : decode rJ4_append_cf468.2.1 7 = .ok (.areturn, 1) := by decide +kernel
theorem eJ5_append_3fe6f_0 : decode rJ5_append_3fe6f.2.1 0 = .ok (.aload_n 0, 1) := by decide +kernel
theorem eJ5_append_3fe6f_1 : decode rJ5_append_3fe6f.2.1 1 = .ok (.aload_n 0, 1) := by decide +kernel
theorem eJ5_append_3fe6f_2 : decode rJ5_append_3fe6f.2.1 2 = .ok (.getfield 79, 3) := by decide +kernel
theorem eJ5_append_3fe6f_5 : decode rJ5_append_3fe6f.2.1 5 = .ok (.iconst 1, 1) := by decide +kernel
theorem eJ5_append_3fe6f_6 : decode rJ5_append_3fe6f.2.1 6 = .ok (.iadd, 1) := by decide +kernel
theorem eJ5_append_3fe6f_7 : decode rJ5_append_3fe6f.2.1 7 = .ok (.invokevirtual 100, 3) := by decide +kernel
theorem eJ5_append_3fe6f_10 : decode rJ5_append_3fe6f.2.1 10 = .ok (.aload_n 0, 1) := by decide +kernel
theorem eJ5_append_3fe6f_11 : decode rJ5_append_3fe6f.2.1 11 = .ok (.invokevirtual 83, 3) := by decide +kernel
theorem eJ5_append_3fe6f_14 : decode rJ5_append_3fe6f.2.1 14 = .ok (.ifCond .eq 31, 3) := by decide +kernel
theorem eJ5_append_3fe6f_17 : decode rJ5_append_3fe6f.2.1 17 = .ok (.iload_n 1, 1) := by decide +kernel
theorem eJ5_append_3fe6f_18 : decode rJ5_append_3fe6f.2.1 18 = .ok (.invokestatic 191, 3) := by decide +kernel
theorem eJ5_append_3fe6f_21 : decode rJ5_append_3fe6f.2.1 21 = .ok (.ifCond .eq 24, 3) := by decide +kernel
theorem eJ5_append_3fe6f_24 : decode rJ5_append_3fe6f.2.1 24 = .ok (.aload_n 0, 1) := by decide +kernel
theorem eJ5_append_3fe6f_25 : decode rJ5_append_3fe6f.2.1 25 = .ok (.getfield 15, 3) := by decide +kernel
theorem eJ5_append_3fe6f_28 : decode rJ5_append_3fe6f.2.1 28 = .ok (.aload_n 0, 1) := by decide +kernel
theorem eJ5_append_3fe6f_29 : decode rJ5_append_3fe6f.2.1 29 = .ok (.dup, 1) := by decide +kernel
theorem eJ5_append_3fe6f_30 : decode rJ5_append_3fe6f.2.1 30 = .ok (.getfield 79, 3) := by decide +kernel
theorem eJ5_append_3fe6f_33 : decode rJ5_append_3fe6f.2.1 33 = .ok (.dup_x1, 1) := by decide +kernel
theorem eJ5_append_3fe6f_34 : decode rJ5_append_3fe6f.2.1 34 = .ok (.iconst 1, 1) := by decide +kernel
theorem eJ5_append_3fe6f_35 : decode rJ5_append_3fe6f.2.1 35 = .ok (.iadd, 1) := by decide +kernel
theorem eJ5_append_3fe6f_36 : decode rJ5_append_3fe6f.2.1 36 = .ok (.putfield 79, 3) := by decide +kernel
theorem eJ5_append_3fe6f_39 : decode rJ5_append_3fe6f.2.1 39 = .ok (.iload_n 1, 1) := by decide +kernel
theorem eJ5_append_3fe6f_40 : decode rJ5_append_3fe6f.2.1 40 = .ok (.i2b, 1) := by decide +kernel
theorem eJ5_append_3fe6f_41 : decode rJ5_append_3fe6f.2.1 41 = .ok (.bastore, 1) := by decide +kernel
theorem eJ5_append_3fe6f_42 : decode rJ5_append_3fe6f.2.1 42 = .ok (.goto 33, 3) := by decide +kernel
theorem eJ5_append_3fe6f_45 : decode rJ5_append_3fe6f.2.1 45 = .ok (.aload_n 0, 1) := by decide +kernel
theorem eJ5_append_3fe6f_46 : decode rJ5_append_3fe6f.2.1 46 = .ok (.invokevirtual 83, 3) := by decide +kernel
theorem eJ5_append_3fe6f_49 : decode rJ5_append_3fe6f.2.1 49 = .ok (.ifCond .eq 7, 3) := by decide +kernel
theorem eJ5_append_3fe6f_52 : decode rJ5_append_3fe6f.2.1 52 = .ok (.aload_n 0, 1) := by decide +kernel
theorem eJ5_append_3fe6f_53 : decode rJ5_append_3fe6f.2.1 53 = .ok (.invokevirtual 195, 3) := by decide +kernel
theorem eJ5_append_3fe6f_56 : decode rJ5_append_3fe6f.2.1 56 = .ok (.aload_n 0, 1) := by decide +kernel
theorem eJ5_append_3fe6f_57 : decode rJ5_append_3fe6f.2.1 57 = .ok (.getfield 15, 3) := by decide +kernel
theorem eJ5_append_3fe6f_60 : decode rJ5_append_3fe6f.2.1 60 = .ok (.aload_n 0, 1) := by decide +kernel
theorem eJ5_append_3fe6f_61 : decode rJ5_append_3fe6f.2.1 61 = .ok (.dup, 1) := by decide +kernel
theorem eJ5_append_3fe6f_62 : decode rJ5_append_3fe6f.2.1 62 = .ok (.getfield 79, 3) := by decide +kernel
theorem eJ5_append_3fe6f_65 : decode rJ5_append_3fe6f.2.1 65 = .ok (.dup_x1, 1) := by decide +kernel
theorem eJ5_append_3fe6f_66 : decode rJ5_append_3fe6f.2.1 66 = .ok (.iconst 1, 1) := by decide +kernel
theorem eJ5_append_3fe6f_67 : decode rJ5_append_3fe6f.2.1 67 = .ok (.iadd, 1) := by decide +kernel
theorem eJ5_append_3fe6f_68 : decode rJ5_append_3fe6f.2.1 68 = .ok (.putfield 79, 3) := by decide +kernel
theorem eJ5_append_3fe6f_71 : decode rJ5_append_3fe6f.2.1 71 = .ok (.iload_n 1, 1) := by decide +kernel
theorem eJ5_append_3fe6f_72 : decode rJ5_append_3fe6f.2.1 72 = .ok (.invokestatic 197, 3) := by decide +kernel
theorem eJ5_append_3fe6f_75 : decode rJ5_append_3fe6f.2.1 75 = .ok (.aload_n 0, 1) := by decide +kernel
theorem eJ5_append_3fe6f_76 : decode rJ5_append_3fe6f.2.1 76 = .ok (.areturn, 1) := by decide +kernel
theorem eJ4_append_bf812_0 : decode rJ4_append_bf812.2.1 0 = .ok (.aload_n 0, 1) := by decide +kernel
theorem eJ4_append_bf812_1 : decode rJ4_append_bf812.2.1 1 = .ok (.iload_n 1, 1) := by decide +kernel
theorem eJ4_append_bf812_2 : decode rJ4_append_bf812.2.1 2 = .ok (.invokespecial 53, 3) := by decide +kernel
theorem eJ4_append_bf812_5 : decode rJ4_append_bf812.2.1 5 = .ok (.pop, 1) := by decide +kernel
theorem eJ4_append_bf812_6 : decode rJ4_append_bf812.2.1 6 = .ok (.aload_n 0, 1) := by decide +kernel
theorem eJ4_append_bf812_7 : decode rJ4_append_bf812.2.1 7 = .ok (.areturn, 1) := by decide +kernel
theorem eJ5_append_c97b9_0 : decode rJ5_append_c97b9.2.1 0 = .ok (.aload_n 0, 1) := by decide +kernel
theorem eJ5_append_c97b9_1 : decode rJ5_append_c97b9.2.1 1 = .ok (.getfield 79, 3) := by decide +kernel
theorem eJ5_append_c97b9_4 : decode rJ5_append_c97b9.2.1 4 = .ok (.istore_n 2, 1) := by decide +kernel
theorem eJ5_append_c97b9_5 : decode rJ5_append_c97b9.2.1 5 = .ok (.iload_n 2, 1) := by decide +kernel
theorem eJ5_append_c97b9_6 : decode rJ5_append_c97b9.2.1 6 = .ok (.iload_n 1, 1) := by decide +kernel
theorem eJ5_append_c97b9_7 : decode rJ5_append_c97b9.2.1 7 = .ok (.invokestatic 245, 3) := by decide +kernel
theorem eJ5_append_c97b9_10 : decode rJ5_append_c97b9.2.1 10 = .ok (.iadd, 1) := by decide +kernel
theorem eJ5_append_c97b9_11 : decode rJ5_append_c97b9.2.1 11 = .ok (.istore_n 3, 1) := by decide +kernel
theorem eJ5_append_c97b9_12 : decode rJ5_append_c97b9.2.1 12 = .ok (.aload_n 0, 1) := by decide +kernel
theorem eJ5_append_c97b9_13 : decode rJ5_append_c97b9.2.1 13 = .ok (.iload_n 3, 1) := by decide +kernel
theorem eJ5_append_c97b9_14 : decode rJ5_append_c97b9.2.1 14 = .ok (.invokevirtual 100, 3) := by decide +kernel
theorem eJ5_append_c97b9_17 : decode rJ5_append_c97b9.2.1 17 = .ok (.aload_n 0, 1) := by decide +kernel
theorem eJ5_append_c97b9_18 : decode rJ5_append_c97b9.2.1 18 = .ok (.invokevirtual 83, 3) := by decide +kernel
theorem eJ5_append_c97b9_21 : decode rJ5_append_c97b9.2.1 21 = .ok (.ifCond .eq 16, 3) := by decide +kernel
theorem eJ5_append_c97b9_24 : decode rJ5_append_c97b9.2.1 24 = .ok (.iload_n 1, 1) := by decide +kernel
theorem eJ5_append_c97b9_25 : decode rJ5_append_c97b9.2.1 25 = .ok (.iload_n 3, 1) := by decide +kernel
theorem eJ5_append_c97b9_26 : decode rJ5_append_c97b9.2.1 26 = .ok (.aload_n 0, 1) := by decide +kernel
theorem eJ5_append_c97b9_27 : decode rJ5_append_c97b9.2.1 27 = .ok (.getfield 15, 3) := by decide +kernel
theorem eJ5_append_c97b9_30 : decode rJ5_append_c97b9.2.1 30 = .ok (.invokestatic 248, 3) := by decide +kernel
theorem eJ5_append_c97b9_33 : decode rJ5_append_c97b9.2.1 33 = .ok (.pop, 1) := by decide +kernel
theorem eJ5_append_c97b9_34 : decode rJ5_append_c97b9.2.1 34 = .ok (.goto 14, 3) := by decide +kernel
theorem eJ5_append_c97b9_37 : decode rJ5_append_c97b9.2.1 37 = .ok (.iload_n 1, 1) := by decide +kernel
theorem eJ5_append_c97b9_38 : decode rJ5_append_c97b9.2.1 38 = .ok (.iload_n 2, 1) := by decide +kernel
theorem eJ5_append_c97b9_39 : decode rJ5_append_c97b9.2.1 39 = .ok (.iload_n 3, 1) := by decide +kernel
theorem eJ5_append_c97b9_40 : decode rJ5_append_c97b9.2.1 40 = .ok (.aload_n 0, 1) := by decide +kernel
theorem eJ5_append_c97b9_41 : decode rJ5_append_c97b9.2.1 41 = .ok (.getfield 15, 3) := by decide +kernel
theorem eJ5_append_c97b9_44 : decode rJ5_append_c97b9.2.1 44 = .ok (.invokestatic 251, 3) := by decide +kernel
theorem eJ5_append_c97b9_47 : decode rJ5_append_c97b9.2.1 47 = .ok (.pop, 1) := by decide +kernel
theorem eJ5_append_c97b9_48 : decode rJ5_append_c97b9.2.1 48 = .ok (.aload_n 0, 1) := by decide +kernel
theorem eJ5_append_c97b9_49 : decode rJ5_append_c97b9.2.1 49 = .ok (.iload_n 3, 1) := by decide +kernel
theorem eJ5_append_c97b9_50 : decode rJ5_append_c97b9.2.1 50 = .ok (.putfield 79, 3) := by decide +kernel
theorem eJ5_append_c97b9_53 : decode rJ5_append_c97b9.2.1 53 = .ok (.aload_n 0, 1) := by decide +kernel
theorem eJ5_append_c97b9_54 : decode rJ5_append_c97b9.2.1 54 = .ok (.areturn, 1) := by decide +kernel
theorem eJ5_ensureCapacityInternal_d00df_0 : decode rJ5_ensureCapacityInternal_d00df.2.1 0 = .ok (.aload_n 0, 1) := by decide +kernel
theorem eJ5_ensureCapacityInternal_d00df_1 : decode rJ5_ensureCapacityInternal_d00df.2.1 1 = .ok (.getfield 15, 3) := by decide +kernel
theorem eJ5_ensureCapacityInternal_d00df_4 : decode rJ5_ensureCapacityInternal_d00df.2.1 4 = .ok (.arraylength, 1) := by decide +kernel
theorem eJ5_ensureCapacityInternal_d00df_5 : decode rJ5_ensureCapacityInternal_d00df.2.1 5 = .ok (.aload_n 0, 1) := by decide +kernel
theorem eJ5_ensureCapacityInternal_d00df_6 : decode rJ5_ensureCapacityInternal_d00df.2.1 6 = .ok (.getfield 22, 3) := by decide +kernel
theorem eJ5_ensureCapacityInternal_d00df_9 : decode rJ5_ensureCapacityInternal_d00df.2.1 9 = .ok (.ishr, 1) := by decide +kernel
theorem eJ5_ensureCapacityInternal_d00df_10 : decode rJ5_ensureCapacityInternal_d00df.2.1 10 = .ok (.istore_n 2, 1) := by decide +kernel
theorem eJ5_ensureCapacityInternal_d00df_11 : decode rJ5_ensureCapacityInternal_d00df.2.1 11 = .ok (.iload_n 1, 1) := by decide +kernel
theorem eJ5_ensureCapacityInternal_d00df_12 : decode rJ5_ensureCapacityInternal_d00df.2.1 12 = .ok (.iload_n 2, 1) := by decide +kernel
theorem eJ5_ensureCapacityInternal_d00df_13 : decode rJ5_ensureCapacityInternal_d00df.2.1 13 = .ok (.isub, 1) := by decide +kernel
theorem eJ5_ensureCapacityInternal_d00df_14 : decode rJ5_ensureCapacityInternal_d00df.2.1 14 = .ok (.ifCond .le 24, 3) := by decide +kernel
theorem eJ5_ensureCapacityInternal_d00df_17 : decode rJ5_ensureCapacityInternal_d00df.2.1 17 = .ok (.aload_n 0, 1) := by decide +kernel
theorem eJ5_ensureCapacityInternal_d00df_18 : decode rJ5_ensureCapacityInternal_d00df.2.1 18 = .ok (.aload_n 0, 1) := by decide +kernel
theorem eJ5_ensureCapacityInternal_d00df_19 : decode rJ5_ensureCapacityInternal_d00df.2.1 19 = .ok (.getfield 15, 3) := by decide +kernel
theorem eJ5_ensureCapacityInternal_d00df_22 : decode rJ5_ensureCapacityInternal_d00df.2.1 22 = .ok (.aload_n 0, 1) := by decide +kernel
theorem eJ5_ensureCapacityInternal_d00df_23 : decode rJ5_ensureCapacityInternal_d00df.2.1 23 = .ok (.iload_n 1, 1) := by decide +kernel
theorem eJ5_ensureCapacityInternal_d00df_24 : decode rJ5_ensureCapacityInternal_d00df.2.1 24 = .ok (.invokevirtual 104, 3) := by decide +kernel
theorem eJ5_ensureCapacityInternal_d00df_27 : decode rJ5_ensureCapacityInternal_d00df.2.1 27 = .ok (.aload_n 0, 1) := by decide +kernel
theorem eJ5_ensureCapacityInternal_d00df_28 : decode rJ5_ensureCapacityInternal_d00df.2.1 28 = .ok (.getfield 22, 3) := by decide +kernel
theorem eJ5_ensureCapacityInternal_d00df_31 : decode rJ5_ensureCapacityInternal_d00df.2.1 31 = .ok (.ishl, 1) := by decide +kernel
theorem eJ5_ensureCapacityInternal_d00df_32 : decode rJ5_ensureCapacityInternal_d00df.2.1 32 = .ok (.invokestatic 108, 3) := by decide +kernel
theorem eJ5_ensureCapacityInternal_d00df_35 : decode rJ5_ensureCapacityInternal_d00df.2.1 35 = .ok (.putfield 15, 3) := by decide +kernel
theorem eJ5_ensureCapacityInternal_d00df_38 : decode rJ5_ensureCapacityInternal_d00df.2.1 38 = .ok (.return_, 1) := by decide +kernel
theorem eJ5_newCapacity_0f7a4_0 : decode rJ5_newCapacity_0f7a4.2.1 0 = .ok (.aload_n 0, 1) := by decide +kernel
theorem eJ5_newCapacity_0f7a4_1 : decode rJ5_newCapacity_0f7a4.2.1 1 = .ok (.getfield 15, 3) := by decide +kernel
theorem eJ5_newCapacity_0f7a4_4 : decode rJ5_newCapacity_0f7a4.2.1 4 = .ok (.arraylength, 1) := by decide +kernel
theorem eJ5_newCapacity_0f7a4_5 : decode rJ5_newCapacity_0f7a4.2.1 5 = .ok (.istore_n 2, 1) := by decide +kernel
theorem eJ5_newCapacity_0f7a4_6 : decode rJ5_newCapacity_0f7a4.2.1 6 = .ok (.iload_n 1, 1) := by decide +kernel
theorem eJ5_newCapacity_0f7a4_7 : decode rJ5_newCapacity_0f7a4.2.1 7 = .ok (.aload_n 0, 1) := by decide +kernel
theorem eJ5_newCapacity_0f7a4_8 : decode rJ5_newCapacity_0f7a4.2.1 8 = .ok (.getfield 22, 3) := by decide +kernel
theorem eJ5_newCapacity_0f7a4_11 : decode rJ5_newCapacity_0f7a4.2.1 11 = .ok (.ishl, 1) := by decide +kernel
theorem eJ5_newCapacity_0f7a4_12 : decode rJ5_newCapacity_0f7a4.2.1 12 = .ok (.istore_n 3, 1) := by decide +kernel
theorem eJ5_newCapacity_0f7a4_13 : decode rJ5_newCapacity_0f7a4.2.1 13 = .ok (.iload_n 3, 1) := by decide +kernel
theorem eJ5_newCapacity_0f7a4_14 : decode rJ5_newCapacity_0f7a4.2.1 14 = .ok (.iload_n 2, 1) := by decide +kernel
theorem eJ5_newCapacity_0f7a4_15 : decode rJ5_newCapacity_0f7a4.2.1 15 = .ok (.isub, 1) := by decide +kernel
theorem eJ5_newCapacity_0f7a4_16 : decode rJ5_newCapacity_0f7a4.2.1 16 = .ok (.istore 4, 2) := by decide +kernel
theorem eJ5_newCapacity_0f7a4_18 : decode rJ5_newCapacity_0f7a4.2.1 18 = .ok (.iload_n 2, 1) := by decide +kernel
theorem eJ5_newCapacity_0f7a4_19 : decode rJ5_newCapacity_0f7a4.2.1 19 = .ok (.iload 4, 2) := by decide +kernel
theorem eJ5_newCapacity_0f7a4_21 : decode rJ5_newCapacity_0f7a4.2.1 21 = .ok (.iload_n 2, 1) := by decide +kernel
theorem eJ5_newCapacity_0f7a4_22 : decode rJ5_newCapacity_0f7a4.2.1 22 = .ok (.iconst 2, 1) := by decide +kernel
theorem eJ5_newCapacity_0f7a4_23 : decode rJ5_newCapacity_0f7a4.2.1 23 = .ok (.aload_n 0, 1) := by decide +kernel
theorem eJ5_newCapacity_0f7a4_24 : decode rJ5_newCapacity_0f7a4.2.1 24 = .ok (.getfield 22, 3) := by decide +kernel
theorem eJ5_newCapacity_0f7a4_27 : decode rJ5_newCapacity_0f7a4.2.1 27 = .ok (.ishl, 1) := by decide +kernel
theorem eJ5_newCapacity_0f7a4_28 : decode rJ5_newCapacity_0f7a4.2.1 28 = .ok (.iadd, 1) := by decide +kernel
theorem eJ5_newCapacity_0f7a4_29 : decode rJ5_newCapacity_0f7a4.2.1 29 = .ok (.invokestatic 114, 3) := by decide +kernel
theorem eJ5_newCapacity_0f7a4_32 : decode rJ5_newCapacity_0f7a4.2.1 32 = .ok (.istore 5, 2) := by decide +kernel
theorem eJ5_newCapacity_0f7a4_34 : decode rJ5_newCapacity_0f7a4.2.1 34 = .ok (.iload 5, 2) := by decide +kernel
theorem eJ5_newCapacity_0f7a4_36 : decode rJ5_newCapacity_0f7a4.2.1 36 = .ok (.ldc 39, 2) := by decide +kernel
theorem eJ5_newCapacity_0f7a4_38 : decode rJ5_newCapacity_0f7a4.2.1 38 = .ok (.if_icmp .ne 13, 3) := by decide +kernel
theorem eJ5_newCapacity_0f7a4_41 : decode rJ5_newCapacity_0f7a4.2.1 41 = .ok (.new 120, 3) := by decide +kernel
theorem eJ5_newCapacity_0f7a4_44 : decode rJ5_newCapacity_0f7a4.2.1 44 = .ok (.dup, 1) := by decide +kernel
theorem eJ5_newCapacity_0f7a4_45 : decode rJ5_newCapacity_0f7a4.2.1 45 = .ok (.ldc 122, 2) := by decide +kernel
theorem eJ5_newCapacity_0f7a4_47 : decode rJ5_newCapacity_0f7a4.2.1 47 = .ok (.invokespecial 124, 3) := by decide +kernel
theorem eJ5_newCapacity_0f7a4_50 : decode rJ5_newCapacity_0f7a4.2.1 50 = .ok (.athrow, 1) := by decide +kernel
theorem eJ5_newCapacity_0f7a4_51 : decode rJ5_newCapacity_0f7a4.2.1 51 = .ok (.iload 5, 2) := by decide +kernel
theorem eJ5_newCapacity_0f7a4_53 : decode rJ5_newCapacity_0f7a4.2.1 53 = .ok (.aload_n 0, 1) := by decide +kernel
theorem eJ5_newCapacity_0f7a4_54 : decode rJ5_newCapacity_0f7a4.2.1 54 = .ok (.getfield 22, 3) := by decide +kernel
theorem eJ5_newCapacity_0f7a4_57 : decode rJ5_newCapacity_0f7a4.2.1 57 = .ok (.ishr, 1) := by decide +kernel
theorem eJ5_newCapacity_0f7a4_58 : decode rJ5_newCapacity_0f7a4.2.1 58 = .ok (.ireturn, 1) := by decide +kernel
theorem eJ8_newLength_cabcc_0 : decode rJ8_newLength_cabcc.2.1 0 = .ok (.iload_n 0, 1) := by decide +kernel
theorem eJ8_newLength_cabcc_1 : decode rJ8_newLength_cabcc.2.1 1 = .ok (.iload_n 1, 1) := by decide +kernel
theorem eJ8_newLength_cabcc_2 : decode rJ8_newLength_cabcc.2.1 2 = .ok (.iload_n 2, 1) := by decide +kernel
theorem eJ8_newLength_cabcc_3 : decode rJ8_newLength_cabcc.2.1 3 = .ok (.invokestatic 194, 3) := by decide +kernel
theorem eJ8_newLength_cabcc_6 : decode rJ8_newLength_cabcc.2.1 6 = .ok (.iadd, 1) := by decide +kernel
theorem eJ8_newLength_cabcc_7 : decode rJ8_newLength_cabcc.2.1 7 = .ok (.istore_n 3, 1) := by decide +kernel
theorem eJ8_newLength_cabcc_8 : decode rJ8_newLength_cabcc.2.1 8 = .ok (.iconst 0, 1) := by decide +kernel
theorem eJ8_newLength_cabcc_9 : decode rJ8_newLength_cabcc.2.1 9 = .ok (.iload_n 3, 1) := by decide +kernel
theorem eJ8_newLength_cabcc_10 : decode rJ8_newLength_cabcc.2.1 10 = .ok (.if_icmp .ge 11, 3) := by decide +kernel
theorem eJ8_newLength_cabcc_13 : decode rJ8_newLength_cabcc.2.1 13 = .ok (.iload_n 3, 1) := by decide +kernel
theorem eJ8_newLength_cabcc_14 : decode rJ8_newLength_cabcc.2.1 14 = .ok (.ldc 200, 2) := by decide +kernel
theorem eJ8_newLength_cabcc_16 : decode rJ8_newLength_cabcc.2.1 16 = .ok (.if_icmp .gt 5, 3) := by decide +kernel
theorem eJ8_newLength_cabcc_19 : decode rJ8_newLength_cabcc.2.1 19 = .ok (.iload_n 3, 1) := by decide +kernel
theorem eJ8_newLength_cabcc_20 : decode rJ8_newLength_cabcc.2.1 20 = .ok (.ireturn, 1) := by decide +kernel
theorem eJ8_newLength_cabcc_21 : decode rJ8_newLength_cabcc.2.1 21 = .ok (.iload_n 0, 1) := by decide +kernel
theorem eJ8_newLength_cabcc_22 : decode rJ8_newLength_cabcc.2.1 22 = .ok (.iload_n 1, 1) := by decide +kernel
theorem eJ8_newLength_cabcc_23 : decode rJ8_newLength_cabcc.2.1 23 = .ok (.invokestatic 201, 3) := by decide +kernel
theorem eJ8_newLength_cabcc_26 : decode rJ8_newLength_cabcc.2.1 26 = .ok (.ireturn, 1) := by decide +kernel
theorem eJ7_copyOf_9075b_0 : decode rJ7_copyOf_9075b.2.1 0 = .ok (.iload_n 1, 1) := by decide +kernel
theorem eJ7_copyOf_9075b_1 : decode rJ7_copyOf_9075b.2.1 1 = .ok (.aload_n 0, 1) := by decide +kernel
theorem eJ7_copyOf_9075b_2 : decode rJ7_copyOf_9075b.2.1 2 = .ok (.arraylength, 1) := by decide +kernel
theorem eJ7_copyOf_9075b_3 : decode rJ7_copyOf_9075b.2.1 3 = .ok (.if_icmp .ne 11, 3) := by decide +kernel
theorem eJ7_copyOf_9075b_6 : decode rJ7_copyOf_9075b.2.1 6 = .ok (.aload_n 0, 1) := by decide +kernel
theorem eJ7_copyOf_9075b_7 : decode rJ7_copyOf_9075b.2.1 7 = .ok (.invokevirtual 310, 3) := by decide +kernel
theorem eJ7_copyOf_9075b_10 : decode rJ7_copyOf_9075b.2.1 10 = .ok (.checkcast 311, 3) := by decide +kernel
theorem eJ7_copyOf_9075b_13 : decode rJ7_copyOf_9075b.2.1 13 = .ok (.areturn, 1) := by decide +kernel
theorem eJ7_copyOf_9075b_14 : decode rJ7_copyOf_9075b.2.1 14 = .ok (.iload_n 1, 1) := by decide +kernel
theorem eJ7_copyOf_9075b_15 : decode rJ7_copyOf_9075b.2.1 15 = .ok (.newarray .byte, 2) := by decide +kernel
theorem eJ7_copyOf_9075b_17 : decode rJ7_copyOf_9075b.2.1 17 = .ok (.astore_n 2, 1) := by decide +kernel
theorem eJ7_copyOf_9075b_18 : decode rJ7_copyOf_9075b.2.1 18 = .ok (.aload_n 0, 1) := by decide +kernel
theorem eJ7_copyOf_9075b_19 : decode rJ7_copyOf_9075b.2.1 19 = .ok (.iconst 0, 1) := by decide +kernel
theorem eJ7_copyOf_9075b_20 : decode rJ7_copyOf_9075b.2.1 20 = .ok (.aload_n 2, 1) := by decide +kernel
theorem eJ7_copyOf_9075b_21 : decode rJ7_copyOf_9075b.2.1 21 = .ok (.iconst 0, 1) := by decide +kernel
theorem eJ7_copyOf_9075b_22 : decode rJ7_copyOf_9075b.2.1 22 = .ok (.aload_n 0, 1) := by decide +kernel
theorem eJ7_copyOf_9075b_23 : decode rJ7_copyOf_9075b.2.1 23 = .ok (.arraylength, 1) := by decide +kernel
theorem eJ7_copyOf_9075b_24 : decode rJ7_copyOf_9075b.2.1 24 = .ok (.iload_n 1, 1) := by decide +kernel
theorem eJ7_copyOf_9075b_25 : decode rJ7_copyOf_9075b.2.1 25 = .ok (.invokestatic 304, 3) := by decide +kernel
theorem eJ7_copyOf_9075b_28 : decode rJ7_copyOf_9075b.2.1 28 = .ok (.invokestatic 150, 3) := by decide +kernel
theorem eJ7_copyOf_9075b_31 : decode rJ7_copyOf_9075b.2.1 31 = .ok (.aload_n 2, 1) := by decide +kernel
theorem eJ7_copyOf_9075b_32 : decode rJ7_copyOf_9075b.2.1 32 = .ok (.areturn, 1) := by decide +kernel
theorem eJ5_isLatin1_aae02_0 : decode rJ5_isLatin1_aae02.2.1 0 = .ok (.getstatic 18, 3) := by decide +kernel
theorem eJ5_isLatin1_aae02_3 : decode rJ5_isLatin1_aae02.2.1 3 = .ok (.ifCond .eq 14, 3) := by decide +kernel
theorem eJ5_isLatin1_aae02_6 : decode rJ5_isLatin1_aae02.2.1 6 = .ok (.aload_n 0, 1) := by decide +kernel
theorem eJ5_isLatin1_aae02_7 : decode rJ5_isLatin1_aae02.2.1 7 = .ok (.getfield 22, 3) := by decide +kernel
theorem eJ5_isLatin1_aae02_10 : decode rJ5_isLatin1_aae02.2.1 10 = .ok (.ifCond .ne 7, 3) := by decide +kernel
theorem eJ5_isLatin1_aae02_13 : decode rJ5_isLatin1_aae02.2.1 13 = .ok (.iconst 1, 1) := by decide +kernel
theorem eJ5_isLatin1_aae02_14 : decode rJ5_isLatin1_aae02.2.1 14 = .ok (.goto 4, 3) := by decide +kernel
theorem eJ5_isLatin1_aae02_17 : decode rJ5_isLatin1_aae02.2.1 17 = .ok (.iconst 0, 1) := by decide +kernel
theorem eJ5_isLatin1_aae02_18 : decode rJ5_isLatin1_aae02.2.1 18 = .ok (.ireturn, 1) := by decide +kernel
theorem eJ1_canEncode_fc78d_0 : decode rJ1_canEncode_fc78d.2.1 0 = .ok (.iload_n 0, 1) := by decide +kernel
theorem eJ1_canEncode_fc78d_1 : decode rJ1_canEncode_fc78d.2.1 1 = .ok (.sipush 255, 3) := by decide +kernel
theorem eJ1_canEncode_fc78d_4 : decode rJ1_canEncode_fc78d.2.1 4 = .ok (.if_icmp .gt 7, 3) := by decide +kernel
theorem eJ1_canEncode_fc78d_7 : decode rJ1_canEncode_fc78d.2.1 7 = .ok (.iconst 1, 1) := by decide +kernel
theorem eJ1_canEncode_fc78d_8 : decode rJ1_canEncode_fc78d.2.1 8 = .ok (.goto 4, 3) := by decide +kernel
theorem eJ1_canEncode_fc78d_11 : decode rJ1_canEncode_fc78d.2.1 11 = .ok (.iconst 0, 1) := by decide +kernel
theorem eJ1_canEncode_fc78d_12 : decode rJ1_canEncode_fc78d.2.1 12 = .ok (.ireturn, 1) := by decide +kernel
theorem eJ6_stringSize_0f7a4_0 : decode rJ6_stringSize_0f7a4.2.1 0 = .ok (.iconst 1, 1) := by decide +kernel
theorem eJ6_stringSize_0f7a4_1 : decode rJ6_stringSize_0f7a4.2.1 1 = .ok (.istore_n 1, 1) := by decide +kernel
theorem eJ6_stringSize_0f7a4_2 : decode rJ6_stringSize_0f7a4.2.1 2 = .ok (.iload_n 0, 1) := by decide +kernel
theorem eJ6_stringSize_0f7a4_3 : decode rJ6_stringSize_0f7a4.2.1 3 = .ok (.ifCond .lt 8, 3) := by decide +kernel
theorem eJ6_stringSize_0f7a4_6 : decode rJ6_stringSize_0f7a4.2.1 6 = .ok (.iconst 0, 1) := by decide +kernel
theorem eJ6_stringSize_0f7a4_7 : decode rJ6_stringSize_0f7a4.2.1 7 = .ok (.istore_n 1, 1) := by decide +kernel
theorem eJ6_stringSize_0f7a4_8 : decode rJ6_stringSize_0f7a4.2.1 8 = .ok (.iload_n 0, 1) := by decide +kernel
theorem eJ6_stringSize_0f7a4_9 : decode rJ6_stringSize_0f7a4.2.1 9 = .ok (.ineg, 1) := by decide +kernel
theorem eJ6_stringSize_0f7a4_10 : decode rJ6_stringSize_0f7a4.2.1 10 = .ok (.istore_n 0, 1) := by decide +kernel
theorem eJ6_stringSize_0f7a4_11 : decode rJ6_stringSize_0f7a4.2.1 11 = .ok (.bipush (-10), 2) := by decide +kernel
theorem eJ6_stringSize_0f7a4_13 : decode rJ6_stringSize_0f7a4.2.1 13 = .ok (.istore_n 2, 1) := by decide +kernel
theorem eJ6_stringSize_0f7a4_14 : decode rJ6_stringSize_0f7a4.2.1 14 = .ok (.iconst 1, 1) := by decide +kernel
theorem eJ6_stringSize_0f7a4_15 : decode rJ6_stringSize_0f7a4.2.1 15 = .ok (.istore_n 3, 1) := by decide +kernel
theorem eJ6_stringSize_0f7a4_16 : decode rJ6_stringSize_0f7a4.2.1 16 = .ok (.iload_n 3, 1) := by decide +kernel
theorem eJ6_stringSize_0f7a4_17 : decode rJ6_stringSize_0f7a4.2.1 17 = .ok (.bipush 10, 2) := by decide +kernel
theorem eJ6_stringSize_0f7a4_19 : decode rJ6_stringSize_0f7a4.2.1 19 = .ok (.if_icmp .ge 23, 3) := by decide +kernel
theorem eJ6_stringSize_0f7a4_22 : decode rJ6_stringSize_0f7a4.2.1 22 = .ok (.iload_n 0, 1) := by decide +kernel
theorem eJ6_stringSize_0f7a4_23 : decode rJ6_stringSize_0f7a4.2.1 23 = .ok (.iload_n 2, 1) := by decide +kernel
theorem eJ6_stringSize_0f7a4_24 : decode rJ6_stringSize_0f7a4.2.1 24 = .ok (.if_icmp .le 7, 3) := by decide +kernel
theorem eJ6_stringSize_0f7a4_27 : decode rJ6_stringSize_0f7a4.2.1 27 = .ok (.iload_n 3, 1) := by decide +kernel
theorem eJ6_stringSize_0f7a4_28 : decode rJ6_stringSize_0f7a4.2.1 28 = .ok (.iload_n 1, 1) := by decide +kernel
theorem eJ6_stringSize_0f7a4_29 : decode rJ6_stringSize_0f7a4.2.1 29 = .ok (.iadd, 1) := by decide +kernel
theorem eJ6_stringSize_0f7a4_30 : decode rJ6_stringSize_0f7a4.2.1 30 = .ok (.ireturn, 1) := by decide +kernel
theorem eJ6_stringSize_0f7a4_31 : decode rJ6_stringSize_0f7a4.2.1 31 = .ok (.bipush 10, 2) := by decide +kernel
theorem eJ6_stringSize_0f7a4_33 : decode rJ6_stringSize_0f7a4.2.1 33 = .ok (.iload_n 2, 1) := by decide +kernel
theorem eJ6_stringSize_0f7a4_34 : decode rJ6_stringSize_0f7a4.2.1 34 = .ok (.imul, 1) := by decide +kernel
theorem eJ6_stringSize_0f7a4_35 : decode rJ6_stringSize_0f7a4.2.1 35 = .ok (.istore_n 2, 1) := by decide +kernel
theorem eJ6_stringSize_0f7a4_36 : decode rJ6_stringSize_0f7a4.2.1 36 = .ok (.iinc 3 1, 3) := by decide +kernel
theorem eJ6_stringSize_0f7a4_39 : decode rJ6_stringSize_0f7a4.2.1 39 = .ok (.goto (-23), 3) := by decide +kernel
theorem eJ6_stringSize_0f7a4_42 : decode rJ6_stringSize_0f7a4.2.1 42 = .ok (.bipush 10, 2) := by decide +kernel
theorem eJ6_stringSize_0f7a4_44 : decode rJ6_stringSize_0f7a4.2.1 44 = .ok (.iload_n 1, 1) := by decide +kernel
theorem eJ6_stringSize_0f7a4_45 : decode rJ6_stringSize_0f7a4.2.1 45 = .ok (.iadd, 1) := by decide +kernel
theorem eJ6_stringSize_0f7a4_46 : decode rJ6_stringSize_0f7a4.2.1 46 = .ok (.ireturn, 1) := by decide +kernel
theorem eJ6_getChars_ba4f3_0 : decode rJ6_getChars_ba4f3.2.1 0 = .ok (.iload_n 1, 1) := by decide +kernel
theorem eJ6_getChars_ba4f3_1 : decode rJ6_getChars_ba4f3.2.1 1 = .ok (.istore 5, 2) := by decide +kernel
theorem eJ6_getChars_ba4f3_3 : decode rJ6_getChars_ba4f3.2.1 3 = .ok (.iload_n 0, 1) := by decide +kernel
theorem eJ6_getChars_ba4f3_4 : decode rJ6_getChars_ba4f3.2.1 4 = .ok (.ifCond .ge 7, 3) := by decide +kernel
theorem eJ6_getChars_ba4f3_7 : decode rJ6_getChars_ba4f3.2.1 7 = .ok (.iconst 1, 1) := by decide +kernel
theorem eJ6_getChars_ba4f3_8 : decode rJ6_getChars_ba4f3.2.1 8 = .ok (.goto 4, 3) := by decide +kernel
theorem eJ6_getChars_ba4f3_11 : decode rJ6_getChars_ba4f3.2.1 11 = .ok (.iconst 0, 1) := by decide +kernel
theorem eJ6_getChars_ba4f3_12 : decode rJ6_getChars_ba4f3.2.1 12 = .ok (.istore 6, 2) := by decide +kernel
theorem eJ6_getChars_ba4f3_14 : decode rJ6_getChars_ba4f3.2.1 14 = .ok (.iload 6, 2) := by decide +kernel
theorem eJ6_getChars_ba4f3_16 : decode rJ6_getChars_ba4f3.2.1 16 = .ok (.ifCond .ne 6, 3) := by decide +kernel
theorem eJ6_getChars_ba4f3_19 : decode rJ6_getChars_ba4f3.2.1 19 = .ok (.iload_n 0, 1) := by decide +kernel
theorem eJ6_getChars_ba4f3_20 : decode rJ6_getChars_ba4f3.2.1 20 = .ok (.ineg, 1) := by decide +kernel
theorem eJ6_getChars_ba4f3_21 : decode rJ6_getChars_ba4f3.2.1 21 = .ok (.istore_n 0, 1) := by decide +kernel
theorem eJ6_getChars_ba4f3_22 : decode rJ6_getChars_ba4f3.2.1 22 = .ok (.iload_n 0, 1) := by decide +kernel
theorem eJ6_getChars_ba4f3_23 : decode rJ6_getChars_ba4f3.2.1 23 = .ok (.bipush (-100), 2) := by decide +kernel
theorem eJ6_getChars_ba4f3_25 : decode rJ6_getChars_ba4f3.2.1 25 = .ok (.if_icmp .gt 47, 3) := by decide +kernel
theorem eJ6_getChars_ba4f3_28 : decode rJ6_getChars_ba4f3.2.1 28 = .ok (.iload_n 0, 1) := by decide +kernel
theorem eJ6_getChars_ba4f3_29 : decode rJ6_getChars_ba4f3.2.1 29 = .ok (.bipush 100, 2) := by decide +kernel
theorem eJ6_getChars_ba4f3_31 : decode rJ6_getChars_ba4f3.2.1 31 = .ok (.idiv, 1) := by decide +kernel
theorem eJ6_getChars_ba4f3_32 : decode rJ6_getChars_ba4f3.2.1 32 = .ok (.istore_n 3, 1) := by decide +kernel
theorem eJ6_getChars_ba4f3_33 : decode rJ6_getChars_ba4f3.2.1 33 = .ok (.iload_n 3, 1) := by decide +kernel
theorem eJ6_getChars_ba4f3_34 : decode rJ6_getChars_ba4f3.2.1 34 = .ok (.bipush 100, 2) := by decide +kernel
theorem eJ6_getChars_ba4f3_36 : decode rJ6_getChars_ba4f3.2.1 36 = .ok (.imul, 1) := by decide +kernel
theorem eJ6_getChars_ba4f3_37 : decode rJ6_getChars_ba4f3.2.1 37 = .ok (.iload_n 0, 1) := by decide +kernel
theorem eJ6_getChars_ba4f3_38 : decode rJ6_getChars_ba4f3.2.1 38 = .ok (.isub, 1) := by decide +kernel
theorem eJ6_getChars_ba4f3_39 : decode rJ6_getChars_ba4f3.2.1 39 = .ok (.istore 4, 2) := by decide +kernel
theorem eJ6_getChars_ba4f3_41 : decode rJ6_getChars_ba4f3.2.1 41 = .ok (.iload_n 3, 1) := by decide +kernel
theorem eJ6_getChars_ba4f3_42 : decode rJ6_getChars_ba4f3.2.1 42 = .ok (.istore_n 0, 1) := by decide +kernel
theorem eJ6_getChars_ba4f3_43 : decode rJ6_getChars_ba4f3.2.1 43 = .ok (.aload_n 2, 1) := by decide +kernel
theorem eJ6_getChars_ba4f3_44 : decode rJ6_getChars_ba4f3.2.1 44 = .ok (.iinc 5 (-1), 3) := by decide +kernel
theorem eJ6_getChars_ba4f3_47 : decode rJ6_getChars_ba4f3.2.1 47 = .ok (.iload 5, 2) := by decide +kernel
theorem eJ6_getChars_ba4f3_49 : decode rJ6_getChars_ba4f3.2.1 49 = .ok (.getstatic 83, 3) := by decide +kernel
theorem eJ6_getChars_ba4f3_52 : decode rJ6_getChars_ba4f3.2.1 52 = .ok (.iload 4, 2) := by decide +kernel
theorem eJ6_getChars_ba4f3_54 : decode rJ6_getChars_ba4f3.2.1 54 = .ok (.baload, 1) := by decide +kernel
theorem eJ6_getChars_ba4f3_55 : decode rJ6_getChars_ba4f3.2.1 55 = .ok (.bastore, 1) := by decide +kernel
theorem eJ6_getChars_ba4f3_56 : decode rJ6_getChars_ba4f3.2.1 56 = .ok (.aload_n 2, 1) := by decide +kernel
theorem eJ6_getChars_ba4f3_57 : decode rJ6_getChars_ba4f3.2.1 57 = .ok (.iinc 5 (-1), 3) := by decide +kernel
theorem eJ6_getChars_ba4f3_60 : decode rJ6_getChars_ba4f3.2.1 60 = .ok (.iload 5, 2) := by decide +kernel
theorem eJ6_getChars_ba4f3_62 : decode rJ6_getChars_ba4f3.2.1 62 = .ok (.getstatic 87, 3) := by decide +kernel
theorem eJ6_getChars_ba4f3_65 : decode rJ6_getChars_ba4f3.2.1 65 = .ok (.iload 4, 2) := by decide +kernel
theorem eJ6_getChars_ba4f3_67 : decode rJ6_getChars_ba4f3.2.1 67 = .ok (.baload, 1) := by decide +kernel
theorem eJ6_getChars_ba4f3_68 : decode rJ6_getChars_ba4f3.2.1 68 = .ok (.bastore, 1) := by decide +kernel
theorem eJ6_getChars_ba4f3_69 : decode rJ6_getChars_ba4f3.2.1 69 = .ok (.goto (-47), 3) := by decide +kernel
theorem eJ6_getChars_ba4f3_72 : decode rJ6_getChars_ba4f3.2.1 72 = .ok (.aload_n 2, 1) := by decide +kernel
theorem eJ6_getChars_ba4f3_73 : decode rJ6_getChars_ba4f3.2.1 73 = .ok (.iinc 5 (-1), 3) := by decide +kernel
theorem eJ6_getChars_ba4f3_76 : decode rJ6_getChars_ba4f3.2.1 76 = .ok (.iload 5, 2) := by decide +kernel
theorem eJ6_getChars_ba4f3_78 : decode rJ6_getChars_ba4f3.2.1 78 = .ok (.getstatic 83, 3) := by decide +kernel
theorem eJ6_getChars_ba4f3_81 : decode rJ6_getChars_ba4f3.2.1 81 = .ok (.iload_n 0, 1) := by decide +kernel
theorem eJ6_getChars_ba4f3_82 : decode rJ6_getChars_ba4f3.2.1 82 = .ok (.ineg, 1) := by decide +kernel
theorem eJ6_getChars_ba4f3_83 : decode rJ6_getChars_ba4f3.2.1 83 = .ok (.baload, 1) := by decide +kernel
theorem eJ6_getChars_ba4f3_84 : decode rJ6_getChars_ba4f3.2.1 84 = .ok (.bastore, 1) := by decide +kernel
theorem eJ6_getChars_ba4f3_85 : decode rJ6_getChars_ba4f3.2.1 85 = .ok (.iload_n 0, 1) := by decide +kernel
theorem eJ6_getChars_ba4f3_86 : decode rJ6_getChars_ba4f3.2.1 86 = .ok (.bipush (-9), 2) := by decide +kernel
theorem eJ6_getChars_ba4f3_88 : decode rJ6_getChars_ba4f3.2.1 88 = .ok (.if_icmp .ge 16, 3) := by decide +kernel
theorem eJ6_getChars_ba4f3_91 : decode rJ6_getChars_ba4f3.2.1 91 = .ok (.aload_n 2, 1) := by decide +kernel
theorem eJ6_getChars_ba4f3_92 : decode rJ6_getChars_ba4f3.2.1 92 = .ok (.iinc 5 (-1), 3) := by decide +kernel
theorem eJ6_getChars_ba4f3_95 : decode rJ6_getChars_ba4f3.2.1 95 = .ok (.iload 5, 2) := by decide +kernel
theorem eJ6_getChars_ba4f3_97 : decode rJ6_getChars_ba4f3.2.1 97 = .ok (.getstatic 87, 3) := by decide +kernel
theorem eJ6_getChars_ba4f3_100 : decode rJ6_getChars_ba4f3.2.1 100 = .ok (.iload_n 0, 1) := by decide +kernel
theorem eJ6_getChars_ba4f3_101 : decode rJ6_getChars_ba4f3.2.1 101 = .ok (.ineg, 1) := by decide +kernel
theorem eJ6_getChars_ba4f3_102 : decode rJ6_getChars_ba4f3.2.1 102 = .ok (.baload, 1) := by decide +kernel
theorem eJ6_getChars_ba4f3_103 : decode rJ6_getChars_ba4f3.2.1 103 = .ok (.bastore, 1) := by decide +kernel
theorem eJ6_getChars_ba4f3_104 : decode rJ6_getChars_ba4f3.2.1 104 = .ok (.iload 6, 2) := by decide +kernel
theorem eJ6_getChars_ba4f3_106 : decode rJ6_getChars_ba4f3.2.1 106 = .ok (.ifCond .eq 12, 3) := by decide +kernel
theorem eJ6_getChars_ba4f3_109 : decode rJ6_getChars_ba4f3.2.1 109 = .ok (.aload_n 2, 1) := by decide +kernel
theorem eJ6_getChars_ba4f3_110 : decode rJ6_getChars_ba4f3.2.1 110 = .ok (.iinc 5 (-1), 3) := by decide +kernel
theorem eJ6_getChars_ba4f3_113 : decode rJ6_getChars_ba4f3.2.1 113 = .ok (.iload 5, 2) := by decide +kernel
theorem eJ6_getChars_ba4f3_115 : decode rJ6_getChars_ba4f3.2.1 115 = .ok (.bipush 45, 2) := by decide +kernel
theorem eJ6_getChars_ba4f3_117 : decode rJ6_getChars_ba4f3.2.1 117 = .ok (.bastore, 1) := by decide +kernel
theorem eJ6_getChars_ba4f3_118 : decode rJ6_getChars_ba4f3.2.1 118 = .ok (.iload 5, 2) := by decide +kernel
theorem eJ6_getChars_ba4f3_120 : decode rJ6_getChars_ba4f3.2.1 120 = .ok (.ireturn, 1) := by decide +kernel
theorem eJ4_charAt_5068e_0 : decode rJ4_charAt_5068e.2.1 0 = .ok (.aload_n 0, 1) := by decide +kernel
theorem eJ4_charAt_5068e_1 : decode rJ4_charAt_5068e.2.1 1 = .ok (.iload_n 1, 1) := by decide +kernel
theorem eJ4_charAt_5068e_2 : decode rJ4_charAt_5068e.2.1 2 = .ok (.invokespecial 329, 3) := by decide +kernel
theorem eJ4_charAt_5068e_5 : decode rJ4_charAt_5068e.2.1 5 = .ok (.ireturn, 1) := by decide +kernel
theorem eJ5_charAt_5068e_0 : decode rJ5_charAt_5068e.2.1 0 = .ok (.aload_n 0, 1) := by decide +kernel
theorem eJ5_charAt_5068e_1 : decode rJ5_charAt_5068e.2.1 1 = .ok (.getfield 22, 3) := by decide +kernel
theorem eJ5_charAt_5068e_4 : decode rJ5_charAt_5068e.2.1 4 = .ok (.istore_n 2, 1) := by decide +kernel
theorem eJ5_charAt_5068e_5 : decode rJ5_charAt_5068e.2.1 5 = .ok (.aload_n 0, 1) := by decide +kernel
theorem eJ5_charAt_5068e_6 : decode rJ5_charAt_5068e.2.1 6 = .ok (.getfield 15, 3) := by decide +kernel
theorem eJ5_charAt_5068e_9 : decode rJ5_charAt_5068e.2.1 9 = .ok (.astore_n 3, 1) := by decide +kernel
theorem eJ5_charAt_5068e_10 : decode rJ5_charAt_5068e.2.1 10 = .ok (.aload_n 0, 1) := by decide +kernel
theorem eJ5_charAt_5068e_11 : decode rJ5_charAt_5068e.2.1 11 = .ok (.getfield 79, 3) := by decide +kernel
theorem eJ5_charAt_5068e_14 : decode rJ5_charAt_5068e.2.1 14 = .ok (.aload_n 3, 1) := by decide +kernel
theorem eJ5_charAt_5068e_15 : decode rJ5_charAt_5068e.2.1 15 = .ok (.arraylength, 1) := by decide +kernel
theorem eJ5_charAt_5068e_16 : decode rJ5_charAt_5068e.2.1 16 = .ok (.iload_n 2, 1) := by decide +kernel
theorem eJ5_charAt_5068e_17 : decode rJ5_charAt_5068e.2.1 17 = .ok (.ishr, 1) := by decide +kernel
theorem eJ5_charAt_5068e_18 : decode rJ5_charAt_5068e.2.1 18 = .ok (.invokestatic 138, 3) := by decide +kernel
theorem eJ5_charAt_5068e_21 : decode rJ5_charAt_5068e.2.1 21 = .ok (.istore 4, 2) := by decide +kernel
theorem eJ5_charAt_5068e_23 : decode rJ5_charAt_5068e.2.1 23 = .ok (.iload_n 1, 1) := by decide +kernel
theorem eJ5_charAt_5068e_24 : decode rJ5_charAt_5068e.2.1 24 = .ok (.iload 4, 2) := by decide +kernel
theorem eJ5_charAt_5068e_26 : decode rJ5_charAt_5068e.2.1 26 = .ok (.invokestatic 144, 3) := by decide +kernel
theorem eJ5_charAt_5068e_29 : decode rJ5_charAt_5068e.2.1 29 = .ok (.iload_n 2, 1) := by decide +kernel
theorem eJ5_charAt_5068e_30 : decode rJ5_charAt_5068e.2.1 30 = .ok (.ifCond .ne 12, 3) := by decide +kernel
theorem eJ5_charAt_5068e_33 : decode rJ5_charAt_5068e.2.1 33 = .ok (.aload_n 3, 1) := by decide +kernel
theorem eJ5_charAt_5068e_34 : decode rJ5_charAt_5068e.2.1 34 = .ok (.iload_n 1, 1) := by decide +kernel
theorem eJ5_charAt_5068e_35 : decode rJ5_charAt_5068e.2.1 35 = .ok (.baload, 1) := by decide +kernel
theorem eJ5_charAt_5068e_36 : decode rJ5_charAt_5068e.2.1 36 = .ok (.sipush 255, 3) := by decide +kernel
theorem eJ5_charAt_5068e_39 : decode rJ5_charAt_5068e.2.1 39 = .ok (.iand, 1) := by decide +kernel
theorem eJ5_charAt_5068e_40 : decode rJ5_charAt_5068e.2.1 40 = .ok (.i2c, 1) := by decide +kernel
theorem eJ5_charAt_5068e_41 : decode rJ5_charAt_5068e.2.1 41 = .ok (.ireturn, 1) := by decide +kernel
theorem eJ5_charAt_5068e_42 : decode rJ5_charAt_5068e.2.1 42 = .ok (.aload_n 3, 1) := by decide +kernel
theorem eJ5_charAt_5068e_43 : decode rJ5_charAt_5068e.2.1 43 = .ok (.iload_n 1, 1) := by decide +kernel
theorem eJ5_charAt_5068e_44 : decode rJ5_charAt_5068e.2.1 44 = .ok (.invokestatic 148, 3) := by decide +kernel
theorem eJ5_charAt_5068e_47 : decode rJ5_charAt_5068e.2.1 47 = .ok (.ireturn, 1) := by decide +kernel
theorem eJ3_checkIndex_8e157_0 : decode rJ3_checkIndex_8e157.2.1 0 = .ok (.iload_n 0, 1) := by decide +kernel
theorem eJ3_checkIndex_8e157_1 : decode rJ3_checkIndex_8e157.2.1 1 = .ok (.ifCond .lt 8, 3) := by decide +kernel
theorem eJ3_checkIndex_8e157_4 : decode rJ3_checkIndex_8e157.2.1 4 = .ok (.iload_n 0, 1) := by decide +kernel
theorem eJ3_checkIndex_8e157_5 : decode rJ3_checkIndex_8e157.2.1 5 = .ok (.iload_n 1, 1) := by decide +kernel
theorem eJ3_checkIndex_8e157_6 : decode rJ3_checkIndex_8e157.2.1 6 = .ok (.if_icmp .lt 10, 3) := by decide +kernel
theorem eJ3_checkIndex_8e157_9 : decode rJ3_checkIndex_8e157.2.1 9 = .ok (.aload_n 2, 1) := by decide +kernel
theorem eJ3_checkIndex_8e157_10 : decode rJ3_checkIndex_8e157.2.1 10 = .ok (.iload_n 0, 1) := by decide +kernel
theorem eJ3_checkIndex_8e157_11 : decode rJ3_checkIndex_8e157.2.1 11 = .ok (.iload_n 1, 1) := by decide +kernel
theorem eJ3_checkIndex_8e157_12 : decode rJ3_checkIndex_8e157.2.1 12 = .ok (.invokestatic 95, 3) := by decide +kernel
theorem eJ3_checkIndex_8e157_15 : decode rJ3_checkIndex_8e157.2.1 15 = .ok (.athrow, 1) := by decide +kernel
theorem eJ3_checkIndex_8e157_16 : decode rJ3_checkIndex_8e157.2.1 16 = .ok (.iload_n 0, 1) := by decide +kernel
theorem eJ3_checkIndex_8e157_17 : decode rJ3_checkIndex_8e157.2.1 17 = .ok (.ireturn, 1) := by decide +kernel
theorem eJ4_length_8abf5_0 : decode rJ4_length_8abf5.2.1 0 = .ok (.aload_n 0, 1) := by decide +kernel
theorem eJ4_length_8abf5_1 : decode rJ4_length_8abf5.2.1 1 = .ok (.invokespecial 343, 3) := by decide +kernel
theorem eJ4_length_8abf5_4 : decode rJ4_length_8abf5.2.1 4 = .ok (.ireturn, 1) := by decide +kernel
theorem eJ4_setLength_d00df_0 : decode rJ4_setLength_d00df.2.1 0 = .ok (.aload_n 0, 1) := by decide +kernel
theorem eJ4_setLength_d00df_1 : decode rJ4_setLength_d00df.2.1 1 = .ok (.iload_n 1, 1) := by decide +kernel
theorem eJ4_setLength_d00df_2 : decode rJ4_setLength_d00df.2.1 2 = .ok (.invokespecial 333, 3) := by decide +kernel
theorem eJ4_setLength_d00df_5 : decode rJ4_setLength_d00df.2.1 5 = .ok (.return_, 1) := by decide +kernel
theorem eJ5_setLength_d00df_0 : decode rJ5_setLength_d00df.2.1 0 = .ok (.iload_n 1, 1) := by decide +kernel
theorem eJ5_setLength_d00df_1 : decode rJ5_setLength_d00df.2.1 1 = .ok (.ifCond .ge 12, 3) := by decide +kernel
theorem eJ5_setLength_d00df_4 : decode rJ5_setLength_d00df.2.1 4 = .ok (.new 129, 3) := by decide +kernel
theorem eJ5_setLength_d00df_7 : decode rJ5_setLength_d00df.2.1 7 = .ok (.dup, 1) := by decide +kernel
theorem eJ5_setLength_d00df_8 : decode rJ5_setLength_d00df.2.1 8 = .ok (.iload_n 1, 1) := by decide +kernel
theorem eJ5_setLength_d00df_9 : decode rJ5_setLength_d00df.2.1 9 = .ok (.invokespecial 131, 3) := by decide +kernel
theorem eJ5_setLength_d00df_12 : decode rJ5_setLength_d00df.2.1 12 = .ok (.athrow, 1) := by decide +kernel
theorem eJ5_setLength_d00df_13 : decode rJ5_setLength_d00df.2.1 13 = .ok (.aload_n 0, 1) := by decide +kernel
theorem eJ5_setLength_d00df_14 : decode rJ5_setLength_d00df.2.1 14 = .ok (.iload_n 1, 1) := by decide +kernel
theorem eJ5_setLength_d00df_15 : decode rJ5_setLength_d00df.2.1 15 = .ok (.invokevirtual 100, 3) := by decide +kernel
theorem eJ5_setLength_d00df_18 : decode rJ5_setLength_d00df.2.1 18 = .ok (.aload_n 0, 1) := by decide +kernel
theorem eJ5_setLength_d00df_19 : decode rJ5_setLength_d00df.2.1 19 = .ok (.getfield 79, 3) := by decide +kernel
theorem eJ5_setLength_d00df_22 : decode rJ5_setLength_d00df.2.1 22 = .ok (.iload_n 1, 1) := by decide +kernel
theorem eJ5_setLength_d00df_23 : decode rJ5_setLength_d00df.2.1 23 = .ok (.if_icmp .ge 40, 3) := by decide +kernel
theorem eJ5_setLength_d00df_26 : decode rJ5_setLength_d00df.2.1 26 = .ok (.aload_n 0, 1) := by decide +kernel
theorem eJ5_setLength_d00df_27 : decode rJ5_setLength_d00df.2.1 27 = .ok (.invokevirtual 83, 3) := by decide +kernel
theorem eJ5_setLength_d00df_30 : decode rJ5_setLength_d00df.2.1 30 = .ok (.ifCond .eq 18, 3) := by decide +kernel
theorem eJ5_setLength_d00df_33 : decode rJ5_setLength_d00df.2.1 33 = .ok (.aload_n 0, 1) := by decide +kernel
theorem eJ5_setLength_d00df_34 : decode rJ5_setLength_d00df.2.1 34 = .ok (.getfield 15, 3) := by decide +kernel
theorem eJ5_setLength_d00df_37 : decode rJ5_setLength_d00df.2.1 37 = .ok (.aload_n 0, 1) := by decide +kernel
theorem eJ5_setLength_d00df_38 : decode rJ5_setLength_d00df.2.1 38 = .ok (.getfield 79, 3) := by decide +kernel
theorem eJ5_setLength_d00df_41 : decode rJ5_setLength_d00df.2.1 41 = .ok (.iload_n 1, 1) := by decide +kernel
theorem eJ5_setLength_d00df_42 : decode rJ5_setLength_d00df.2.1 42 = .ok (.invokestatic 133, 3) := by decide +kernel
theorem eJ5_setLength_d00df_45 : decode rJ5_setLength_d00df.2.1 45 = .ok (.goto 31, 3) := by decide +kernel
theorem eJ5_setLength_d00df_48 : decode rJ5_setLength_d00df.2.1 48 = .ok (.aload_n 0, 1) := by decide +kernel
theorem eJ5_setLength_d00df_49 : decode rJ5_setLength_d00df.2.1 49 = .ok (.getfield 15, 3) := by decide +kernel
theorem eJ5_setLength_d00df_52 : decode rJ5_setLength_d00df.2.1 52 = .ok (.aload_n 0, 1) := by decide +kernel
theorem eJ5_setLength_d00df_53 : decode rJ5_setLength_d00df.2.1 53 = .ok (.getfield 79, 3) := by decide +kernel
theorem eJ5_setLength_d00df_56 : decode rJ5_setLength_d00df.2.1 56 = .ok (.iload_n 1, 1) := by decide +kernel
theorem eJ5_setLength_d00df_57 : decode rJ5_setLength_d00df.2.1 57 = .ok (.invokestatic 137, 3) := by decide +kernel
theorem eJ5_setLength_d00df_60 : decode rJ5_setLength_d00df.2.1 60 = .ok (.goto 16, 3) := by decide +kernel
theorem eJ5_setLength_d00df_63 : decode rJ5_setLength_d00df.2.1 63 = .ok (.aload_n 0, 1) := by decide +kernel
theorem eJ5_setLength_d00df_64 : decode rJ5_setLength_d00df.2.1 64 = .ok (.getfield 79, 3) := by decide +kernel
theorem eJ5_setLength_d00df_67 : decode rJ5_setLength_d00df.2.1 67 = .ok (.iload_n 1, 1) := by decide +kernel
theorem eJ5_setLength_d00df_68 : decode rJ5_setLength_d00df.2.1 68 = .ok (.if_icmp .le 8, 3) := by decide +kernel
theorem eJ5_setLength_d00df_71 : decode rJ5_setLength_d00df.2.1 71 = .ok (.aload_n 0, 1) := by decide +kernel
theorem eJ5_setLength_d00df_72 : decode rJ5_setLength_d00df.2.1 72 = .ok (.iconst 1, 1) := by decide +kernel
theorem eJ5_setLength_d00df_73 : decode rJ5_setLength_d00df.2.1 73 = .ok (.putfield 73, 3) := by decide +kernel
theorem eJ5_setLength_d00df_76 : decode rJ5_setLength_d00df.2.1 76 = .ok (.aload_n 0, 1) := by decide +kernel
theorem eJ5_setLength_d00df_77 : decode rJ5_setLength_d00df.2.1 77 = .ok (.iload_n 1, 1) := by decide +kernel
theorem eJ5_setLength_d00df_78 : decode rJ5_setLength_d00df.2.1 78 = .ok (.putfield 79, 3) := by decide +kernel
theorem eJ5_setLength_d00df_81 : decode rJ5_setLength_d00df.2.1 81 = .ok (.return_, 1) := by decide +kernel
theorem eJ0_length_8abf5_0 : decode rJ0_length_8abf5.2.1 0 = .ok (.aload_n 0, 1) := by decide +kernel
theorem eJ0_length_8abf5_1 : decode rJ0_length_8abf5.2.1 1 = .ok (.getfield 9, 3) := by decide +kernel
theorem eJ0_length_8abf5_4 : decode rJ0_length_8abf5.2.1 4 = .ok (.arraylength, 1) := by decide +kernel
theorem eJ0_length_8abf5_5 : decode rJ0_length_8abf5.2.1 5 = .ok (.aload_n 0, 1) := by decide +kernel
theorem eJ0_length_8abf5_6 : decode rJ0_length_8abf5.2.1 6 = .ok (.invokevirtual 335, 3) := by decide +kernel
theorem eJ0_length_8abf5_9 : decode rJ0_length_8abf5.2.1 9 = .ok (.ishr, 1) := by decide +kernel
theorem eJ0_length_8abf5_10 : decode rJ0_length_8abf5.2.1 10 = .ok (.ireturn, 1) := by decide +kernel
theorem eJ0_coder_7d493_0 : decode rJ0_coder_7d493.2.1 0 = .ok (.getstatic 38, 3) := by decide +kernel
theorem eJ0_coder_7d493_3 : decode rJ0_coder_7d493.2.1 3 = .ok (.ifCond .eq 10, 3) := by decide +kernel
theorem eJ0_coder_7d493_6 : decode rJ0_coder_7d493.2.1 6 = .ok (.aload_n 0, 1) := by decide +kernel
theorem eJ0_coder_7d493_7 : decode rJ0_coder_7d493.2.1 7 = .ok (.getfield 15, 3) := by decide +kernel
theorem eJ0_coder_7d493_10 : decode rJ0_coder_7d493.2.1 10 = .ok (.goto 4, 3) := by decide +kernel
theorem eJ0_coder_7d493_13 : decode rJ0_coder_7d493.2.1 13 = .ok (.iconst 1, 1) := by decide +kernel
theorem eJ0_coder_7d493_14 : decode rJ0_coder_7d493.2.1 14 = .ok (.ireturn, 1) := by decide +kernel
theorem eJ0_charAt_5068e_0 : decode rJ0_charAt_5068e.2.1 0 = .ok (.aload_n 0, 1) := by decide +kernel
theorem eJ0_charAt_5068e_1 : decode rJ0_charAt_5068e.2.1 1 = .ok (.invokevirtual 492, 3) := by decide +kernel
theorem eJ0_charAt_5068e_4 : decode rJ0_charAt_5068e.2.1 4 = .ok (.ifCond .eq 12, 3) := by decide +kernel
theorem eJ0_charAt_5068e_7 : decode rJ0_charAt_5068e.2.1 7 = .ok (.aload_n 0, 1) := by decide +kernel
theorem eJ0_charAt_5068e_8 : decode rJ0_charAt_5068e.2.1 8 = .ok (.getfield 9, 3) := by decide +kernel
theorem eJ0_charAt_5068e_11 : decode rJ0_charAt_5068e.2.1 11 = .ok (.iload_n 1, 1) := by decide +kernel
theorem eJ0_charAt_5068e_12 : decode rJ0_charAt_5068e.2.1 12 = .ok (.invokestatic 495, 3) := by decide +kernel
theorem eJ0_charAt_5068e_15 : decode rJ0_charAt_5068e.2.1 15 = .ok (.ireturn, 1) := by decide +kernel
theorem eJ0_charAt_5068e_16 : decode rJ0_charAt_5068e.2.1 16 = .ok (.aload_n 0, 1) := by decide +kernel
theorem eJ0_charAt_5068e_17 : decode rJ0_charAt_5068e.2.1 17 = .ok (.getfield 9, 3) := by decide +kernel
theorem eJ0_charAt_5068e_20 : decode rJ0_charAt_5068e.2.1 20 = .ok (.iload_n 1, 1) := by decide +kernel
theorem eJ0_charAt_5068e_21 : decode rJ0_charAt_5068e.2.1 21 = .ok (.invokestatic 498, 3) := by decide +kernel
theorem eJ0_charAt_5068e_24 : decode rJ0_charAt_5068e.2.1 24 = .ok (.ireturn, 1) := by decide +kernel
theorem eJ0_isLatin1_aae02_0 : decode rJ0_isLatin1_aae02.2.1 0 = .ok (.getstatic 38, 3) := by decide +kernel
theorem eJ0_isLatin1_aae02_3 : decode rJ0_isLatin1_aae02.2.1 3 = .ok (.ifCond .eq 14, 3) := by decide +kernel
theorem eJ0_isLatin1_aae02_6 : decode rJ0_isLatin1_aae02.2.1 6 = .ok (.aload_n 0, 1) := by decide +kernel
theorem eJ0_isLatin1_aae02_7 : decode rJ0_isLatin1_aae02.2.1 7 = .ok (.getfield 15, 3) := by decide +kernel
theorem eJ0_isLatin1_aae02_10 : decode rJ0_isLatin1_aae02.2.1 10 = .ok (.ifCond .ne 7, 3) := by decide +kernel
theorem eJ0_isLatin1_aae02_13 : decode rJ0_isLatin1_aae02.2.1 13 = .ok (.iconst 1, 1) := by decide +kernel
theorem eJ0_isLatin1_aae02_14 : decode rJ0_isLatin1_aae02.2.1 14 = .ok (.goto 4, 3) := by decide +kernel
theorem eJ0_isLatin1_aae02_17 : decode rJ0_isLatin1_aae02.2.1 17 = .ok (.iconst 0, 1) := by decide +kernel
theorem eJ0_isLatin1_aae02_18 : decode rJ0_isLatin1_aae02.2.1 18 = .ok (.ireturn, 1) := by decide +kernel
theorem eJ1_charAt_3b067_0 : decode rJ1_charAt_3b067.2.1 0 = .ok (.iload_n 1, 1) := by decide +kernel
theorem eJ1_charAt_3b067_1 : decode rJ1_charAt_3b067.2.1 1 = .ok (.aload_n 0, 1) := by decide +kernel
theorem eJ1_charAt_3b067_2 : decode rJ1_charAt_3b067.2.1 2 = .ok (.arraylength, 1) := by decide +kernel
theorem eJ1_charAt_3b067_3 : decode rJ1_charAt_3b067.2.1 3 = .ok (.invokestatic 9, 3) := by decide +kernel
theorem eJ1_charAt_3b067_6 : decode rJ1_charAt_3b067.2.1 6 = .ok (.aload_n 0, 1) := by decide +kernel
theorem eJ1_charAt_3b067_7 : decode rJ1_charAt_3b067.2.1 7 = .ok (.iload_n 1, 1) := by decide +kernel
theorem eJ1_charAt_3b067_8 : decode rJ1_charAt_3b067.2.1 8 = .ok (.baload, 1) := by decide +kernel
theorem eJ1_charAt_3b067_9 : decode rJ1_charAt_3b067.2.1 9 = .ok (.sipush 255, 3) := by decide +kernel
theorem eJ1_charAt_3b067_12 : decode rJ1_charAt_3b067.2.1 12 = .ok (.iand, 1) := by decide +kernel
theorem eJ1_charAt_3b067_13 : decode rJ1_charAt_3b067.2.1 13 = .ok (.i2c, 1) := by decide +kernel
theorem eJ1_charAt_3b067_14 : decode rJ1_charAt_3b067.2.1 14 = .ok (.ireturn, 1) := by decide +kernel
theorem eJ0_checkIndex_df160_0 : decode rJ0_checkIndex_df160.2.1 0 = .ok (.iload_n 0, 1) := by decide +kernel
theorem eJ0_checkIndex_df160_1 : decode rJ0_checkIndex_df160.2.1 1 = .ok (.iload_n 1, 1) := by decide +kernel
theorem eJ0_checkIndex_df160_2 : decode rJ0_checkIndex_df160.2.1 2 = .ok (.getstatic 1053, 3) := by decide +kernel
theorem eJ0_checkIndex_df160_5 : decode rJ0_checkIndex_df160.2.1 5 = .ok (.invokestatic 1059, 3) := by decide +kernel
theorem eJ0_checkIndex_df160_8 : decode rJ0_checkIndex_df160.2.1 8 = .ok (.pop, 1) := by decide +kernel
theorem eJ0_checkIndex_df160_9 : decode rJ0_checkIndex_df160.2.1 9 = .ok (.return_, 1) := by decide +kernel
theorem eJ6_bitCount_0f7a4_0 : decode rJ6_bitCount_0f7a4.2.1 0 = .ok (.iload_n 0, 1) := by decide +kernel
theorem eJ6_bitCount_0f7a4_1 : decode rJ6_bitCount_0f7a4.2.1 1 = .ok (.iload_n 0, 1) := by decide +kernel
theorem eJ6_bitCount_0f7a4_2 : decode rJ6_bitCount_0f7a4.2.1 2 = .ok (.iconst 1, 1) := by decide +kernel
theorem eJ6_bitCount_0f7a4_3 : decode rJ6_bitCount_0f7a4.2.1 3 = .ok (.iushr, 1) := by decide +kernel
theorem eJ6_bitCount_0f7a4_4 : decode rJ6_bitCount_0f7a4.2.1 4 = .ok (.ldc_w 265, 3) := by decide +kernel
theorem eJ6_bitCount_0f7a4_7 : decode rJ6_bitCount_0f7a4.2.1 7 = .ok (.iand, 1) := by decide +kernel
theorem eJ6_bitCount_0f7a4_8 : decode rJ6_bitCount_0f7a4.2.1 8 = .ok (.isub, 1) := by decide +kernel
theorem eJ6_bitCount_0f7a4_9 : decode rJ6_bitCount_0f7a4.2.1 9 = .ok (.istore_n 0, 1) := by decide +kernel
theorem eJ6_bitCount_0f7a4_10 : decode rJ6_bitCount_0f7a4.2.1 10 = .ok (.iload_n 0, 1) := by decide +kernel
theorem eJ6_bitCount_0f7a4_11 : decode rJ6_bitCount_0f7a4.2.1 11 = .ok (.ldc_w 266, 3) := by decide +kernel
theorem eJ6_bitCount_0f7a4_14 : decode rJ6_bitCount_0f7a4.2.1 14 = .ok (.iand, 1) := by decide +kernel
theorem eJ6_bitCount_0f7a4_15 : decode rJ6_bitCount_0f7a4.2.1 15 = .ok (.iload_n 0, 1) := by decide +kernel
theorem eJ6_bitCount_0f7a4_16 : decode rJ6_bitCount_0f7a4.2.1 16 = .ok (.iconst 2, 1) := by decide +kernel
theorem eJ6_bitCount_0f7a4_17 : decode rJ6_bitCount_0f7a4.2.1 17 = .ok (.iushr, 1) := by decide +kernel
theorem eJ6_bitCount_0f7a4_18 : decode rJ6_bitCount_0f7a4.2.1 18 = .ok (.ldc_w 266, 3) := by decide +kernel
theorem eJ6_bitCount_0f7a4_21 : decode rJ6_bitCount_0f7a4.2.1 21 = .ok (.iand, 1) := by decide +kernel
theorem eJ6_bitCount_0f7a4_22 : decode rJ6_bitCount_0f7a4.2.1 22 = .ok (.iadd, 1) := by decide +kernel
theorem eJ6_bitCount_0f7a4_23 : decode rJ6_bitCount_0f7a4.2.1 23 = .ok (.istore_n 0, 1) := by decide +kernel
theorem eJ6_bitCount_0f7a4_24 : decode rJ6_bitCount_0f7a4.2.1 24 = .ok (.iload_n 0, 1) := by decide +kernel
theorem eJ6_bitCount_0f7a4_25 : decode rJ6_bitCount_0f7a4.2.1 25 = .ok (.iload_n 0, 1) := by decide +kernel
theorem eJ6_bitCount_0f7a4_26 : decode rJ6_bitCount_0f7a4.2.1 26 = .ok (.iconst 4, 1) := by decide +kernel
theorem eJ6_bitCount_0f7a4_27 : decode rJ6_bitCount_0f7a4.2.1 27 = .ok (.iushr, 1) := by decide +kernel
theorem eJ6_bitCount_0f7a4_28 : decode rJ6_bitCount_0f7a4.2.1 28 = .ok (.iadd, 1) := by decide +kernel
theorem eJ6_bitCount_0f7a4_29 : decode rJ6_bitCount_0f7a4.2.1 29 = .ok (.ldc_w 267, 3) := by decide +kernel
theorem eJ6_bitCount_0f7a4_32 : decode rJ6_bitCount_0f7a4.2.1 32 = .ok (.iand, 1) := by decide +kernel
theorem eJ6_bitCount_0f7a4_33 : decode rJ6_bitCount_0f7a4.2.1 33 = .ok (.istore_n 0, 1) := by decide +kernel
theorem eJ6_bitCount_0f7a4_34 : decode rJ6_bitCount_0f7a4.2.1 34 = .ok (.iload_n 0, 1) := by decide +kernel
theorem eJ6_bitCount_0f7a4_35 : decode rJ6_bitCount_0f7a4.2.1 35 = .ok (.iload_n 0, 1) := by decide +kernel
theorem eJ6_bitCount_0f7a4_36 : decode rJ6_bitCount_0f7a4.2.1 36 = .ok (.bipush 8, 2) := by decide +kernel
theorem eJ6_bitCount_0f7a4_38 : decode rJ6_bitCount_0f7a4.2.1 38 = .ok (.iushr, 1) := by decide +kernel
theorem eJ6_bitCount_0f7a4_39 : decode rJ6_bitCount_0f7a4.2.1 39 = .ok (.iadd, 1) := by decide +kernel
theorem eJ6_bitCount_0f7a4_40 : decode rJ6_bitCount_0f7a4.2.1 40 = .ok (.istore_n 0, 1) := by decide +kernel
theorem eJ6_bitCount_0f7a4_41 : decode rJ6_bitCount_0f7a4.2.1 41 = .ok (.iload_n 0, 1) := by decide +kernel
theorem eJ6_bitCount_0f7a4_42 : decode rJ6_bitCount_0f7a4.2.1 42 = .ok (.iload_n 0, 1) := by decide +kernel
theorem eJ6_bitCount_0f7a4_43 : decode rJ6_bitCount_0f7a4.2.1 43 = .ok (.bipush 16, 2) := by decide +kernel
theorem eJ6_bitCount_0f7a4_45 : decode rJ6_bitCount_0f7a4.2.1 45 = .ok (.iushr, 1) := by decide +kernel
theorem eJ6_bitCount_0f7a4_46 : decode rJ6_bitCount_0f7a4.2.1 46 = .ok (.iadd, 1) := by decide +kernel
theorem eJ6_bitCount_0f7a4_47 : decode rJ6_bitCount_0f7a4.2.1 47 = .ok (.istore_n 0, 1) := by decide +kernel
theorem eJ6_bitCount_0f7a4_48 : decode rJ6_bitCount_0f7a4.2.1 48 = .ok (.iload_n 0, 1) := by decide +kernel
theorem eJ6_bitCount_0f7a4_49 : decode rJ6_bitCount_0f7a4.2.1 49 = .ok (.bipush 63, 2) := by decide +kernel
theorem eJ6_bitCount_0f7a4_51 : decode rJ6_bitCount_0f7a4.2.1 51 = .ok (.iand, 1) := by decide +kernel
theorem eJ6_bitCount_0f7a4_52 : decode rJ6_bitCount_0f7a4.2.1 52 = .ok (.ireturn, 1) := by decide +kernel
theorem eJ6_compare_7cf53_0 : decode rJ6_compare_7cf53.2.1 0 = .ok (.iload_n 0, 1) := by decide +kernel
theorem eJ6_compare_7cf53_1 : decode rJ6_compare_7cf53.2.1 1 = .ok (.iload_n 1, 1) := by decide +kernel
theorem eJ6_compare_7cf53_2 : decode rJ6_compare_7cf53.2.1 2 = .ok (.if_icmp .ge 7, 3) := by decide +kernel
theorem eJ6_compare_7cf53_5 : decode rJ6_compare_7cf53.2.1 5 = .ok (.iconst (-1), 1) := by decide +kernel
theorem eJ6_compare_7cf53_6 : decode rJ6_compare_7cf53.2.1 6 = .ok (.goto 13, 3) := by decide +kernel
theorem eJ6_compare_7cf53_9 : decode rJ6_compare_7cf53.2.1 9 = .ok (.iload_n 0, 1) := by decide +kernel
theorem eJ6_compare_7cf53_10 : decode rJ6_compare_7cf53.2.1 10 = .ok (.iload_n 1, 1) := by decide +kernel
theorem eJ6_compare_7cf53_11 : decode rJ6_compare_7cf53.2.1 11 = .ok (.if_icmp .ne 7, 3) := by decide +kernel
theorem eJ6_compare_7cf53_14 : decode rJ6_compare_7cf53.2.1 14 = .ok (.iconst 0, 1) := by decide +kernel
theorem eJ6_compare_7cf53_15 : decode rJ6_compare_7cf53.2.1 15 = .ok (.goto 4, 3) := by decide +kernel
theorem eJ6_compare_7cf53_18 : decode rJ6_compare_7cf53.2.1 18 = .ok (.iconst 1, 1) := by decide +kernel
theorem eJ6_compare_7cf53_19 : decode rJ6_compare_7cf53.2.1 19 = .ok (.ireturn, 1) := by decide +kernel
