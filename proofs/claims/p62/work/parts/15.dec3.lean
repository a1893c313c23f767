theorem eL_at_0 : decode rL_at.2.1 0 = .ok (.iload_n 1, 1) := by decide +kernel
theorem eL_at_1 : decode rL_at.2.1 1 = .ok (.aload_n 0, 1) := by decide +kernel
theorem eL_at_2 : decode rL_at.2.1 2 = .ok (.arraylength, 1) := by decide +kernel
theorem eL_at_3 : decode rL_at.2.1 3 = .ok (.if_icmp .ge 9, 3) := by decide +kernel
theorem eL_at_6 : decode rL_at.2.1 6 = .ok (.aload_n 0, 1) := by decide +kernel
theorem eL_at_7 : decode rL_at.2.1 7 = .ok (.iload_n 1, 1) := by decide +kernel
theorem eL_at_8 : decode rL_at.2.1 8 = .ok (.iaload, 1) := by decide +kernel
theorem eL_at_9 : decode rL_at.2.1 9 = .ok (.goto 4, 3) := by decide +kernel
theorem eL_at_12 : decode rL_at.2.1 12 = .ok (.iconst 0, 1) := by decide +kernel
theorem eL_at_13 : decode rL_at.2.1 13 = .ok (.ireturn, 1) := by decide +kernel
theorem eL_put_0 : decode rL_put.2.1 0 = .ok (.iconst 0, 1) := by decide +kernel
theorem eL_put_1 : decode rL_put.2.1 1 = .ok (.istore_n 2, 1) := by decide +kernel
theorem eL_put_2 : decode rL_put.2.1 2 = .ok (.iload_n 2, 1) := by decide +kernel
theorem eL_put_3 : decode rL_put.2.1 3 = .ok (.aload_n 1, 1) := by decide +kernel
theorem eL_put_4 : decode rL_put.2.1 4 = .ok (.invokevirtual 7, 3) := by decide +kernel
theorem eL_put_7 : decode rL_put.2.1 7 = .ok (.if_icmp .ge 19, 3) := by decide +kernel
theorem eL_put_10 : decode rL_put.2.1 10 = .ok (.aload_n 0, 1) := by decide +kernel
theorem eL_put_11 : decode rL_put.2.1 11 = .ok (.aload_n 1, 1) := by decide +kernel
theorem eL_put_12 : decode rL_put.2.1 12 = .ok (.iload_n 2, 1) := by decide +kernel
theorem eL_put_13 : decode rL_put.2.1 13 = .ok (.invokevirtual 13, 3) := by decide +kernel
theorem eL_put_16 : decode rL_put.2.1 16 = .ok (.invokevirtual 17, 3) := by decide +kernel
theorem eL_put_19 : decode rL_put.2.1 19 = .ok (.pop, 1) := by decide +kernel
theorem eL_put_20 : decode rL_put.2.1 20 = .ok (.iinc 2 1, 3) := by decide +kernel
theorem eL_put_23 : decode rL_put.2.1 23 = .ok (.goto (-21), 3) := by decide +kernel
theorem eL_put_26 : decode rL_put.2.1 26 = .ok (.return_, 1) := by decide +kernel
theorem eL_act_0 : decode rL_act.2.1 0 = .ok (.iload_n 1, 1) := by decide +kernel
theorem eL_act_1 : decode rL_act.2.1 1 = .ok (.tableswitch 80 0 5 #[39, 48, 54, 61, 67, 73], 39) := by decide +kernel
theorem eL_act_40 : decode rL_act.2.1 40 = .ok (.aload_n 0, 1) := by decide +kernel
theorem eL_act_41 : decode rL_act.2.1 41 = .ok (.iload_n 2, 1) := by decide +kernel
theorem eL_act_42 : decode rL_act.2.1 42 = .ok (.iload_n 3, 1) := by decide +kernel
theorem eL_act_43 : decode rL_act.2.1 43 = .ok (.iload 4, 2) := by decide +kernel
theorem eL_act_45 : decode rL_act.2.1 45 = .ok (.invokevirtual 43, 3) := by decide +kernel
theorem eL_act_48 : decode rL_act.2.1 48 = .ok (.ireturn, 1) := by decide +kernel
theorem eL_act_49 : decode rL_act.2.1 49 = .ok (.aload_n 0, 1) := by decide +kernel
theorem eL_act_50 : decode rL_act.2.1 50 = .ok (.iload_n 2, 1) := by decide +kernel
theorem eL_act_51 : decode rL_act.2.1 51 = .ok (.invokevirtual 47, 3) := by decide +kernel
theorem eL_act_54 : decode rL_act.2.1 54 = .ok (.ireturn, 1) := by decide +kernel
theorem eL_act_55 : decode rL_act.2.1 55 = .ok (.aload_n 0, 1) := by decide +kernel
theorem eL_act_56 : decode rL_act.2.1 56 = .ok (.iload_n 2, 1) := by decide +kernel
theorem eL_act_57 : decode rL_act.2.1 57 = .ok (.iload_n 3, 1) := by decide +kernel
theorem eL_act_58 : decode rL_act.2.1 58 = .ok (.invokevirtual 51, 3) := by decide +kernel
theorem eL_act_61 : decode rL_act.2.1 61 = .ok (.ireturn, 1) := by decide +kernel
theorem eL_act_62 : decode rL_act.2.1 62 = .ok (.aload_n 0, 1) := by decide +kernel
theorem eL_act_63 : decode rL_act.2.1 63 = .ok (.iload_n 2, 1) := by decide +kernel
theorem eL_act_64 : decode rL_act.2.1 64 = .ok (.invokevirtual 54, 3) := by decide +kernel
theorem eL_act_67 : decode rL_act.2.1 67 = .ok (.ireturn, 1) := by decide +kernel
theorem eL_act_68 : decode rL_act.2.1 68 = .ok (.aload_n 0, 1) := by decide +kernel
theorem eL_act_69 : decode rL_act.2.1 69 = .ok (.iload_n 2, 1) := by decide +kernel
theorem eL_act_70 : decode rL_act.2.1 70 = .ok (.invokevirtual 57, 3) := by decide +kernel
theorem eL_act_73 : decode rL_act.2.1 73 = .ok (.ireturn, 1) := by decide +kernel
theorem eL_act_74 : decode rL_act.2.1 74 = .ok (.aload_n 0, 1) := by decide +kernel
theorem eL_act_75 : decode rL_act.2.1 75 = .ok (.iload_n 2, 1) := by decide +kernel
theorem eL_act_76 : decode rL_act.2.1 76 = .ok (.iload_n 3, 1) := by decide +kernel
theorem eL_act_77 : decode rL_act.2.1 77 = .ok (.invokevirtual 60, 3) := by decide +kernel
theorem eL_act_80 : decode rL_act.2.1 80 = .ok (.ireturn, 1) := by decide +kernel
theorem eL_act_81 : decode rL_act.2.1 81 = .ok (.aload_n 0, 1) := by decide +kernel
theorem eL_act_82 : decode rL_act.2.1 82 = .ok (.iload_n 2, 1) := by decide +kernel
theorem eL_act_83 : decode rL_act.2.1 83 = .ok (.invokevirtual 63, 3) := by decide +kernel
theorem eL_act_86 : decode rL_act.2.1 86 = .ok (.ireturn, 1) := by decide +kernel
theorem eL_act_87 : decode rL_act.2.1 87 = .ok (.astore 5, 2) := by decide +kernel
theorem eL_act_89 : decode rL_act.2.1 89 = .ok (.bipush (-2), 2) := by decide +kernel
theorem eL_act_91 : decode rL_act.2.1 91 = .ok (.ireturn, 1) := by decide +kernel
theorem eL_act_92 : decode rL_act.2.1 92 = .ok (.astore 5, 2) := by decide +kernel
theorem eL_act_94 : decode rL_act.2.1 94 = .ok (.bipush (-3), 2) := by decide +kernel
theorem eL_act_96 : decode rL_act.2.1 96 = .ok (.ireturn, 1) := by decide +kernel
theorem eL_act_97 : decode rL_act.2.1 97 = .ok (.astore 5, 2) := by decide +kernel
theorem eL_act_99 : decode rL_act.2.1 99 = .ok (.bipush (-4), 2) := by decide +kernel
theorem eL_act_101 : decode rL_act.2.1 101 = .ok (.ireturn, 1) := by decide +kernel
theorem eL_act_102 : decode rL_act.2.1 102 = .ok (.astore 5, 2) := by decide +kernel
theorem eL_act_104 : decode rL_act.2.1 104 = .ok (.bipush (-4), 2) := by decide +kernel
theorem eL_act_106 : decode rL_act.2.1 106 = .ok (.ireturn, 1) := by decide +kernel
theorem eL_cars_0 : decode rL_cars.2.1 0 = .ok (.iconst 3, 1) := by decide +kernel
theorem eL_cars_1 : decode rL_cars.2.1 1 = .ok (.anewarray 74, 3) := by decide +kernel
theorem eL_cars_4 : decode rL_cars.2.1 4 = .ok (.astore_n 1, 1) := by decide +kernel
theorem eL_cars_5 : decode rL_cars.2.1 5 = .ok (.iconst 0, 1) := by decide +kernel
theorem eL_cars_6 : decode rL_cars.2.1 6 = .ok (.istore_n 2, 1) := by decide +kernel
theorem eL_cars_7 : decode rL_cars.2.1 7 = .ok (.iload_n 2, 1) := by decide +kernel
theorem eL_cars_8 : decode rL_cars.2.1 8 = .ok (.iconst 3, 1) := by decide +kernel
theorem eL_cars_9 : decode rL_cars.2.1 9 = .ok (.if_icmp .ge 72, 3) := by decide +kernel
theorem eL_cars_12 : decode rL_cars.2.1 12 = .ok (.aload_n 1, 1) := by decide +kernel
theorem eL_cars_13 : decode rL_cars.2.1 13 = .ok (.iload_n 2, 1) := by decide +kernel
theorem eL_cars_14 : decode rL_cars.2.1 14 = .ok (.bipush 6, 2) := by decide +kernel
theorem eL_cars_16 : decode rL_cars.2.1 16 = .ok (.newarray .int, 2) := by decide +kernel
theorem eL_cars_18 : decode rL_cars.2.1 18 = .ok (.dup, 1) := by decide +kernel
theorem eL_cars_19 : decode rL_cars.2.1 19 = .ok (.iconst 0, 1) := by decide +kernel
theorem eL_cars_20 : decode rL_cars.2.1 20 = .ok (.aload_n 0, 1) := by decide +kernel
theorem eL_cars_21 : decode rL_cars.2.1 21 = .ok (.iload_n 2, 1) := by decide +kernel
theorem eL_cars_22 : decode rL_cars.2.1 22 = .ok (.invokevirtual 76, 3) := by decide +kernel
theorem eL_cars_25 : decode rL_cars.2.1 25 = .ok (.iastore, 1) := by decide +kernel
theorem eL_cars_26 : decode rL_cars.2.1 26 = .ok (.dup, 1) := by decide +kernel
theorem eL_cars_27 : decode rL_cars.2.1 27 = .ok (.iconst 1, 1) := by decide +kernel
theorem eL_cars_28 : decode rL_cars.2.1 28 = .ok (.aload_n 0, 1) := by decide +kernel
theorem eL_cars_29 : decode rL_cars.2.1 29 = .ok (.iload_n 2, 1) := by decide +kernel
theorem eL_cars_30 : decode rL_cars.2.1 30 = .ok (.invokevirtual 79, 3) := by decide +kernel
theorem eL_cars_33 : decode rL_cars.2.1 33 = .ok (.iastore, 1) := by decide +kernel
theorem eL_cars_34 : decode rL_cars.2.1 34 = .ok (.dup, 1) := by decide +kernel
theorem eL_cars_35 : decode rL_cars.2.1 35 = .ok (.iconst 2, 1) := by decide +kernel
theorem eL_cars_36 : decode rL_cars.2.1 36 = .ok (.aload_n 0, 1) := by decide +kernel
theorem eL_cars_37 : decode rL_cars.2.1 37 = .ok (.iload_n 2, 1) := by decide +kernel
theorem eL_cars_38 : decode rL_cars.2.1 38 = .ok (.invokevirtual 82, 3) := by decide +kernel
theorem eL_cars_41 : decode rL_cars.2.1 41 = .ok (.iastore, 1) := by decide +kernel
theorem eL_cars_42 : decode rL_cars.2.1 42 = .ok (.dup, 1) := by decide +kernel
theorem eL_cars_43 : decode rL_cars.2.1 43 = .ok (.iconst 3, 1) := by decide +kernel
theorem eL_cars_44 : decode rL_cars.2.1 44 = .ok (.aload_n 0, 1) := by decide +kernel
theorem eL_cars_45 : decode rL_cars.2.1 45 = .ok (.iload_n 2, 1) := by decide +kernel
theorem eL_cars_46 : decode rL_cars.2.1 46 = .ok (.invokevirtual 85, 3) := by decide +kernel
theorem eL_cars_49 : decode rL_cars.2.1 49 = .ok (.iastore, 1) := by decide +kernel
theorem eL_cars_50 : decode rL_cars.2.1 50 = .ok (.dup, 1) := by decide +kernel
theorem eL_cars_51 : decode rL_cars.2.1 51 = .ok (.iconst 4, 1) := by decide +kernel
theorem eL_cars_52 : decode rL_cars.2.1 52 = .ok (.aload_n 0, 1) := by decide +kernel
theorem eL_cars_53 : decode rL_cars.2.1 53 = .ok (.iload_n 2, 1) := by decide +kernel
theorem eL_cars_54 : decode rL_cars.2.1 54 = .ok (.invokevirtual 88, 3) := by decide +kernel
theorem eL_cars_57 : decode rL_cars.2.1 57 = .ok (.ifCond .eq 7, 3) := by decide +kernel
theorem eL_cars_60 : decode rL_cars.2.1 60 = .ok (.iconst 0, 1) := by decide +kernel
theorem eL_cars_61 : decode rL_cars.2.1 61 = .ok (.goto 4, 3) := by decide +kernel
theorem eL_cars_64 : decode rL_cars.2.1 64 = .ok (.iconst 1, 1) := by decide +kernel
theorem eL_cars_65 : decode rL_cars.2.1 65 = .ok (.iastore, 1) := by decide +kernel
theorem eL_cars_66 : decode rL_cars.2.1 66 = .ok (.dup, 1) := by decide +kernel
theorem eL_cars_67 : decode rL_cars.2.1 67 = .ok (.iconst 5, 1) := by decide +kernel
theorem eL_cars_68 : decode rL_cars.2.1 68 = .ok (.aload_n 0, 1) := by decide +kernel
theorem eL_cars_69 : decode rL_cars.2.1 69 = .ok (.iload_n 2, 1) := by decide +kernel
theorem eL_cars_70 : decode rL_cars.2.1 70 = .ok (.invokevirtual 92, 3) := by decide +kernel
theorem eL_cars_73 : decode rL_cars.2.1 73 = .ok (.iastore, 1) := by decide +kernel
theorem eL_cars_74 : decode rL_cars.2.1 74 = .ok (.aastore, 1) := by decide +kernel
theorem eL_cars_75 : decode rL_cars.2.1 75 = .ok (.iinc 2 1, 3) := by decide +kernel
theorem eL_cars_78 : decode rL_cars.2.1 78 = .ok (.goto (-71), 3) := by decide +kernel
theorem eL_cars_81 : decode rL_cars.2.1 81 = .ok (.aload_n 1, 1) := by decide +kernel
theorem eL_cars_82 : decode rL_cars.2.1 82 = .ok (.areturn, 1) := by decide +kernel
theorem eL_people_0 : decode rL_people.2.1 0 = .ok (.new 95, 3) := by decide +kernel
theorem eL_people_3 : decode rL_people.2.1 3 = .ok (.dup, 1) := by decide +kernel
theorem eL_people_4 : decode rL_people.2.1 4 = .ok (.invokespecial 97, 3) := by decide +kernel
theorem eL_people_7 : decode rL_people.2.1 7 = .ok (.astore_n 1, 1) := by decide +kernel
theorem eL_people_8 : decode rL_people.2.1 8 = .ok (.iconst 0, 1) := by decide +kernel
theorem eL_people_9 : decode rL_people.2.1 9 = .ok (.istore_n 2, 1) := by decide +kernel
theorem eL_people_10 : decode rL_people.2.1 10 = .ok (.iload_n 2, 1) := by decide +kernel
theorem eL_people_11 : decode rL_people.2.1 11 = .ok (.aload_n 0, 1) := by decide +kernel
theorem eL_people_12 : decode rL_people.2.1 12 = .ok (.invokevirtual 34, 3) := by decide +kernel
theorem eL_people_15 : decode rL_people.2.1 15 = .ok (.if_icmp .ge 83, 3) := by decide +kernel
theorem eL_people_18 : decode rL_people.2.1 18 = .ok (.aload_n 1, 1) := by decide +kernel
theorem eL_people_19 : decode rL_people.2.1 19 = .ok (.bipush 7, 2) := by decide +kernel
theorem eL_people_21 : decode rL_people.2.1 21 = .ok (.newarray .int, 2) := by decide +kernel
theorem eL_people_23 : decode rL_people.2.1 23 = .ok (.dup, 1) := by decide +kernel
theorem eL_people_24 : decode rL_people.2.1 24 = .ok (.iconst 0, 1) := by decide +kernel
theorem eL_people_25 : decode rL_people.2.1 25 = .ok (.aload_n 0, 1) := by decide +kernel
theorem eL_people_26 : decode rL_people.2.1 26 = .ok (.iload_n 2, 1) := by decide +kernel
theorem eL_people_27 : decode rL_people.2.1 27 = .ok (.invokevirtual 98, 3) := by decide +kernel
theorem eL_people_30 : decode rL_people.2.1 30 = .ok (.iastore, 1) := by decide +kernel
theorem eL_people_31 : decode rL_people.2.1 31 = .ok (.dup, 1) := by decide +kernel
theorem eL_people_32 : decode rL_people.2.1 32 = .ok (.iconst 1, 1) := by decide +kernel
theorem eL_people_33 : decode rL_people.2.1 33 = .ok (.aload_n 0, 1) := by decide +kernel
theorem eL_people_34 : decode rL_people.2.1 34 = .ok (.iload_n 2, 1) := by decide +kernel
theorem eL_people_35 : decode rL_people.2.1 35 = .ok (.invokevirtual 101, 3) := by decide +kernel
theorem eL_people_38 : decode rL_people.2.1 38 = .ok (.iastore, 1) := by decide +kernel
theorem eL_people_39 : decode rL_people.2.1 39 = .ok (.dup, 1) := by decide +kernel
theorem eL_people_40 : decode rL_people.2.1 40 = .ok (.iconst 2, 1) := by decide +kernel
theorem eL_people_41 : decode rL_people.2.1 41 = .ok (.aload_n 0, 1) := by decide +kernel
theorem eL_people_42 : decode rL_people.2.1 42 = .ok (.iload_n 2, 1) := by decide +kernel
theorem eL_people_43 : decode rL_people.2.1 43 = .ok (.invokevirtual 104, 3) := by decide +kernel
theorem eL_people_46 : decode rL_people.2.1 46 = .ok (.iastore, 1) := by decide +kernel
theorem eL_people_47 : decode rL_people.2.1 47 = .ok (.dup, 1) := by decide +kernel
theorem eL_people_48 : decode rL_people.2.1 48 = .ok (.iconst 3, 1) := by decide +kernel
theorem eL_people_49 : decode rL_people.2.1 49 = .ok (.aload_n 0, 1) := by decide +kernel
theorem eL_people_50 : decode rL_people.2.1 50 = .ok (.iload_n 2, 1) := by decide +kernel
theorem eL_people_51 : decode rL_people.2.1 51 = .ok (.invokevirtual 107, 3) := by decide +kernel
theorem eL_people_54 : decode rL_people.2.1 54 = .ok (.iastore, 1) := by decide +kernel
theorem eL_people_55 : decode rL_people.2.1 55 = .ok (.dup, 1) := by decide +kernel
theorem eL_people_56 : decode rL_people.2.1 56 = .ok (.iconst 4, 1) := by decide +kernel
theorem eL_people_57 : decode rL_people.2.1 57 = .ok (.aload_n 0, 1) := by decide +kernel
theorem eL_people_58 : decode rL_people.2.1 58 = .ok (.iload_n 2, 1) := by decide +kernel
theorem eL_people_59 : decode rL_people.2.1 59 = .ok (.invokevirtual 110, 3) := by decide +kernel
theorem eL_people_62 : decode rL_people.2.1 62 = .ok (.iastore, 1) := by decide +kernel
theorem eL_people_63 : decode rL_people.2.1 63 = .ok (.dup, 1) := by decide +kernel
theorem eL_people_64 : decode rL_people.2.1 64 = .ok (.iconst 5, 1) := by decide +kernel
theorem eL_people_65 : decode rL_people.2.1 65 = .ok (.aload_n 0, 1) := by decide +kernel
theorem eL_people_66 : decode rL_people.2.1 66 = .ok (.iload_n 2, 1) := by decide +kernel
theorem eL_people_67 : decode rL_people.2.1 67 = .ok (.invokestatic 113, 3) := by decide +kernel
theorem eL_people_70 : decode rL_people.2.1 70 = .ok (.iastore, 1) := by decide +kernel
theorem eL_people_71 : decode rL_people.2.1 71 = .ok (.dup, 1) := by decide +kernel
theorem eL_people_72 : decode rL_people.2.1 72 = .ok (.bipush 6, 2) := by decide +kernel
theorem eL_people_74 : decode rL_people.2.1 74 = .ok (.aload_n 0, 1) := by decide +kernel
theorem eL_people_75 : decode rL_people.2.1 75 = .ok (.iload_n 2, 1) := by decide +kernel
theorem eL_people_76 : decode rL_people.2.1 76 = .ok (.invokevirtual 117, 3) := by decide +kernel
theorem eL_people_79 : decode rL_people.2.1 79 = .ok (.ifCond .eq 7, 3) := by decide +kernel
theorem eL_people_82 : decode rL_people.2.1 82 = .ok (.iconst 1, 1) := by decide +kernel
theorem eL_people_83 : decode rL_people.2.1 83 = .ok (.goto 4, 3) := by decide +kernel
theorem eL_people_86 : decode rL_people.2.1 86 = .ok (.iconst 0, 1) := by decide +kernel
theorem eL_people_87 : decode rL_people.2.1 87 = .ok (.iastore, 1) := by decide +kernel
theorem eL_people_88 : decode rL_people.2.1 88 = .ok (.invokevirtual 120, 3) := by decide +kernel
theorem eL_people_91 : decode rL_people.2.1 91 = .ok (.pop, 1) := by decide +kernel
theorem eL_people_92 : decode rL_people.2.1 92 = .ok (.iinc 2 1, 3) := by decide +kernel
theorem eL_people_95 : decode rL_people.2.1 95 = .ok (.goto (-85), 3) := by decide +kernel
theorem eL_people_98 : decode rL_people.2.1 98 = .ok (.aload_n 1, 1) := by decide +kernel
theorem eL_people_99 : decode rL_people.2.1 99 = .ok (.areturn, 1) := by decide +kernel
theorem eL_carOf_0 : decode rL_carOf.2.1 0 = .ok (.aload_n 0, 1) := by decide +kernel
theorem eL_carOf_1 : decode rL_carOf.2.1 1 = .ok (.iload_n 1, 1) := by decide +kernel
theorem eL_carOf_2 : decode rL_carOf.2.1 2 = .ok (.invokevirtual 124, 3) := by decide +kernel
theorem eL_carOf_5 : decode rL_carOf.2.1 5 = .ok (.ireturn, 1) := by decide +kernel
theorem eL_carOf_6 : decode rL_carOf.2.1 6 = .ok (.astore_n 2, 1) := by decide +kernel
theorem eL_carOf_7 : decode rL_carOf.2.1 7 = .ok (.iconst (-1), 1) := by decide +kernel
theorem eL_carOf_8 : decode rL_carOf.2.1 8 = .ok (.ireturn, 1) := by decide +kernel
theorem eL_state_0 : decode rL_state.2.1 0 = .ok (.bipush 31, 2) := by decide +kernel
theorem eL_state_2 : decode rL_state.2.1 2 = .ok (.bipush 31, 2) := by decide +kernel
theorem eL_state_4 : decode rL_state.2.1 4 = .ok (.aload_n 0, 1) := by decide +kernel
theorem eL_state_5 : decode rL_state.2.1 5 = .ok (.invokevirtual 128, 3) := by decide +kernel
theorem eL_state_8 : decode rL_state.2.1 8 = .ok (.imul, 1) := by decide +kernel
theorem eL_state_9 : decode rL_state.2.1 9 = .ok (.aload_n 0, 1) := by decide +kernel
theorem eL_state_10 : decode rL_state.2.1 10 = .ok (.invokevirtual 131, 3) := by decide +kernel
theorem eL_state_13 : decode rL_state.2.1 13 = .ok (.iadd, 1) := by decide +kernel
theorem eL_state_14 : decode rL_state.2.1 14 = .ok (.imul, 1) := by decide +kernel
theorem eL_state_15 : decode rL_state.2.1 15 = .ok (.aload_n 0, 1) := by decide +kernel
theorem eL_state_16 : decode rL_state.2.1 16 = .ok (.invokevirtual 134, 3) := by decide +kernel
theorem eL_state_19 : decode rL_state.2.1 19 = .ok (.l2i, 1) := by decide +kernel
theorem eL_state_20 : decode rL_state.2.1 20 = .ok (.iadd, 1) := by decide +kernel
theorem eL_state_21 : decode rL_state.2.1 21 = .ok (.istore_n 1, 1) := by decide +kernel
theorem eL_state_22 : decode rL_state.2.1 22 = .ok (.aload_n 0, 1) := by decide +kernel
theorem eL_state_23 : decode rL_state.2.1 23 = .ok (.invokestatic 138, 3) := by decide +kernel
theorem eL_state_26 : decode rL_state.2.1 26 = .ok (.astore_n 2, 1) := by decide +kernel
theorem eL_state_27 : decode rL_state.2.1 27 = .ok (.aload_n 2, 1) := by decide +kernel
theorem eL_state_28 : decode rL_state.2.1 28 = .ok (.arraylength, 1) := by decide +kernel
theorem eL_state_29 : decode rL_state.2.1 29 = .ok (.istore_n 3, 1) := by decide +kernel
theorem eL_state_30 : decode rL_state.2.1 30 = .ok (.iconst 0, 1) := by decide +kernel
theorem eL_state_31 : decode rL_state.2.1 31 = .ok (.istore 4, 2) := by decide +kernel
theorem eL_state_33 : decode rL_state.2.1 33 = .ok (.iload 4, 2) := by decide +kernel
theorem eL_state_35 : decode rL_state.2.1 35 = .ok (.iload_n 3, 1) := by decide +kernel
theorem eL_state_36 : decode rL_state.2.1 36 = .ok (.if_icmp .ge 55, 3) := by decide +kernel
theorem eL_state_39 : decode rL_state.2.1 39 = .ok (.aload_n 2, 1) := by decide +kernel
theorem eL_state_40 : decode rL_state.2.1 40 = .ok (.iload 4, 2) := by decide +kernel
theorem eL_state_42 : decode rL_state.2.1 42 = .ok (.aaload, 1) := by decide +kernel
theorem eL_state_43 : decode rL_state.2.1 43 = .ok (.astore 5, 2) := by decide +kernel
theorem eL_state_45 : decode rL_state.2.1 45 = .ok (.aload 5, 2) := by decide +kernel
theorem eL_state_47 : decode rL_state.2.1 47 = .ok (.astore 6, 2) := by decide +kernel
theorem eL_state_49 : decode rL_state.2.1 49 = .ok (.aload 6, 2) := by decide +kernel
theorem eL_state_51 : decode rL_state.2.1 51 = .ok (.arraylength, 1) := by decide +kernel
theorem eL_state_52 : decode rL_state.2.1 52 = .ok (.istore 7, 2) := by decide +kernel
theorem eL_state_54 : decode rL_state.2.1 54 = .ok (.iconst 0, 1) := by decide +kernel
theorem eL_state_55 : decode rL_state.2.1 55 = .ok (.istore 8, 2) := by decide +kernel
theorem eL_state_57 : decode rL_state.2.1 57 = .ok (.iload 8, 2) := by decide +kernel
theorem eL_state_59 : decode rL_state.2.1 59 = .ok (.iload 7, 2) := by decide +kernel
theorem eL_state_61 : decode rL_state.2.1 61 = .ok (.if_icmp .ge 24, 3) := by decide +kernel
theorem eL_state_64 : decode rL_state.2.1 64 = .ok (.aload 6, 2) := by decide +kernel
theorem eL_state_66 : decode rL_state.2.1 66 = .ok (.iload 8, 2) := by decide +kernel
theorem eL_state_68 : decode rL_state.2.1 68 = .ok (.iaload, 1) := by decide +kernel
theorem eL_state_69 : decode rL_state.2.1 69 = .ok (.istore 9, 2) := by decide +kernel
theorem eL_state_71 : decode rL_state.2.1 71 = .ok (.bipush 31, 2) := by decide +kernel
theorem eL_state_73 : decode rL_state.2.1 73 = .ok (.iload_n 1, 1) := by decide +kernel
theorem eL_state_74 : decode rL_state.2.1 74 = .ok (.imul, 1) := by decide +kernel
theorem eL_state_75 : decode rL_state.2.1 75 = .ok (.iload 9, 2) := by decide +kernel
theorem eL_state_77 : decode rL_state.2.1 77 = .ok (.iadd, 1) := by decide +kernel
theorem eL_state_78 : decode rL_state.2.1 78 = .ok (.istore_n 1, 1) := by decide +kernel
theorem eL_state_79 : decode rL_state.2.1 79 = .ok (.iinc 8 1, 3) := by decide +kernel
theorem eL_state_82 : decode rL_state.2.1 82 = .ok (.goto (-25), 3) := by decide +kernel
theorem eL_state_85 : decode rL_state.2.1 85 = .ok (.iinc 4 1, 3) := by decide +kernel
theorem eL_state_88 : decode rL_state.2.1 88 = .ok (.goto (-55), 3) := by decide +kernel
theorem eL_state_91 : decode rL_state.2.1 91 = .ok (.aload_n 0, 1) := by decide +kernel
theorem eL_state_92 : decode rL_state.2.1 92 = .ok (.invokestatic 142, 3) := by decide +kernel
theorem eL_state_95 : decode rL_state.2.1 95 = .ok (.invokevirtual 146, 3) := by decide +kernel
theorem eL_state_98 : decode rL_state.2.1 98 = .ok (.astore_n 2, 1) := by decide +kernel
theorem eL_state_99 : decode rL_state.2.1 99 = .ok (.aload_n 2, 1) := by decide +kernel
theorem eL_state_100 : decode rL_state.2.1 100 = .ok (.invokeinterface 150 1, 5) := by decide +kernel
theorem eL_state_105 : decode rL_state.2.1 105 = .ok (.ifCond .eq 55, 3) := by decide +kernel
theorem eL_state_108 : decode rL_state.2.1 108 = .ok (.aload_n 2, 1) := by decide +kernel
theorem eL_state_109 : decode rL_state.2.1 109 = .ok (.invokeinterface 156 1, 5) := by decide +kernel
theorem eL_state_114 : decode rL_state.2.1 114 = .ok (.checkcast 74, 3) := by decide +kernel
theorem eL_state_117 : decode rL_state.2.1 117 = .ok (.astore_n 3, 1) := by decide +kernel
theorem eL_state_118 : decode rL_state.2.1 118 = .ok (.aload_n 3, 1) := by decide +kernel
theorem eL_state_119 : decode rL_state.2.1 119 = .ok (.astore 4, 2) := by decide +kernel
theorem eL_state_121 : decode rL_state.2.1 121 = .ok (.aload 4, 2) := by decide +kernel
theorem eL_state_123 : decode rL_state.2.1 123 = .ok (.arraylength, 1) := by decide +kernel
theorem eL_state_124 : decode rL_state.2.1 124 = .ok (.istore 5, 2) := by decide +kernel
theorem eL_state_126 : decode rL_state.2.1 126 = .ok (.iconst 0, 1) := by decide +kernel
theorem eL_state_127 : decode rL_state.2.1 127 = .ok (.istore 6, 2) := by decide +kernel
theorem eL_state_129 : decode rL_state.2.1 129 = .ok (.iload 6, 2) := by decide +kernel
theorem eL_state_131 : decode rL_state.2.1 131 = .ok (.iload 5, 2) := by decide +kernel
theorem eL_state_133 : decode rL_state.2.1 133 = .ok (.if_icmp .ge 24, 3) := by decide +kernel
theorem eL_state_136 : decode rL_state.2.1 136 = .ok (.aload 4, 2) := by decide +kernel
theorem eL_state_138 : decode rL_state.2.1 138 = .ok (.iload 6, 2) := by decide +kernel
theorem eL_state_140 : decode rL_state.2.1 140 = .ok (.iaload, 1) := by decide +kernel
theorem eL_state_141 : decode rL_state.2.1 141 = .ok (.istore 7, 2) := by decide +kernel
theorem eL_state_143 : decode rL_state.2.1 143 = .ok (.bipush 31, 2) := by decide +kernel
theorem eL_state_145 : decode rL_state.2.1 145 = .ok (.iload_n 1, 1) := by decide +kernel
theorem eL_state_146 : decode rL_state.2.1 146 = .ok (.imul, 1) := by decide +kernel
theorem eL_state_147 : decode rL_state.2.1 147 = .ok (.iload 7, 2) := by decide +kernel
theorem eL_state_149 : decode rL_state.2.1 149 = .ok (.iadd, 1) := by decide +kernel
theorem eL_state_150 : decode rL_state.2.1 150 = .ok (.istore_n 1, 1) := by decide +kernel
theorem eL_state_151 : decode rL_state.2.1 151 = .ok (.iinc 6 1, 3) := by decide +kernel
theorem eL_state_154 : decode rL_state.2.1 154 = .ok (.goto (-25), 3) := by decide +kernel
theorem eL_state_157 : decode rL_state.2.1 157 = .ok (.goto (-58), 3) := by decide +kernel
theorem eL_state_160 : decode rL_state.2.1 160 = .ok (.bipush 31, 2) := by decide +kernel
theorem eL_state_162 : decode rL_state.2.1 162 = .ok (.iload_n 1, 1) := by decide +kernel
theorem eL_state_163 : decode rL_state.2.1 163 = .ok (.imul, 1) := by decide +kernel
theorem eL_state_164 : decode rL_state.2.1 164 = .ok (.aload_n 0, 1) := by decide +kernel
theorem eL_state_165 : decode rL_state.2.1 165 = .ok (.invokevirtual 34, 3) := by decide +kernel
theorem eL_state_168 : decode rL_state.2.1 168 = .ok (.iadd, 1) := by decide +kernel
theorem eL_state_169 : decode rL_state.2.1 169 = .ok (.ireturn, 1) := by decide +kernel
theorem eL_runs_0 : decode rL_runs.2.1 0 = .ok (.aload_n 0, 1) := by decide +kernel
theorem eL_runs_1 : decode rL_runs.2.1 1 = .ok (.invokevirtual 192, 3) := by decide +kernel
theorem eL_runs_4 : decode rL_runs.2.1 4 = .ok (.ireturn, 1) := by decide +kernel
theorem eL_runs_5 : decode rL_runs.2.1 5 = .ok (.astore_n 1, 1) := by decide +kernel
theorem eL_runs_6 : decode rL_runs.2.1 6 = .ok (.iconst (-1), 1) := by decide +kernel
theorem eL_runs_7 : decode rL_runs.2.1 7 = .ok (.ireturn, 1) := by decide +kernel
theorem eL_runs_8 : decode rL_runs.2.1 8 = .ok (.astore_n 1, 1) := by decide +kernel
theorem eL_runs_9 : decode rL_runs.2.1 9 = .ok (.bipush (-2), 2) := by decide +kernel
theorem eL_runs_11 : decode rL_runs.2.1 11 = .ok (.ireturn, 1) := by decide +kernel
theorem eL_fails_0 : decode rL_fails.2.1 0 = .ok (.aload_n 0, 1) := by decide +kernel
theorem eL_fails_1 : decode rL_fails.2.1 1 = .ok (.aload_n 1, 1) := by decide +kernel
theorem eL_fails_2 : decode rL_fails.2.1 2 = .ok (.invokestatic 188, 3) := by decide +kernel
theorem eL_fails_5 : decode rL_fails.2.1 5 = .ok (.aload_n 0, 1) := by decide +kernel
theorem eL_fails_6 : decode rL_fails.2.1 6 = .ok (.invokestatic 200, 3) := by decide +kernel
theorem eL_fails_9 : decode rL_fails.2.1 9 = .ok (.iconst (-1), 1) := by decide +kernel
theorem eL_fails_10 : decode rL_fails.2.1 10 = .ok (.if_icmp .ne 15, 3) := by decide +kernel
theorem eL_fails_13 : decode rL_fails.2.1 13 = .ok (.aload_n 0, 1) := by decide +kernel
theorem eL_fails_14 : decode rL_fails.2.1 14 = .ok (.invokevirtual 297, 3) := by decide +kernel
theorem eL_fails_17 : decode rL_fails.2.1 17 = .ok (.iload_n 2, 1) := by decide +kernel
theorem eL_fails_18 : decode rL_fails.2.1 18 = .ok (.if_icmp .ne 7, 3) := by decide +kernel
theorem eL_fails_21 : decode rL_fails.2.1 21 = .ok (.iconst 1, 1) := by decide +kernel
theorem eL_fails_22 : decode rL_fails.2.1 22 = .ok (.goto 4, 3) := by decide +kernel
theorem eL_fails_25 : decode rL_fails.2.1 25 = .ok (.iconst 0, 1) := by decide +kernel
theorem eL_fails_26 : decode rL_fails.2.1 26 = .ok (.ireturn, 1) := by decide +kernel
theorem eL_build_0 : decode rL_build.2.1 0 = .ok (.new 18, 3) := by decide +kernel
theorem eL_build_3 : decode rL_build.2.1 3 = .ok (.dup, 1) := by decide +kernel
theorem eL_build_4 : decode rL_build.2.1 4 = .ok (.invokespecial 23, 3) := by decide +kernel
theorem eL_build_7 : decode rL_build.2.1 7 = .ok (.astore_n 1, 1) := by decide +kernel
theorem eL_build_8 : decode rL_build.2.1 8 = .ok (.aload_n 0, 1) := by decide +kernel
theorem eL_build_9 : decode rL_build.2.1 9 = .ok (.iconst 0, 1) := by decide +kernel
theorem eL_build_10 : decode rL_build.2.1 10 = .ok (.invokestatic 24, 3) := by decide +kernel
theorem eL_build_13 : decode rL_build.2.1 13 = .ok (.istore_n 2, 1) := by decide +kernel
theorem eL_build_14 : decode rL_build.2.1 14 = .ok (.iconst 0, 1) := by decide +kernel
theorem eL_build_15 : decode rL_build.2.1 15 = .ok (.istore_n 3, 1) := by decide +kernel
theorem eL_build_16 : decode rL_build.2.1 16 = .ok (.iload_n 3, 1) := by decide +kernel
theorem eL_build_17 : decode rL_build.2.1 17 = .ok (.iconst 1, 1) := by decide +kernel
theorem eL_build_18 : decode rL_build.2.1 18 = .ok (.iload_n 2, 1) := by decide +kernel
theorem eL_build_19 : decode rL_build.2.1 19 = .ok (.iconst 3, 1) := by decide +kernel
theorem eL_build_20 : decode rL_build.2.1 20 = .ok (.iand, 1) := by decide +kernel
theorem eL_build_21 : decode rL_build.2.1 21 = .ok (.iadd, 1) := by decide +kernel
theorem eL_build_22 : decode rL_build.2.1 22 = .ok (.if_icmp .ge 50, 3) := by decide +kernel
theorem eL_build_25 : decode rL_build.2.1 25 = .ok (.aload_n 1, 1) := by decide +kernel
theorem eL_build_26 : decode rL_build.2.1 26 = .ok (.iconst 0, 1) := by decide +kernel
theorem eL_build_27 : decode rL_build.2.1 27 = .ok (.iload_n 2, 1) := by decide +kernel
theorem eL_build_28 : decode rL_build.2.1 28 = .ok (.iconst 2, 1) := by decide +kernel
theorem eL_build_29 : decode rL_build.2.1 29 = .ok (.iconst 3, 1) := by decide +kernel
theorem eL_build_30 : decode rL_build.2.1 30 = .ok (.iload_n 3, 1) := by decide +kernel
theorem eL_build_31 : decode rL_build.2.1 31 = .ok (.imul, 1) := by decide +kernel
theorem eL_build_32 : decode rL_build.2.1 32 = .ok (.iadd, 1) := by decide +kernel
theorem eL_build_33 : decode rL_build.2.1 33 = .ok (.ishr, 1) := by decide +kernel
theorem eL_build_34 : decode rL_build.2.1 34 = .ok (.bipush 15, 2) := by decide +kernel
theorem eL_build_36 : decode rL_build.2.1 36 = .ok (.iand, 1) := by decide +kernel
theorem eL_build_37 : decode rL_build.2.1 37 = .ok (.bipush 10, 2) := by decide +kernel
theorem eL_build_39 : decode rL_build.2.1 39 = .ok (.irem, 1) := by decide +kernel
theorem eL_build_40 : decode rL_build.2.1 40 = .ok (.iload_n 2, 1) := by decide +kernel
theorem eL_build_41 : decode rL_build.2.1 41 = .ok (.iconst 5, 1) := by decide +kernel
theorem eL_build_42 : decode rL_build.2.1 42 = .ok (.iconst 3, 1) := by decide +kernel
theorem eL_build_43 : decode rL_build.2.1 43 = .ok (.iload_n 3, 1) := by decide +kernel
theorem eL_build_44 : decode rL_build.2.1 44 = .ok (.imul, 1) := by decide +kernel
theorem eL_build_45 : decode rL_build.2.1 45 = .ok (.iadd, 1) := by decide +kernel
theorem eL_build_46 : decode rL_build.2.1 46 = .ok (.ishr, 1) := by decide +kernel
theorem eL_build_47 : decode rL_build.2.1 47 = .ok (.bipush 15, 2) := by decide +kernel
theorem eL_build_49 : decode rL_build.2.1 49 = .ok (.iand, 1) := by decide +kernel
theorem eL_build_50 : decode rL_build.2.1 50 = .ok (.bipush 10, 2) := by decide +kernel
theorem eL_build_52 : decode rL_build.2.1 52 = .ok (.irem, 1) := by decide +kernel
theorem eL_build_53 : decode rL_build.2.1 53 = .ok (.bipush 20, 2) := by decide +kernel
theorem eL_build_55 : decode rL_build.2.1 55 = .ok (.iload_n 2, 1) := by decide +kernel
theorem eL_build_56 : decode rL_build.2.1 56 = .ok (.iload_n 3, 1) := by decide +kernel
theorem eL_build_57 : decode rL_build.2.1 57 = .ok (.ishr, 1) := by decide +kernel
theorem eL_build_58 : decode rL_build.2.1 58 = .ok (.bipush 127, 2) := by decide +kernel
theorem eL_build_60 : decode rL_build.2.1 60 = .ok (.iand, 1) := by decide +kernel
theorem eL_build_61 : decode rL_build.2.1 61 = .ok (.iadd, 1) := by decide +kernel
theorem eL_build_62 : decode rL_build.2.1 62 = .ok (.invokestatic 30, 3) := by decide +kernel
theorem eL_build_65 : decode rL_build.2.1 65 = .ok (.pop, 1) := by decide +kernel
theorem eL_build_66 : decode rL_build.2.1 66 = .ok (.iinc 3 1, 3) := by decide +kernel
theorem eL_build_69 : decode rL_build.2.1 69 = .ok (.goto (-53), 3) := by decide +kernel
theorem eL_build_72 : decode rL_build.2.1 72 = .ok (.iconst 1, 1) := by decide +kernel
theorem eL_build_73 : decode rL_build.2.1 73 = .ok (.istore_n 3, 1) := by decide +kernel
theorem eL_build_74 : decode rL_build.2.1 74 = .ok (.iload_n 3, 1) := by decide +kernel
theorem eL_build_75 : decode rL_build.2.1 75 = .ok (.bipush 13, 2) := by decide +kernel
theorem eL_build_77 : decode rL_build.2.1 77 = .ok (.if_icmp .ge 281, 3) := by decide +kernel
theorem eL_build_80 : decode rL_build.2.1 80 = .ok (.aload_n 0, 1) := by decide +kernel
theorem eL_build_81 : decode rL_build.2.1 81 = .ok (.iload_n 3, 1) := by decide +kernel
theorem eL_build_82 : decode rL_build.2.1 82 = .ok (.invokestatic 24, 3) := by decide +kernel
theorem eL_build_85 : decode rL_build.2.1 85 = .ok (.istore 4, 2) := by decide +kernel
theorem eL_build_87 : decode rL_build.2.1 87 = .ok (.aload_n 1, 1) := by decide +kernel
theorem eL_build_88 : decode rL_build.2.1 88 = .ok (.iconst 0, 1) := by decide +kernel
theorem eL_build_89 : decode rL_build.2.1 89 = .ok (.iload 4, 2) := by decide +kernel
theorem eL_build_91 : decode rL_build.2.1 91 = .ok (.bipush 15, 2) := by decide +kernel
theorem eL_build_93 : decode rL_build.2.1 93 = .ok (.iand, 1) := by decide +kernel
theorem eL_build_94 : decode rL_build.2.1 94 = .ok (.bipush 10, 2) := by decide +kernel
theorem eL_build_96 : decode rL_build.2.1 96 = .ok (.irem, 1) := by decide +kernel
theorem eL_build_97 : decode rL_build.2.1 97 = .ok (.iload 4, 2) := by decide +kernel
theorem eL_build_99 : decode rL_build.2.1 99 = .ok (.iconst 4, 1) := by decide +kernel
theorem eL_build_100 : decode rL_build.2.1 100 = .ok (.ishr, 1) := by decide +kernel
theorem eL_build_101 : decode rL_build.2.1 101 = .ok (.bipush 15, 2) := by decide +kernel
theorem eL_build_103 : decode rL_build.2.1 103 = .ok (.iand, 1) := by decide +kernel
theorem eL_build_104 : decode rL_build.2.1 104 = .ok (.bipush 10, 2) := by decide +kernel
theorem eL_build_106 : decode rL_build.2.1 106 = .ok (.irem, 1) := by decide +kernel
theorem eL_build_107 : decode rL_build.2.1 107 = .ok (.bipush 10, 2) := by decide +kernel
theorem eL_build_109 : decode rL_build.2.1 109 = .ok (.iload 4, 2) := by decide +kernel
theorem eL_build_111 : decode rL_build.2.1 111 = .ok (.bipush 8, 2) := by decide +kernel
theorem eL_build_113 : decode rL_build.2.1 113 = .ok (.ishr, 1) := by decide +kernel
theorem eL_build_114 : decode rL_build.2.1 114 = .ok (.bipush 127, 2) := by decide +kernel
theorem eL_build_116 : decode rL_build.2.1 116 = .ok (.iand, 1) := by decide +kernel
theorem eL_build_117 : decode rL_build.2.1 117 = .ok (.iadd, 1) := by decide +kernel
theorem eL_build_118 : decode rL_build.2.1 118 = .ok (.invokestatic 30, 3) := by decide +kernel
theorem eL_build_121 : decode rL_build.2.1 121 = .ok (.pop, 1) := by decide +kernel
theorem eL_build_122 : decode rL_build.2.1 122 = .ok (.iload 4, 2) := by decide +kernel
theorem eL_build_124 : decode rL_build.2.1 124 = .ok (.bipush 15, 2) := by decide +kernel
theorem eL_build_126 : decode rL_build.2.1 126 = .ok (.ishr, 1) := by decide +kernel
theorem eL_build_127 : decode rL_build.2.1 127 = .ok (.iconst 1, 1) := by decide +kernel
theorem eL_build_128 : decode rL_build.2.1 128 = .ok (.iand, 1) := by decide +kernel
theorem eL_build_129 : decode rL_build.2.1 129 = .ok (.ifCond .ne 22, 3) := by decide +kernel
theorem eL_build_132 : decode rL_build.2.1 132 = .ok (.aload_n 1, 1) := by decide +kernel
theorem eL_build_133 : decode rL_build.2.1 133 = .ok (.bipush 6, 2) := by decide +kernel
theorem eL_build_135 : decode rL_build.2.1 135 = .ok (.iconst 1, 1) := by decide +kernel
theorem eL_build_136 : decode rL_build.2.1 136 = .ok (.iload 4, 2) := by decide +kernel
theorem eL_build_138 : decode rL_build.2.1 138 = .ok (.bipush 16, 2) := by decide +kernel
theorem eL_build_140 : decode rL_build.2.1 140 = .ok (.ishr, 1) := by decide +kernel
theorem eL_build_141 : decode rL_build.2.1 141 = .ok (.bipush 7, 2) := by decide +kernel
theorem eL_build_143 : decode rL_build.2.1 143 = .ok (.iand, 1) := by decide +kernel
theorem eL_build_144 : decode rL_build.2.1 144 = .ok (.iadd, 1) := by decide +kernel
theorem eL_build_145 : decode rL_build.2.1 145 = .ok (.iconst 0, 1) := by decide +kernel
theorem eL_build_146 : decode rL_build.2.1 146 = .ok (.iconst 0, 1) := by decide +kernel
theorem eL_build_147 : decode rL_build.2.1 147 = .ok (.invokestatic 30, 3) := by decide +kernel
theorem eL_build_150 : decode rL_build.2.1 150 = .ok (.pop, 1) := by decide +kernel
theorem eL_build_151 : decode rL_build.2.1 151 = .ok (.iload 4, 2) := by decide +kernel
theorem eL_build_153 : decode rL_build.2.1 153 = .ok (.bipush 19, 2) := by decide +kernel
theorem eL_build_155 : decode rL_build.2.1 155 = .ok (.ishr, 1) := by decide +kernel
theorem eL_build_156 : decode rL_build.2.1 156 = .ok (.bipush 7, 2) := by decide +kernel
theorem eL_build_158 : decode rL_build.2.1 158 = .ok (.iand, 1) := by decide +kernel
theorem eL_build_159 : decode rL_build.2.1 159 = .ok (.ifCond .ne 30, 3) := by decide +kernel
theorem eL_build_162 : decode rL_build.2.1 162 = .ok (.aload_n 1, 1) := by decide +kernel
theorem eL_build_163 : decode rL_build.2.1 163 = .ok (.iconst 2, 1) := by decide +kernel
theorem eL_build_164 : decode rL_build.2.1 164 = .ok (.iload 4, 2) := by decide +kernel
theorem eL_build_166 : decode rL_build.2.1 166 = .ok (.bipush 22, 2) := by decide +kernel
theorem eL_build_168 : decode rL_build.2.1 168 = .ok (.ishr, 1) := by decide +kernel
theorem eL_build_169 : decode rL_build.2.1 169 = .ok (.iconst 3, 1) := by decide +kernel
theorem eL_build_170 : decode rL_build.2.1 170 = .ok (.iand, 1) := by decide +kernel
theorem eL_build_171 : decode rL_build.2.1 171 = .ok (.iconst 3, 1) := by decide +kernel
theorem eL_build_172 : decode rL_build.2.1 172 = .ok (.irem, 1) := by decide +kernel
theorem eL_build_173 : decode rL_build.2.1 173 = .ok (.iconst 1, 1) := by decide +kernel
theorem eL_build_174 : decode rL_build.2.1 174 = .ok (.iload 4, 2) := by decide +kernel
theorem eL_build_176 : decode rL_build.2.1 176 = .ok (.bipush 24, 2) := by decide +kernel
theorem eL_build_178 : decode rL_build.2.1 178 = .ok (.ishr, 1) := by decide +kernel
theorem eL_build_179 : decode rL_build.2.1 179 = .ok (.iconst 3, 1) := by decide +kernel
theorem eL_build_180 : decode rL_build.2.1 180 = .ok (.iand, 1) := by decide +kernel
theorem eL_build_181 : decode rL_build.2.1 181 = .ok (.iconst 3, 1) := by decide +kernel
theorem eL_build_182 : decode rL_build.2.1 182 = .ok (.irem, 1) := by decide +kernel
theorem eL_build_183 : decode rL_build.2.1 183 = .ok (.iadd, 1) := by decide +kernel
theorem eL_build_184 : decode rL_build.2.1 184 = .ok (.iconst 0, 1) := by decide +kernel
theorem eL_build_185 : decode rL_build.2.1 185 = .ok (.invokestatic 30, 3) := by decide +kernel
theorem eL_build_188 : decode rL_build.2.1 188 = .ok (.pop, 1) := by decide +kernel
theorem eL_build_189 : decode rL_build.2.1 189 = .ok (.iload 4, 2) := by decide +kernel
theorem eL_build_191 : decode rL_build.2.1 191 = .ok (.bipush 19, 2) := by decide +kernel
theorem eL_build_193 : decode rL_build.2.1 193 = .ok (.ishr, 1) := by decide +kernel
theorem eL_build_194 : decode rL_build.2.1 194 = .ok (.bipush 7, 2) := by decide +kernel
theorem eL_build_196 : decode rL_build.2.1 196 = .ok (.iand, 1) := by decide +kernel
theorem eL_build_197 : decode rL_build.2.1 197 = .ok (.iconst 1, 1) := by decide +kernel
theorem eL_build_198 : decode rL_build.2.1 198 = .ok (.if_icmp .ne 20, 3) := by decide +kernel
theorem eL_build_201 : decode rL_build.2.1 201 = .ok (.aload_n 1, 1) := by decide +kernel
theorem eL_build_202 : decode rL_build.2.1 202 = .ok (.iconst 3, 1) := by decide +kernel
theorem eL_build_203 : decode rL_build.2.1 203 = .ok (.iload 4, 2) := by decide +kernel
theorem eL_build_205 : decode rL_build.2.1 205 = .ok (.bipush 22, 2) := by decide +kernel
theorem eL_build_207 : decode rL_build.2.1 207 = .ok (.ishr, 1) := by decide +kernel
theorem eL_build_208 : decode rL_build.2.1 208 = .ok (.iconst 3, 1) := by decide +kernel
theorem eL_build_209 : decode rL_build.2.1 209 = .ok (.iand, 1) := by decide +kernel
theorem eL_build_210 : decode rL_build.2.1 210 = .ok (.iconst 3, 1) := by decide +kernel
theorem eL_build_211 : decode rL_build.2.1 211 = .ok (.irem, 1) := by decide +kernel
theorem eL_build_212 : decode rL_build.2.1 212 = .ok (.iconst 0, 1) := by decide +kernel
theorem eL_build_213 : decode rL_build.2.1 213 = .ok (.iconst 0, 1) := by decide +kernel
theorem eL_build_214 : decode rL_build.2.1 214 = .ok (.invokestatic 30, 3) := by decide +kernel
theorem eL_build_217 : decode rL_build.2.1 217 = .ok (.pop, 1) := by decide +kernel
theorem eL_build_218 : decode rL_build.2.1 218 = .ok (.iload 4, 2) := by decide +kernel
theorem eL_build_220 : decode rL_build.2.1 220 = .ok (.bipush 19, 2) := by decide +kernel
theorem eL_build_222 : decode rL_build.2.1 222 = .ok (.ishr, 1) := by decide +kernel
theorem eL_build_223 : decode rL_build.2.1 223 = .ok (.iconst 3, 1) := by decide +kernel
theorem eL_build_224 : decode rL_build.2.1 224 = .ok (.iand, 1) := by decide +kernel
theorem eL_build_225 : decode rL_build.2.1 225 = .ok (.iconst 2, 1) := by decide +kernel
theorem eL_build_226 : decode rL_build.2.1 226 = .ok (.if_icmp .ne 20, 3) := by decide +kernel
theorem eL_build_229 : decode rL_build.2.1 229 = .ok (.aload_n 1, 1) := by decide +kernel
theorem eL_build_230 : decode rL_build.2.1 230 = .ok (.iconst 4, 1) := by decide +kernel
theorem eL_build_231 : decode rL_build.2.1 231 = .ok (.iload 4, 2) := by decide +kernel
theorem eL_build_233 : decode rL_build.2.1 233 = .ok (.bipush 22, 2) := by decide +kernel
theorem eL_build_235 : decode rL_build.2.1 235 = .ok (.ishr, 1) := by decide +kernel
theorem eL_build_236 : decode rL_build.2.1 236 = .ok (.iconst 3, 1) := by decide +kernel
theorem eL_build_237 : decode rL_build.2.1 237 = .ok (.iand, 1) := by decide +kernel
theorem eL_build_238 : decode rL_build.2.1 238 = .ok (.iconst 3, 1) := by decide +kernel
theorem eL_build_239 : decode rL_build.2.1 239 = .ok (.irem, 1) := by decide +kernel
theorem eL_build_240 : decode rL_build.2.1 240 = .ok (.iconst 0, 1) := by decide +kernel
theorem eL_build_241 : decode rL_build.2.1 241 = .ok (.iconst 0, 1) := by decide +kernel
theorem eL_build_242 : decode rL_build.2.1 242 = .ok (.invokestatic 30, 3) := by decide +kernel
theorem eL_build_245 : decode rL_build.2.1 245 = .ok (.pop, 1) := by decide +kernel
theorem eL_build_246 : decode rL_build.2.1 246 = .ok (.iload 4, 2) := by decide +kernel
theorem eL_build_248 : decode rL_build.2.1 248 = .ok (.bipush 19, 2) := by decide +kernel
theorem eL_build_250 : decode rL_build.2.1 250 = .ok (.ishr, 1) := by decide +kernel
theorem eL_build_251 : decode rL_build.2.1 251 = .ok (.bipush 7, 2) := by decide +kernel
theorem eL_build_253 : decode rL_build.2.1 253 = .ok (.iand, 1) := by decide +kernel
theorem eL_build_254 : decode rL_build.2.1 254 = .ok (.iconst 3, 1) := by decide +kernel
theorem eL_build_255 : decode rL_build.2.1 255 = .ok (.if_icmp .ne 31, 3) := by decide +kernel
theorem eL_build_258 : decode rL_build.2.1 258 = .ok (.aload_n 1, 1) := by decide +kernel
theorem eL_build_259 : decode rL_build.2.1 259 = .ok (.iconst 5, 1) := by decide +kernel
theorem eL_build_260 : decode rL_build.2.1 260 = .ok (.iload 4, 2) := by decide +kernel
theorem eL_build_262 : decode rL_build.2.1 262 = .ok (.bipush 22, 2) := by decide +kernel
theorem eL_build_264 : decode rL_build.2.1 264 = .ok (.ishr, 1) := by decide +kernel
theorem eL_build_265 : decode rL_build.2.1 265 = .ok (.iconst 3, 1) := by decide +kernel
theorem eL_build_266 : decode rL_build.2.1 266 = .ok (.iand, 1) := by decide +kernel
theorem eL_build_267 : decode rL_build.2.1 267 = .ok (.iconst 3, 1) := by decide +kernel
theorem eL_build_268 : decode rL_build.2.1 268 = .ok (.irem, 1) := by decide +kernel
theorem eL_build_269 : decode rL_build.2.1 269 = .ok (.bipush 100, 2) := by decide +kernel
theorem eL_build_271 : decode rL_build.2.1 271 = .ok (.iload 4, 2) := by decide +kernel
theorem eL_build_273 : decode rL_build.2.1 273 = .ok (.bipush 8, 2) := by decide +kernel
theorem eL_build_275 : decode rL_build.2.1 275 = .ok (.ishr, 1) := by decide +kernel
theorem eL_build_276 : decode rL_build.2.1 276 = .ok (.sipush 511, 3) := by decide +kernel
theorem eL_build_279 : decode rL_build.2.1 279 = .ok (.iand, 1) := by decide +kernel
theorem eL_build_280 : decode rL_build.2.1 280 = .ok (.iadd, 1) := by decide +kernel
theorem eL_build_281 : decode rL_build.2.1 281 = .ok (.iconst 0, 1) := by decide +kernel
theorem eL_build_282 : decode rL_build.2.1 282 = .ok (.invokestatic 30, 3) := by decide +kernel
theorem eL_build_285 : decode rL_build.2.1 285 = .ok (.pop, 1) := by decide +kernel
theorem eL_build_286 : decode rL_build.2.1 286 = .ok (.iload 4, 2) := by decide +kernel
theorem eL_build_288 : decode rL_build.2.1 288 = .ok (.bipush 19, 2) := by decide +kernel
theorem eL_build_290 : decode rL_build.2.1 290 = .ok (.ishr, 1) := by decide +kernel
theorem eL_build_291 : decode rL_build.2.1 291 = .ok (.bipush 7, 2) := by decide +kernel
theorem eL_build_293 : decode rL_build.2.1 293 = .ok (.iand, 1) := by decide +kernel
theorem eL_build_294 : decode rL_build.2.1 294 = .ok (.bipush 7, 2) := by decide +kernel
theorem eL_build_296 : decode rL_build.2.1 296 = .ok (.if_icmp .ne 28, 3) := by decide +kernel
theorem eL_build_299 : decode rL_build.2.1 299 = .ok (.aload_n 1, 1) := by decide +kernel
theorem eL_build_300 : decode rL_build.2.1 300 = .ok (.iconst 1, 1) := by decide +kernel
theorem eL_build_301 : decode rL_build.2.1 301 = .ok (.iload 4, 2) := by decide +kernel
theorem eL_build_303 : decode rL_build.2.1 303 = .ok (.bipush 22, 2) := by decide +kernel
theorem eL_build_305 : decode rL_build.2.1 305 = .ok (.ishr, 1) := by decide +kernel
theorem eL_build_306 : decode rL_build.2.1 306 = .ok (.bipush 15, 2) := by decide +kernel
theorem eL_build_308 : decode rL_build.2.1 308 = .ok (.iand, 1) := by decide +kernel
theorem eL_build_309 : decode rL_build.2.1 309 = .ok (.iconst 1, 1) := by decide +kernel
theorem eL_build_310 : decode rL_build.2.1 310 = .ok (.aload_n 1, 1) := by decide +kernel
theorem eL_build_311 : decode rL_build.2.1 311 = .ok (.invokevirtual 34, 3) := by decide +kernel
theorem eL_build_314 : decode rL_build.2.1 314 = .ok (.invokestatic 37, 3) := by decide +kernel
theorem eL_build_317 : decode rL_build.2.1 317 = .ok (.irem, 1) := by decide +kernel
theorem eL_build_318 : decode rL_build.2.1 318 = .ok (.iconst 0, 1) := by decide +kernel
theorem eL_build_319 : decode rL_build.2.1 319 = .ok (.iconst 0, 1) := by decide +kernel
theorem eL_build_320 : decode rL_build.2.1 320 = .ok (.invokestatic 30, 3) := by decide +kernel
theorem eL_build_323 : decode rL_build.2.1 323 = .ok (.pop, 1) := by decide +kernel
theorem eL_build_324 : decode rL_build.2.1 324 = .ok (.iload 4, 2) := by decide +kernel
theorem eL_build_326 : decode rL_build.2.1 326 = .ok (.bipush 26, 2) := by decide +kernel
theorem eL_build_328 : decode rL_build.2.1 328 = .ok (.ishr, 1) := by decide +kernel
theorem eL_build_329 : decode rL_build.2.1 329 = .ok (.iconst 3, 1) := by decide +kernel
theorem eL_build_330 : decode rL_build.2.1 330 = .ok (.iand, 1) := by decide +kernel
theorem eL_build_331 : decode rL_build.2.1 331 = .ok (.ifCond .ne 21, 3) := by decide +kernel
theorem eL_build_334 : decode rL_build.2.1 334 = .ok (.aload_n 1, 1) := by decide +kernel
theorem eL_build_335 : decode rL_build.2.1 335 = .ok (.bipush 6, 2) := by decide +kernel
theorem eL_build_337 : decode rL_build.2.1 337 = .ok (.iconst 1, 1) := by decide +kernel
theorem eL_build_338 : decode rL_build.2.1 338 = .ok (.iload 4, 2) := by decide +kernel
theorem eL_build_340 : decode rL_build.2.1 340 = .ok (.bipush 28, 2) := by decide +kernel
theorem eL_build_342 : decode rL_build.2.1 342 = .ok (.ishr, 1) := by decide +kernel
theorem eL_build_343 : decode rL_build.2.1 343 = .ok (.iconst 3, 1) := by decide +kernel
theorem eL_build_344 : decode rL_build.2.1 344 = .ok (.iand, 1) := by decide +kernel
theorem eL_build_345 : decode rL_build.2.1 345 = .ok (.iadd, 1) := by decide +kernel
theorem eL_build_346 : decode rL_build.2.1 346 = .ok (.iconst 0, 1) := by decide +kernel
theorem eL_build_347 : decode rL_build.2.1 347 = .ok (.iconst 0, 1) := by decide +kernel
theorem eL_build_348 : decode rL_build.2.1 348 = .ok (.invokestatic 30, 3) := by decide +kernel
theorem eL_build_351 : decode rL_build.2.1 351 = .ok (.pop, 1) := by decide +kernel
theorem eL_build_352 : decode rL_build.2.1 352 = .ok (.iinc 3 1, 3) := by decide +kernel
theorem eL_build_355 : decode rL_build.2.1 355 = .ok (.goto (-281), 3) := by decide +kernel
theorem eL_build_358 : decode rL_build.2.1 358 = .ok (.aload_n 1, 1) := by decide +kernel
theorem eL_build_359 : decode rL_build.2.1 359 = .ok (.areturn, 1) := by decide +kernel
