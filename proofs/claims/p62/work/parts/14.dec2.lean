theorem eX6_init_0 : decode rX6_init.2.1 0 = .ok (.aload_n 0, 1) := by decide +kernel
theorem eX6_init_1 : decode rX6_init.2.1 1 = .ok (.invokespecial 3, 3) := by decide +kernel
theorem eX6_init_4 : decode rX6_init.2.1 4 = .ok (.aload_n 0, 1) := by decide +kernel
theorem eX6_init_5 : decode rX6_init.2.1 5 = .ok (.new 9, 3) := by decide +kernel
theorem eX6_init_8 : decode rX6_init.2.1 8 = .ok (.dup, 1) := by decide +kernel
theorem eX6_init_9 : decode rX6_init.2.1 9 = .ok (.invokespecial 11, 3) := by decide +kernel
theorem eX6_init_12 : decode rX6_init.2.1 12 = .ok (.putfield 12, 3) := by decide +kernel
theorem eX6_init_15 : decode rX6_init.2.1 15 = .ok (.aload_n 0, 1) := by decide +kernel
theorem eX6_init_16 : decode rX6_init.2.1 16 = .ok (.new 9, 3) := by decide +kernel
theorem eX6_init_19 : decode rX6_init.2.1 19 = .ok (.dup, 1) := by decide +kernel
theorem eX6_init_20 : decode rX6_init.2.1 20 = .ok (.invokespecial 11, 3) := by decide +kernel
theorem eX6_init_23 : decode rX6_init.2.1 23 = .ok (.putfield 16, 3) := by decide +kernel
theorem eX6_init_26 : decode rX6_init.2.1 26 = .ok (.aload_n 0, 1) := by decide +kernel
theorem eX6_init_27 : decode rX6_init.2.1 27 = .ok (.new 9, 3) := by decide +kernel
theorem eX6_init_30 : decode rX6_init.2.1 30 = .ok (.dup, 1) := by decide +kernel
theorem eX6_init_31 : decode rX6_init.2.1 31 = .ok (.invokespecial 11, 3) := by decide +kernel
theorem eX6_init_34 : decode rX6_init.2.1 34 = .ok (.putfield 19, 3) := by decide +kernel
theorem eX6_init_37 : decode rX6_init.2.1 37 = .ok (.aload_n 0, 1) := by decide +kernel
theorem eX6_init_38 : decode rX6_init.2.1 38 = .ok (.new 22, 3) := by decide +kernel
theorem eX6_init_41 : decode rX6_init.2.1 41 = .ok (.dup, 1) := by decide +kernel
theorem eX6_init_42 : decode rX6_init.2.1 42 = .ok (.invokespecial 24, 3) := by decide +kernel
theorem eX6_init_45 : decode rX6_init.2.1 45 = .ok (.putfield 25, 3) := by decide +kernel
theorem eX6_init_48 : decode rX6_init.2.1 48 = .ok (.aload_n 0, 1) := by decide +kernel
theorem eX6_init_49 : decode rX6_init.2.1 49 = .ok (.new 29, 3) := by decide +kernel
theorem eX6_init_52 : decode rX6_init.2.1 52 = .ok (.dup, 1) := by decide +kernel
theorem eX6_init_53 : decode rX6_init.2.1 53 = .ok (.invokespecial 31, 3) := by decide +kernel
theorem eX6_init_56 : decode rX6_init.2.1 56 = .ok (.putfield 32, 3) := by decide +kernel
theorem eX6_init_59 : decode rX6_init.2.1 59 = .ok (.aload_n 0, 1) := by decide +kernel
theorem eX6_init_60 : decode rX6_init.2.1 60 = .ok (.new 36, 3) := by decide +kernel
theorem eX6_init_63 : decode rX6_init.2.1 63 = .ok (.dup, 1) := by decide +kernel
theorem eX6_init_64 : decode rX6_init.2.1 64 = .ok (.invokespecial 38, 3) := by decide +kernel
theorem eX6_init_67 : decode rX6_init.2.1 67 = .ok (.putfield 39, 3) := by decide +kernel
theorem eX6_init_70 : decode rX6_init.2.1 70 = .ok (.aload_n 0, 1) := by decide +kernel
theorem eX6_init_71 : decode rX6_init.2.1 71 = .ok (.iconst 0, 1) := by decide +kernel
theorem eX6_init_72 : decode rX6_init.2.1 72 = .ok (.putfield 43, 3) := by decide +kernel
theorem eX6_init_75 : decode rX6_init.2.1 75 = .ok (.aload_n 0, 1) := by decide +kernel
theorem eX6_init_76 : decode rX6_init.2.1 76 = .ok (.iconst (-1), 1) := by decide +kernel
theorem eX6_init_77 : decode rX6_init.2.1 77 = .ok (.putfield 47, 3) := by decide +kernel
theorem eX6_init_80 : decode rX6_init.2.1 80 = .ok (.aload_n 0, 1) := by decide +kernel
theorem eX6_init_81 : decode rX6_init.2.1 81 = .ok (.iconst (-1), 1) := by decide +kernel
theorem eX6_init_82 : decode rX6_init.2.1 82 = .ok (.putfield 51, 3) := by decide +kernel
theorem eX6_init_85 : decode rX6_init.2.1 85 = .ok (.return_, 1) := by decide +kernel
theorem eX6_addPassenger_0 : decode rX6_addPassenger.2.1 0 = .ok (.aload_n 0, 1) := by decide +kernel
theorem eX6_addPassenger_1 : decode rX6_addPassenger.2.1 1 = .ok (.getfield 12, 3) := by decide +kernel
theorem eX6_addPassenger_4 : decode rX6_addPassenger.2.1 4 = .ok (.iload_n 1, 1) := by decide +kernel
theorem eX6_addPassenger_5 : decode rX6_addPassenger.2.1 5 = .ok (.iload_n 2, 1) := by decide +kernel
theorem eX6_addPassenger_6 : decode rX6_addPassenger.2.1 6 = .ok (.iload_n 3, 1) := by decide +kernel
theorem eX6_addPassenger_7 : decode rX6_addPassenger.2.1 7 = .ok (.invokevirtual 54, 3) := by decide +kernel
theorem eX6_addPassenger_10 : decode rX6_addPassenger.2.1 10 = .ok (.invokestatic 58, 3) := by decide +kernel
theorem eX6_addPassenger_13 : decode rX6_addPassenger.2.1 13 = .ok (.aload_n 0, 1) := by decide +kernel
theorem eX6_addPassenger_14 : decode rX6_addPassenger.2.1 14 = .ok (.getfield 25, 3) := by decide +kernel
theorem eX6_addPassenger_17 : decode rX6_addPassenger.2.1 17 = .ok (.aload_n 0, 1) := by decide +kernel
theorem eX6_addPassenger_18 : decode rX6_addPassenger.2.1 18 = .ok (.getfield 12, 3) := by decide +kernel
theorem eX6_addPassenger_21 : decode rX6_addPassenger.2.1 21 = .ok (.invokevirtual 62, 3) := by decide +kernel
theorem eX6_addPassenger_24 : decode rX6_addPassenger.2.1 24 = .ok (.aload_n 0, 1) := by decide +kernel
theorem eX6_addPassenger_25 : decode rX6_addPassenger.2.1 25 = .ok (.getfield 12, 3) := by decide +kernel
theorem eX6_addPassenger_28 : decode rX6_addPassenger.2.1 28 = .ok (.iload_n 1, 1) := by decide +kernel
theorem eX6_addPassenger_29 : decode rX6_addPassenger.2.1 29 = .ok (.iload_n 2, 1) := by decide +kernel
theorem eX6_addPassenger_30 : decode rX6_addPassenger.2.1 30 = .ok (.iload_n 3, 1) := by decide +kernel
theorem eX6_addPassenger_31 : decode rX6_addPassenger.2.1 31 = .ok (.invokevirtual 66, 3) := by decide +kernel
theorem eX6_addPassenger_34 : decode rX6_addPassenger.2.1 34 = .ok (.ireturn, 1) := by decide +kernel
theorem eX6_removePassenger_0 : decode rX6_removePassenger.2.1 0 = .ok (.aload_n 0, 1) := by decide +kernel
theorem eX6_removePassenger_1 : decode rX6_removePassenger.2.1 1 = .ok (.getfield 12, 3) := by decide +kernel
theorem eX6_removePassenger_4 : decode rX6_removePassenger.2.1 4 = .ok (.iload_n 1, 1) := by decide +kernel
theorem eX6_removePassenger_5 : decode rX6_removePassenger.2.1 5 = .ok (.invokevirtual 69, 3) := by decide +kernel
theorem eX6_removePassenger_8 : decode rX6_removePassenger.2.1 8 = .ok (.invokestatic 58, 3) := by decide +kernel
theorem eX6_removePassenger_11 : decode rX6_removePassenger.2.1 11 = .ok (.aload_n 0, 1) := by decide +kernel
theorem eX6_removePassenger_12 : decode rX6_removePassenger.2.1 12 = .ok (.getfield 25, 3) := by decide +kernel
theorem eX6_removePassenger_15 : decode rX6_removePassenger.2.1 15 = .ok (.aload_n 0, 1) := by decide +kernel
theorem eX6_removePassenger_16 : decode rX6_removePassenger.2.1 16 = .ok (.getfield 12, 3) := by decide +kernel
theorem eX6_removePassenger_19 : decode rX6_removePassenger.2.1 19 = .ok (.invokevirtual 62, 3) := by decide +kernel
theorem eX6_removePassenger_22 : decode rX6_removePassenger.2.1 22 = .ok (.aload_n 0, 1) := by decide +kernel
theorem eX6_removePassenger_23 : decode rX6_removePassenger.2.1 23 = .ok (.getfield 12, 3) := by decide +kernel
theorem eX6_removePassenger_26 : decode rX6_removePassenger.2.1 26 = .ok (.iload_n 1, 1) := by decide +kernel
theorem eX6_removePassenger_27 : decode rX6_removePassenger.2.1 27 = .ok (.invokevirtual 73, 3) := by decide +kernel
theorem eX6_removePassenger_30 : decode rX6_removePassenger.2.1 30 = .ok (.ireturn, 1) := by decide +kernel
theorem eX6_holdDoors_0 : decode rX6_holdDoors.2.1 0 = .ok (.aload_n 0, 1) := by decide +kernel
theorem eX6_holdDoors_1 : decode rX6_holdDoors.2.1 1 = .ok (.getfield 12, 3) := by decide +kernel
theorem eX6_holdDoors_4 : decode rX6_holdDoors.2.1 4 = .ok (.iload_n 1, 1) := by decide +kernel
theorem eX6_holdDoors_5 : decode rX6_holdDoors.2.1 5 = .ok (.iload_n 2, 1) := by decide +kernel
theorem eX6_holdDoors_6 : decode rX6_holdDoors.2.1 6 = .ok (.invokevirtual 76, 3) := by decide +kernel
theorem eX6_holdDoors_9 : decode rX6_holdDoors.2.1 9 = .ok (.invokestatic 58, 3) := by decide +kernel
theorem eX6_holdDoors_12 : decode rX6_holdDoors.2.1 12 = .ok (.aload_n 0, 1) := by decide +kernel
theorem eX6_holdDoors_13 : decode rX6_holdDoors.2.1 13 = .ok (.getfield 25, 3) := by decide +kernel
theorem eX6_holdDoors_16 : decode rX6_holdDoors.2.1 16 = .ok (.aload_n 0, 1) := by decide +kernel
theorem eX6_holdDoors_17 : decode rX6_holdDoors.2.1 17 = .ok (.getfield 12, 3) := by decide +kernel
theorem eX6_holdDoors_20 : decode rX6_holdDoors.2.1 20 = .ok (.invokevirtual 62, 3) := by decide +kernel
theorem eX6_holdDoors_23 : decode rX6_holdDoors.2.1 23 = .ok (.aload_n 0, 1) := by decide +kernel
theorem eX6_holdDoors_24 : decode rX6_holdDoors.2.1 24 = .ok (.getfield 12, 3) := by decide +kernel
theorem eX6_holdDoors_27 : decode rX6_holdDoors.2.1 27 = .ok (.iload_n 1, 1) := by decide +kernel
theorem eX6_holdDoors_28 : decode rX6_holdDoors.2.1 28 = .ok (.iload_n 2, 1) := by decide +kernel
theorem eX6_holdDoors_29 : decode rX6_holdDoors.2.1 29 = .ok (.invokevirtual 80, 3) := by decide +kernel
theorem eX6_holdDoors_32 : decode rX6_holdDoors.2.1 32 = .ok (.ireturn, 1) := by decide +kernel
theorem eX6_stopCar_0 : decode rX6_stopCar.2.1 0 = .ok (.aload_n 0, 1) := by decide +kernel
theorem eX6_stopCar_1 : decode rX6_stopCar.2.1 1 = .ok (.getfield 12, 3) := by decide +kernel
theorem eX6_stopCar_4 : decode rX6_stopCar.2.1 4 = .ok (.iload_n 1, 1) := by decide +kernel
theorem eX6_stopCar_5 : decode rX6_stopCar.2.1 5 = .ok (.invokevirtual 83, 3) := by decide +kernel
theorem eX6_stopCar_8 : decode rX6_stopCar.2.1 8 = .ok (.invokestatic 58, 3) := by decide +kernel
theorem eX6_stopCar_11 : decode rX6_stopCar.2.1 11 = .ok (.aload_n 0, 1) := by decide +kernel
theorem eX6_stopCar_12 : decode rX6_stopCar.2.1 12 = .ok (.getfield 25, 3) := by decide +kernel
theorem eX6_stopCar_15 : decode rX6_stopCar.2.1 15 = .ok (.aload_n 0, 1) := by decide +kernel
theorem eX6_stopCar_16 : decode rX6_stopCar.2.1 16 = .ok (.getfield 12, 3) := by decide +kernel
theorem eX6_stopCar_19 : decode rX6_stopCar.2.1 19 = .ok (.invokevirtual 62, 3) := by decide +kernel
theorem eX6_stopCar_22 : decode rX6_stopCar.2.1 22 = .ok (.aload_n 0, 1) := by decide +kernel
theorem eX6_stopCar_23 : decode rX6_stopCar.2.1 23 = .ok (.getfield 12, 3) := by decide +kernel
theorem eX6_stopCar_26 : decode rX6_stopCar.2.1 26 = .ok (.iload_n 1, 1) := by decide +kernel
theorem eX6_stopCar_27 : decode rX6_stopCar.2.1 27 = .ok (.invokevirtual 86, 3) := by decide +kernel
theorem eX6_stopCar_30 : decode rX6_stopCar.2.1 30 = .ok (.ireturn, 1) := by decide +kernel
theorem eX6_startCar_0 : decode rX6_startCar.2.1 0 = .ok (.aload_n 0, 1) := by decide +kernel
theorem eX6_startCar_1 : decode rX6_startCar.2.1 1 = .ok (.getfield 12, 3) := by decide +kernel
theorem eX6_startCar_4 : decode rX6_startCar.2.1 4 = .ok (.iload_n 1, 1) := by decide +kernel
theorem eX6_startCar_5 : decode rX6_startCar.2.1 5 = .ok (.invokevirtual 89, 3) := by decide +kernel
theorem eX6_startCar_8 : decode rX6_startCar.2.1 8 = .ok (.invokestatic 58, 3) := by decide +kernel
theorem eX6_startCar_11 : decode rX6_startCar.2.1 11 = .ok (.aload_n 0, 1) := by decide +kernel
theorem eX6_startCar_12 : decode rX6_startCar.2.1 12 = .ok (.getfield 25, 3) := by decide +kernel
theorem eX6_startCar_15 : decode rX6_startCar.2.1 15 = .ok (.aload_n 0, 1) := by decide +kernel
theorem eX6_startCar_16 : decode rX6_startCar.2.1 16 = .ok (.getfield 12, 3) := by decide +kernel
theorem eX6_startCar_19 : decode rX6_startCar.2.1 19 = .ok (.invokevirtual 62, 3) := by decide +kernel
theorem eX6_startCar_22 : decode rX6_startCar.2.1 22 = .ok (.aload_n 0, 1) := by decide +kernel
theorem eX6_startCar_23 : decode rX6_startCar.2.1 23 = .ok (.getfield 12, 3) := by decide +kernel
theorem eX6_startCar_26 : decode rX6_startCar.2.1 26 = .ok (.iload_n 1, 1) := by decide +kernel
theorem eX6_startCar_27 : decode rX6_startCar.2.1 27 = .ok (.invokevirtual 92, 3) := by decide +kernel
theorem eX6_startCar_30 : decode rX6_startCar.2.1 30 = .ok (.ireturn, 1) := by decide +kernel
theorem eX6_setCapacity_0 : decode rX6_setCapacity.2.1 0 = .ok (.aload_n 0, 1) := by decide +kernel
theorem eX6_setCapacity_1 : decode rX6_setCapacity.2.1 1 = .ok (.getfield 12, 3) := by decide +kernel
theorem eX6_setCapacity_4 : decode rX6_setCapacity.2.1 4 = .ok (.iload_n 1, 1) := by decide +kernel
theorem eX6_setCapacity_5 : decode rX6_setCapacity.2.1 5 = .ok (.iload_n 2, 1) := by decide +kernel
theorem eX6_setCapacity_6 : decode rX6_setCapacity.2.1 6 = .ok (.invokevirtual 95, 3) := by decide +kernel
theorem eX6_setCapacity_9 : decode rX6_setCapacity.2.1 9 = .ok (.invokestatic 58, 3) := by decide +kernel
theorem eX6_setCapacity_12 : decode rX6_setCapacity.2.1 12 = .ok (.aload_n 0, 1) := by decide +kernel
theorem eX6_setCapacity_13 : decode rX6_setCapacity.2.1 13 = .ok (.getfield 25, 3) := by decide +kernel
theorem eX6_setCapacity_16 : decode rX6_setCapacity.2.1 16 = .ok (.aload_n 0, 1) := by decide +kernel
theorem eX6_setCapacity_17 : decode rX6_setCapacity.2.1 17 = .ok (.getfield 12, 3) := by decide +kernel
theorem eX6_setCapacity_20 : decode rX6_setCapacity.2.1 20 = .ok (.invokevirtual 62, 3) := by decide +kernel
theorem eX6_setCapacity_23 : decode rX6_setCapacity.2.1 23 = .ok (.aload_n 0, 1) := by decide +kernel
theorem eX6_setCapacity_24 : decode rX6_setCapacity.2.1 24 = .ok (.getfield 12, 3) := by decide +kernel
theorem eX6_setCapacity_27 : decode rX6_setCapacity.2.1 27 = .ok (.iload_n 1, 1) := by decide +kernel
theorem eX6_setCapacity_28 : decode rX6_setCapacity.2.1 28 = .ok (.iload_n 2, 1) := by decide +kernel
theorem eX6_setCapacity_29 : decode rX6_setCapacity.2.1 29 = .ok (.invokevirtual 98, 3) := by decide +kernel
theorem eX6_setCapacity_32 : decode rX6_setCapacity.2.1 32 = .ok (.ireturn, 1) := by decide +kernel
theorem eX6_advance_0 : decode rX6_advance.2.1 0 = .ok (.aload_n 0, 1) := by decide +kernel
theorem eX6_advance_1 : decode rX6_advance.2.1 1 = .ok (.getfield 12, 3) := by decide +kernel
theorem eX6_advance_4 : decode rX6_advance.2.1 4 = .ok (.iload_n 1, 1) := by decide +kernel
theorem eX6_advance_5 : decode rX6_advance.2.1 5 = .ok (.invokevirtual 101, 3) := by decide +kernel
theorem eX6_advance_8 : decode rX6_advance.2.1 8 = .ok (.invokestatic 58, 3) := by decide +kernel
theorem eX6_advance_11 : decode rX6_advance.2.1 11 = .ok (.aload_n 0, 1) := by decide +kernel
theorem eX6_advance_12 : decode rX6_advance.2.1 12 = .ok (.getfield 25, 3) := by decide +kernel
theorem eX6_advance_15 : decode rX6_advance.2.1 15 = .ok (.aload_n 0, 1) := by decide +kernel
theorem eX6_advance_16 : decode rX6_advance.2.1 16 = .ok (.getfield 12, 3) := by decide +kernel
theorem eX6_advance_19 : decode rX6_advance.2.1 19 = .ok (.invokevirtual 62, 3) := by decide +kernel
theorem eX6_advance_22 : decode rX6_advance.2.1 22 = .ok (.aload_n 0, 1) := by decide +kernel
theorem eX6_advance_23 : decode rX6_advance.2.1 23 = .ok (.getfield 12, 3) := by decide +kernel
theorem eX6_advance_26 : decode rX6_advance.2.1 26 = .ok (.iload_n 1, 1) := by decide +kernel
theorem eX6_advance_27 : decode rX6_advance.2.1 27 = .ok (.invokevirtual 104, 3) := by decide +kernel
theorem eX6_advance_30 : decode rX6_advance.2.1 30 = .ok (.ireturn, 1) := by decide +kernel
theorem eX6_time_0 : decode rX6_time.2.1 0 = .ok (.aload_n 0, 1) := by decide +kernel
theorem eX6_time_1 : decode rX6_time.2.1 1 = .ok (.getfield 12, 3) := by decide +kernel
theorem eX6_time_4 : decode rX6_time.2.1 4 = .ok (.getfield 107, 3) := by decide +kernel
theorem eX6_time_7 : decode rX6_time.2.1 7 = .ok (.ireturn, 1) := by decide +kernel
theorem eX6_floor_0 : decode rX6_floor.2.1 0 = .ok (.iload_n 1, 1) := by decide +kernel
theorem eX6_floor_1 : decode rX6_floor.2.1 1 = .ok (.invokestatic 110, 3) := by decide +kernel
theorem eX6_floor_4 : decode rX6_floor.2.1 4 = .ok (.aload_n 0, 1) := by decide +kernel
theorem eX6_floor_5 : decode rX6_floor.2.1 5 = .ok (.getfield 12, 3) := by decide +kernel
theorem eX6_floor_8 : decode rX6_floor.2.1 8 = .ok (.getfield 113, 3) := by decide +kernel
theorem eX6_floor_11 : decode rX6_floor.2.1 11 = .ok (.iload_n 1, 1) := by decide +kernel
theorem eX6_floor_12 : decode rX6_floor.2.1 12 = .ok (.aaload, 1) := by decide +kernel
theorem eX6_floor_13 : decode rX6_floor.2.1 13 = .ok (.getfield 117, 3) := by decide +kernel
theorem eX6_floor_16 : decode rX6_floor.2.1 16 = .ok (.ireturn, 1) := by decide +kernel
theorem eX6_direction_0 : decode rX6_direction.2.1 0 = .ok (.iload_n 1, 1) := by decide +kernel
theorem eX6_direction_1 : decode rX6_direction.2.1 1 = .ok (.invokestatic 110, 3) := by decide +kernel
theorem eX6_direction_4 : decode rX6_direction.2.1 4 = .ok (.aload_n 0, 1) := by decide +kernel
theorem eX6_direction_5 : decode rX6_direction.2.1 5 = .ok (.getfield 12, 3) := by decide +kernel
theorem eX6_direction_8 : decode rX6_direction.2.1 8 = .ok (.getfield 113, 3) := by decide +kernel
theorem eX6_direction_11 : decode rX6_direction.2.1 11 = .ok (.iload_n 1, 1) := by decide +kernel
theorem eX6_direction_12 : decode rX6_direction.2.1 12 = .ok (.aaload, 1) := by decide +kernel
theorem eX6_direction_13 : decode rX6_direction.2.1 13 = .ok (.getfield 122, 3) := by decide +kernel
theorem eX6_direction_16 : decode rX6_direction.2.1 16 = .ok (.ireturn, 1) := by decide +kernel
theorem eX6_capacity_0 : decode rX6_capacity.2.1 0 = .ok (.iload_n 1, 1) := by decide +kernel
theorem eX6_capacity_1 : decode rX6_capacity.2.1 1 = .ok (.invokestatic 110, 3) := by decide +kernel
theorem eX6_capacity_4 : decode rX6_capacity.2.1 4 = .ok (.aload_n 0, 1) := by decide +kernel
theorem eX6_capacity_5 : decode rX6_capacity.2.1 5 = .ok (.getfield 12, 3) := by decide +kernel
theorem eX6_capacity_8 : decode rX6_capacity.2.1 8 = .ok (.getfield 113, 3) := by decide +kernel
theorem eX6_capacity_11 : decode rX6_capacity.2.1 11 = .ok (.iload_n 1, 1) := by decide +kernel
theorem eX6_capacity_12 : decode rX6_capacity.2.1 12 = .ok (.aaload, 1) := by decide +kernel
theorem eX6_capacity_13 : decode rX6_capacity.2.1 13 = .ok (.getfield 125, 3) := by decide +kernel
theorem eX6_capacity_16 : decode rX6_capacity.2.1 16 = .ok (.ireturn, 1) := by decide +kernel
theorem eX6_load_0 : decode rX6_load.2.1 0 = .ok (.iload_n 1, 1) := by decide +kernel
theorem eX6_load_1 : decode rX6_load.2.1 1 = .ok (.invokestatic 110, 3) := by decide +kernel
theorem eX6_load_4 : decode rX6_load.2.1 4 = .ok (.aload_n 0, 1) := by decide +kernel
theorem eX6_load_5 : decode rX6_load.2.1 5 = .ok (.getfield 12, 3) := by decide +kernel
theorem eX6_load_8 : decode rX6_load.2.1 8 = .ok (.getfield 113, 3) := by decide +kernel
theorem eX6_load_11 : decode rX6_load.2.1 11 = .ok (.iload_n 1, 1) := by decide +kernel
theorem eX6_load_12 : decode rX6_load.2.1 12 = .ok (.aaload, 1) := by decide +kernel
theorem eX6_load_13 : decode rX6_load.2.1 13 = .ok (.getfield 128, 3) := by decide +kernel
theorem eX6_load_16 : decode rX6_load.2.1 16 = .ok (.ireturn, 1) := by decide +kernel
theorem eX6_passengersIn_0 : decode rX6_passengersIn.2.1 0 = .ok (.iload_n 1, 1) := by decide +kernel
theorem eX6_passengersIn_1 : decode rX6_passengersIn.2.1 1 = .ok (.invokestatic 110, 3) := by decide +kernel
theorem eX6_passengersIn_4 : decode rX6_passengersIn.2.1 4 = .ok (.aload_n 0, 1) := by decide +kernel
theorem eX6_passengersIn_5 : decode rX6_passengersIn.2.1 5 = .ok (.getfield 12, 3) := by decide +kernel
theorem eX6_passengersIn_8 : decode rX6_passengersIn.2.1 8 = .ok (.getfield 113, 3) := by decide +kernel
theorem eX6_passengersIn_11 : decode rX6_passengersIn.2.1 11 = .ok (.iload_n 1, 1) := by decide +kernel
theorem eX6_passengersIn_12 : decode rX6_passengersIn.2.1 12 = .ok (.aaload, 1) := by decide +kernel
theorem eX6_passengersIn_13 : decode rX6_passengersIn.2.1 13 = .ok (.getfield 131, 3) := by decide +kernel
theorem eX6_passengersIn_16 : decode rX6_passengersIn.2.1 16 = .ok (.ireturn, 1) := by decide +kernel
theorem eX6_doorSteps_0 : decode rX6_doorSteps.2.1 0 = .ok (.iload_n 1, 1) := by decide +kernel
theorem eX6_doorSteps_1 : decode rX6_doorSteps.2.1 1 = .ok (.invokestatic 110, 3) := by decide +kernel
theorem eX6_doorSteps_4 : decode rX6_doorSteps.2.1 4 = .ok (.aload_n 0, 1) := by decide +kernel
theorem eX6_doorSteps_5 : decode rX6_doorSteps.2.1 5 = .ok (.getfield 12, 3) := by decide +kernel
theorem eX6_doorSteps_8 : decode rX6_doorSteps.2.1 8 = .ok (.getfield 113, 3) := by decide +kernel
theorem eX6_doorSteps_11 : decode rX6_doorSteps.2.1 11 = .ok (.iload_n 1, 1) := by decide +kernel
theorem eX6_doorSteps_12 : decode rX6_doorSteps.2.1 12 = .ok (.aaload, 1) := by decide +kernel
theorem eX6_doorSteps_13 : decode rX6_doorSteps.2.1 13 = .ok (.getfield 137, 3) := by decide +kernel
theorem eX6_doorSteps_16 : decode rX6_doorSteps.2.1 16 = .ok (.ireturn, 1) := by decide +kernel
theorem eX6_isInService_0 : decode rX6_isInService.2.1 0 = .ok (.iload_n 1, 1) := by decide +kernel
theorem eX6_isInService_1 : decode rX6_isInService.2.1 1 = .ok (.invokestatic 110, 3) := by decide +kernel
theorem eX6_isInService_4 : decode rX6_isInService.2.1 4 = .ok (.aload_n 0, 1) := by decide +kernel
theorem eX6_isInService_5 : decode rX6_isInService.2.1 5 = .ok (.getfield 12, 3) := by decide +kernel
theorem eX6_isInService_8 : decode rX6_isInService.2.1 8 = .ok (.getfield 113, 3) := by decide +kernel
theorem eX6_isInService_11 : decode rX6_isInService.2.1 11 = .ok (.iload_n 1, 1) := by decide +kernel
theorem eX6_isInService_12 : decode rX6_isInService.2.1 12 = .ok (.aaload, 1) := by decide +kernel
theorem eX6_isInService_13 : decode rX6_isInService.2.1 13 = .ok (.getfield 140, 3) := by decide +kernel
theorem eX6_isInService_16 : decode rX6_isInService.2.1 16 = .ok (.ireturn, 1) := by decide +kernel
theorem eX6_energy_0 : decode rX6_energy.2.1 0 = .ok (.iload_n 1, 1) := by decide +kernel
theorem eX6_energy_1 : decode rX6_energy.2.1 1 = .ok (.invokestatic 110, 3) := by decide +kernel
theorem eX6_energy_4 : decode rX6_energy.2.1 4 = .ok (.aload_n 0, 1) := by decide +kernel
theorem eX6_energy_5 : decode rX6_energy.2.1 5 = .ok (.getfield 12, 3) := by decide +kernel
theorem eX6_energy_8 : decode rX6_energy.2.1 8 = .ok (.getfield 113, 3) := by decide +kernel
theorem eX6_energy_11 : decode rX6_energy.2.1 11 = .ok (.iload_n 1, 1) := by decide +kernel
theorem eX6_energy_12 : decode rX6_energy.2.1 12 = .ok (.aaload, 1) := by decide +kernel
theorem eX6_energy_13 : decode rX6_energy.2.1 13 = .ok (.getfield 143, 3) := by decide +kernel
theorem eX6_energy_16 : decode rX6_energy.2.1 16 = .ok (.ireturn, 1) := by decide +kernel
theorem eX6_nextStop_0 : decode rX6_nextStop.2.1 0 = .ok (.iload_n 1, 1) := by decide +kernel
theorem eX6_nextStop_1 : decode rX6_nextStop.2.1 1 = .ok (.invokestatic 110, 3) := by decide +kernel
theorem eX6_nextStop_4 : decode rX6_nextStop.2.1 4 = .ok (.aload_n 0, 1) := by decide +kernel
theorem eX6_nextStop_5 : decode rX6_nextStop.2.1 5 = .ok (.getfield 12, 3) := by decide +kernel
theorem eX6_nextStop_8 : decode rX6_nextStop.2.1 8 = .ok (.getfield 113, 3) := by decide +kernel
theorem eX6_nextStop_11 : decode rX6_nextStop.2.1 11 = .ok (.iload_n 1, 1) := by decide +kernel
theorem eX6_nextStop_12 : decode rX6_nextStop.2.1 12 = .ok (.aaload, 1) := by decide +kernel
theorem eX6_nextStop_13 : decode rX6_nextStop.2.1 13 = .ok (.astore_n 2, 1) := by decide +kernel
theorem eX6_nextStop_14 : decode rX6_nextStop.2.1 14 = .ok (.aload_n 0, 1) := by decide +kernel
theorem eX6_nextStop_15 : decode rX6_nextStop.2.1 15 = .ok (.getfield 12, 3) := by decide +kernel
theorem eX6_nextStop_18 : decode rX6_nextStop.2.1 18 = .ok (.iload_n 1, 1) := by decide +kernel
theorem eX6_nextStop_19 : decode rX6_nextStop.2.1 19 = .ok (.invokevirtual 149, 3) := by decide +kernel
theorem eX6_nextStop_22 : decode rX6_nextStop.2.1 22 = .ok (.istore_n 3, 1) := by decide +kernel
theorem eX6_nextStop_23 : decode rX6_nextStop.2.1 23 = .ok (.iload_n 3, 1) := by decide +kernel
theorem eX6_nextStop_24 : decode rX6_nextStop.2.1 24 = .ok (.ifCond .ne 13, 3) := by decide +kernel
theorem eX6_nextStop_27 : decode rX6_nextStop.2.1 27 = .ok (.new 161, 3) := by decide +kernel
theorem eX6_nextStop_30 : decode rX6_nextStop.2.1 30 = .ok (.dup, 1) := by decide +kernel
theorem eX6_nextStop_31 : decode rX6_nextStop.2.1 31 = .ok (.ldc 163, 2) := by decide +kernel
theorem eX6_nextStop_33 : decode rX6_nextStop.2.1 33 = .ok (.invokespecial 165, 3) := by decide +kernel
theorem eX6_nextStop_36 : decode rX6_nextStop.2.1 36 = .ok (.athrow, 1) := by decide +kernel
theorem eX6_nextStop_37 : decode rX6_nextStop.2.1 37 = .ok (.iload_n 3, 1) := by decide +kernel
theorem eX6_nextStop_38 : decode rX6_nextStop.2.1 38 = .ok (.aload_n 2, 1) := by decide +kernel
theorem eX6_nextStop_39 : decode rX6_nextStop.2.1 39 = .ok (.getfield 117, 3) := by decide +kernel
theorem eX6_nextStop_42 : decode rX6_nextStop.2.1 42 = .ok (.invokestatic 152, 3) := by decide +kernel
theorem eX6_nextStop_45 : decode rX6_nextStop.2.1 45 = .ok (.ifCond .eq 8, 3) := by decide +kernel
theorem eX6_nextStop_48 : decode rX6_nextStop.2.1 48 = .ok (.aload_n 2, 1) := by decide +kernel
theorem eX6_nextStop_49 : decode rX6_nextStop.2.1 49 = .ok (.getfield 117, 3) := by decide +kernel
theorem eX6_nextStop_52 : decode rX6_nextStop.2.1 52 = .ok (.ireturn, 1) := by decide +kernel
theorem eX6_nextStop_53 : decode rX6_nextStop.2.1 53 = .ok (.aload_n 2, 1) := by decide +kernel
theorem eX6_nextStop_54 : decode rX6_nextStop.2.1 54 = .ok (.iload_n 3, 1) := by decide +kernel
theorem eX6_nextStop_55 : decode rX6_nextStop.2.1 55 = .ok (.invokestatic 168, 3) := by decide +kernel
theorem eX6_nextStop_58 : decode rX6_nextStop.2.1 58 = .ok (.istore 4, 2) := by decide +kernel
theorem eX6_nextStop_60 : decode rX6_nextStop.2.1 60 = .ok (.aload_n 2, 1) := by decide +kernel
theorem eX6_nextStop_61 : decode rX6_nextStop.2.1 61 = .ok (.getfield 117, 3) := by decide +kernel
theorem eX6_nextStop_64 : decode rX6_nextStop.2.1 64 = .ok (.iload 4, 2) := by decide +kernel
theorem eX6_nextStop_66 : decode rX6_nextStop.2.1 66 = .ok (.iload_n 3, 1) := by decide +kernel
theorem eX6_nextStop_67 : decode rX6_nextStop.2.1 67 = .ok (.aload_n 2, 1) := by decide +kernel
theorem eX6_nextStop_68 : decode rX6_nextStop.2.1 68 = .ok (.getfield 117, 3) := by decide +kernel
theorem eX6_nextStop_71 : decode rX6_nextStop.2.1 71 = .ok (.iload 4, 2) := by decide +kernel
theorem eX6_nextStop_73 : decode rX6_nextStop.2.1 73 = .ok (.invokestatic 172, 3) := by decide +kernel
theorem eX6_nextStop_76 : decode rX6_nextStop.2.1 76 = .ok (.imul, 1) := by decide +kernel
theorem eX6_nextStop_77 : decode rX6_nextStop.2.1 77 = .ok (.iadd, 1) := by decide +kernel
theorem eX6_nextStop_78 : decode rX6_nextStop.2.1 78 = .ok (.ireturn, 1) := by decide +kernel
theorem eX6_passengerCount_0 : decode rX6_passengerCount.2.1 0 = .ok (.aload_n 0, 1) := by decide +kernel
theorem eX6_passengerCount_1 : decode rX6_passengerCount.2.1 1 = .ok (.getfield 12, 3) := by decide +kernel
theorem eX6_passengerCount_4 : decode rX6_passengerCount.2.1 4 = .ok (.getfield 175, 3) := by decide +kernel
theorem eX6_passengerCount_7 : decode rX6_passengerCount.2.1 7 = .ok (.ireturn, 1) := by decide +kernel
theorem eX6_number_0 : decode rX6_number.2.1 0 = .ok (.aload_n 0, 1) := by decide +kernel
theorem eX6_number_1 : decode rX6_number.2.1 1 = .ok (.iload_n 1, 1) := by decide +kernel
theorem eX6_number_2 : decode rX6_number.2.1 2 = .ok (.invokevirtual 178, 3) := by decide +kernel
theorem eX6_number_5 : decode rX6_number.2.1 5 = .ok (.aload_n 0, 1) := by decide +kernel
theorem eX6_number_6 : decode rX6_number.2.1 6 = .ok (.getfield 12, 3) := by decide +kernel
theorem eX6_number_9 : decode rX6_number.2.1 9 = .ok (.getfield 181, 3) := by decide +kernel
theorem eX6_number_12 : decode rX6_number.2.1 12 = .ok (.iload_n 1, 1) := by decide +kernel
theorem eX6_number_13 : decode rX6_number.2.1 13 = .ok (.aaload, 1) := by decide +kernel
theorem eX6_number_14 : decode rX6_number.2.1 14 = .ok (.getfield 185, 3) := by decide +kernel
theorem eX6_number_17 : decode rX6_number.2.1 17 = .ok (.ireturn, 1) := by decide +kernel
theorem eX6_start_0 : decode rX6_start.2.1 0 = .ok (.aload_n 0, 1) := by decide +kernel
theorem eX6_start_1 : decode rX6_start.2.1 1 = .ok (.iload_n 1, 1) := by decide +kernel
theorem eX6_start_2 : decode rX6_start.2.1 2 = .ok (.invokevirtual 178, 3) := by decide +kernel
theorem eX6_start_5 : decode rX6_start.2.1 5 = .ok (.aload_n 0, 1) := by decide +kernel
theorem eX6_start_6 : decode rX6_start.2.1 6 = .ok (.getfield 12, 3) := by decide +kernel
theorem eX6_start_9 : decode rX6_start.2.1 9 = .ok (.getfield 181, 3) := by decide +kernel
theorem eX6_start_12 : decode rX6_start.2.1 12 = .ok (.iload_n 1, 1) := by decide +kernel
theorem eX6_start_13 : decode rX6_start.2.1 13 = .ok (.aaload, 1) := by decide +kernel
theorem eX6_start_14 : decode rX6_start.2.1 14 = .ok (.getfield 190, 3) := by decide +kernel
theorem eX6_start_17 : decode rX6_start.2.1 17 = .ok (.ireturn, 1) := by decide +kernel
theorem eX6_destination_0 : decode rX6_destination.2.1 0 = .ok (.aload_n 0, 1) := by decide +kernel
theorem eX6_destination_1 : decode rX6_destination.2.1 1 = .ok (.iload_n 1, 1) := by decide +kernel
theorem eX6_destination_2 : decode rX6_destination.2.1 2 = .ok (.invokevirtual 178, 3) := by decide +kernel
theorem eX6_destination_5 : decode rX6_destination.2.1 5 = .ok (.aload_n 0, 1) := by decide +kernel
theorem eX6_destination_6 : decode rX6_destination.2.1 6 = .ok (.getfield 12, 3) := by decide +kernel
theorem eX6_destination_9 : decode rX6_destination.2.1 9 = .ok (.getfield 181, 3) := by decide +kernel
theorem eX6_destination_12 : decode rX6_destination.2.1 12 = .ok (.iload_n 1, 1) := by decide +kernel
theorem eX6_destination_13 : decode rX6_destination.2.1 13 = .ok (.aaload, 1) := by decide +kernel
theorem eX6_destination_14 : decode rX6_destination.2.1 14 = .ok (.getfield 193, 3) := by decide +kernel
theorem eX6_destination_17 : decode rX6_destination.2.1 17 = .ok (.ireturn, 1) := by decide +kernel
theorem eX6_weight_0 : decode rX6_weight.2.1 0 = .ok (.aload_n 0, 1) := by decide +kernel
theorem eX6_weight_1 : decode rX6_weight.2.1 1 = .ok (.iload_n 1, 1) := by decide +kernel
theorem eX6_weight_2 : decode rX6_weight.2.1 2 = .ok (.invokevirtual 178, 3) := by decide +kernel
theorem eX6_weight_5 : decode rX6_weight.2.1 5 = .ok (.aload_n 0, 1) := by decide +kernel
theorem eX6_weight_6 : decode rX6_weight.2.1 6 = .ok (.getfield 12, 3) := by decide +kernel
theorem eX6_weight_9 : decode rX6_weight.2.1 9 = .ok (.getfield 181, 3) := by decide +kernel
theorem eX6_weight_12 : decode rX6_weight.2.1 12 = .ok (.iload_n 1, 1) := by decide +kernel
theorem eX6_weight_13 : decode rX6_weight.2.1 13 = .ok (.aaload, 1) := by decide +kernel
theorem eX6_weight_14 : decode rX6_weight.2.1 14 = .ok (.getfield 196, 3) := by decide +kernel
theorem eX6_weight_17 : decode rX6_weight.2.1 17 = .ok (.ireturn, 1) := by decide +kernel
theorem eX6_waitingTime_0 : decode rX6_waitingTime.2.1 0 = .ok (.aload_n 0, 1) := by decide +kernel
theorem eX6_waitingTime_1 : decode rX6_waitingTime.2.1 1 = .ok (.iload_n 1, 1) := by decide +kernel
theorem eX6_waitingTime_2 : decode rX6_waitingTime.2.1 2 = .ok (.invokevirtual 178, 3) := by decide +kernel
theorem eX6_waitingTime_5 : decode rX6_waitingTime.2.1 5 = .ok (.aload_n 0, 1) := by decide +kernel
theorem eX6_waitingTime_6 : decode rX6_waitingTime.2.1 6 = .ok (.getfield 12, 3) := by decide +kernel
theorem eX6_waitingTime_9 : decode rX6_waitingTime.2.1 9 = .ok (.getfield 181, 3) := by decide +kernel
theorem eX6_waitingTime_12 : decode rX6_waitingTime.2.1 12 = .ok (.iload_n 1, 1) := by decide +kernel
theorem eX6_waitingTime_13 : decode rX6_waitingTime.2.1 13 = .ok (.aaload, 1) := by decide +kernel
theorem eX6_waitingTime_14 : decode rX6_waitingTime.2.1 14 = .ok (.getfield 199, 3) := by decide +kernel
theorem eX6_waitingTime_17 : decode rX6_waitingTime.2.1 17 = .ok (.ireturn, 1) := by decide +kernel
theorem eX6_isInCar_0 : decode rX6_isInCar.2.1 0 = .ok (.aload_n 0, 1) := by decide +kernel
theorem eX6_isInCar_1 : decode rX6_isInCar.2.1 1 = .ok (.iload_n 1, 1) := by decide +kernel
theorem eX6_isInCar_2 : decode rX6_isInCar.2.1 2 = .ok (.invokevirtual 178, 3) := by decide +kernel
theorem eX6_isInCar_5 : decode rX6_isInCar.2.1 5 = .ok (.aload_n 0, 1) := by decide +kernel
theorem eX6_isInCar_6 : decode rX6_isInCar.2.1 6 = .ok (.getfield 12, 3) := by decide +kernel
theorem eX6_isInCar_9 : decode rX6_isInCar.2.1 9 = .ok (.getfield 181, 3) := by decide +kernel
theorem eX6_isInCar_12 : decode rX6_isInCar.2.1 12 = .ok (.iload_n 1, 1) := by decide +kernel
theorem eX6_isInCar_13 : decode rX6_isInCar.2.1 13 = .ok (.aaload, 1) := by decide +kernel
theorem eX6_isInCar_14 : decode rX6_isInCar.2.1 14 = .ok (.getfield 202, 3) := by decide +kernel
theorem eX6_isInCar_17 : decode rX6_isInCar.2.1 17 = .ok (.ireturn, 1) := by decide +kernel
theorem eX6_carOf_0 : decode rX6_carOf.2.1 0 = .ok (.aload_n 0, 1) := by decide +kernel
theorem eX6_carOf_1 : decode rX6_carOf.2.1 1 = .ok (.iload_n 1, 1) := by decide +kernel
theorem eX6_carOf_2 : decode rX6_carOf.2.1 2 = .ok (.invokevirtual 178, 3) := by decide +kernel
theorem eX6_carOf_5 : decode rX6_carOf.2.1 5 = .ok (.aload_n 0, 1) := by decide +kernel
theorem eX6_carOf_6 : decode rX6_carOf.2.1 6 = .ok (.getfield 12, 3) := by decide +kernel
theorem eX6_carOf_9 : decode rX6_carOf.2.1 9 = .ok (.getfield 181, 3) := by decide +kernel
theorem eX6_carOf_12 : decode rX6_carOf.2.1 12 = .ok (.iload_n 1, 1) := by decide +kernel
theorem eX6_carOf_13 : decode rX6_carOf.2.1 13 = .ok (.aaload, 1) := by decide +kernel
theorem eX6_carOf_14 : decode rX6_carOf.2.1 14 = .ok (.getfield 205, 3) := by decide +kernel
theorem eX6_carOf_17 : decode rX6_carOf.2.1 17 = .ok (.istore_n 2, 1) := by decide +kernel
theorem eX6_carOf_18 : decode rX6_carOf.2.1 18 = .ok (.iload_n 2, 1) := by decide +kernel
theorem eX6_carOf_19 : decode rX6_carOf.2.1 19 = .ok (.iconst (-1), 1) := by decide +kernel
theorem eX6_carOf_20 : decode rX6_carOf.2.1 20 = .ok (.if_icmp .ne 13, 3) := by decide +kernel
theorem eX6_carOf_23 : decode rX6_carOf.2.1 23 = .ok (.new 161, 3) := by decide +kernel
theorem eX6_carOf_26 : decode rX6_carOf.2.1 26 = .ok (.dup, 1) := by decide +kernel
theorem eX6_carOf_27 : decode rX6_carOf.2.1 27 = .ok (.ldc 208, 2) := by decide +kernel
theorem eX6_carOf_29 : decode rX6_carOf.2.1 29 = .ok (.invokespecial 165, 3) := by decide +kernel
theorem eX6_carOf_32 : decode rX6_carOf.2.1 32 = .ok (.athrow, 1) := by decide +kernel
theorem eX6_carOf_33 : decode rX6_carOf.2.1 33 = .ok (.iload_n 2, 1) := by decide +kernel
theorem eX6_carOf_34 : decode rX6_carOf.2.1 34 = .ok (.ireturn, 1) := by decide +kernel
theorem eX6_estimate_0 : decode rX6_estimate.2.1 0 = .ok (.iload_n 1, 1) := by decide +kernel
theorem eX6_estimate_1 : decode rX6_estimate.2.1 1 = .ok (.invokestatic 110, 3) := by decide +kernel
theorem eX6_estimate_4 : decode rX6_estimate.2.1 4 = .ok (.iload_n 2, 1) := by decide +kernel
theorem eX6_estimate_5 : decode rX6_estimate.2.1 5 = .ok (.invokestatic 146, 3) := by decide +kernel
theorem eX6_estimate_8 : decode rX6_estimate.2.1 8 = .ok (.aload_n 0, 1) := by decide +kernel
theorem eX6_estimate_9 : decode rX6_estimate.2.1 9 = .ok (.getfield 12, 3) := by decide +kernel
theorem eX6_estimate_12 : decode rX6_estimate.2.1 12 = .ok (.iload_n 1, 1) := by decide +kernel
theorem eX6_estimate_13 : decode rX6_estimate.2.1 13 = .ok (.iload_n 2, 1) := by decide +kernel
theorem eX6_estimate_14 : decode rX6_estimate.2.1 14 = .ok (.invokevirtual 213, 3) := by decide +kernel
theorem eX6_estimate_17 : decode rX6_estimate.2.1 17 = .ok (.ireturn, 1) := by decide +kernel
theorem eX6_estimateByWalk_0 : decode rX6_estimateByWalk.2.1 0 = .ok (.iload_n 1, 1) := by decide +kernel
theorem eX6_estimateByWalk_1 : decode rX6_estimateByWalk.2.1 1 = .ok (.invokestatic 110, 3) := by decide +kernel
theorem eX6_estimateByWalk_4 : decode rX6_estimateByWalk.2.1 4 = .ok (.iload_n 2, 1) := by decide +kernel
theorem eX6_estimateByWalk_5 : decode rX6_estimateByWalk.2.1 5 = .ok (.invokestatic 146, 3) := by decide +kernel
theorem eX6_estimateByWalk_8 : decode rX6_estimateByWalk.2.1 8 = .ok (.aload_n 0, 1) := by decide +kernel
theorem eX6_estimateByWalk_9 : decode rX6_estimateByWalk.2.1 9 = .ok (.getfield 12, 3) := by decide +kernel
theorem eX6_estimateByWalk_12 : decode rX6_estimateByWalk.2.1 12 = .ok (.iload_n 1, 1) := by decide +kernel
theorem eX6_estimateByWalk_13 : decode rX6_estimateByWalk.2.1 13 = .ok (.iload_n 2, 1) := by decide +kernel
theorem eX6_estimateByWalk_14 : decode rX6_estimateByWalk.2.1 14 = .ok (.invokevirtual 216, 3) := by decide +kernel
theorem eX6_estimateByWalk_17 : decode rX6_estimateByWalk.2.1 17 = .ok (.ireturn, 1) := by decide +kernel
theorem eX6_bestCar_0 : decode rX6_bestCar.2.1 0 = .ok (.iload_n 1, 1) := by decide +kernel
theorem eX6_bestCar_1 : decode rX6_bestCar.2.1 1 = .ok (.invokestatic 146, 3) := by decide +kernel
theorem eX6_bestCar_4 : decode rX6_bestCar.2.1 4 = .ok (.iload_n 2, 1) := by decide +kernel
theorem eX6_bestCar_5 : decode rX6_bestCar.2.1 5 = .ok (.invokestatic 219, 3) := by decide +kernel
theorem eX6_bestCar_8 : decode rX6_bestCar.2.1 8 = .ok (.ifCond .ne 13, 3) := by decide +kernel
theorem eX6_bestCar_11 : decode rX6_bestCar.2.1 11 = .ok (.new 223, 3) := by decide +kernel
theorem eX6_bestCar_14 : decode rX6_bestCar.2.1 14 = .ok (.dup, 1) := by decide +kernel
theorem eX6_bestCar_15 : decode rX6_bestCar.2.1 15 = .ok (.ldc 225, 2) := by decide +kernel
theorem eX6_bestCar_17 : decode rX6_bestCar.2.1 17 = .ok (.invokespecial 227, 3) := by decide +kernel
theorem eX6_bestCar_20 : decode rX6_bestCar.2.1 20 = .ok (.athrow, 1) := by decide +kernel
theorem eX6_bestCar_21 : decode rX6_bestCar.2.1 21 = .ok (.aload_n 0, 1) := by decide +kernel
theorem eX6_bestCar_22 : decode rX6_bestCar.2.1 22 = .ok (.getfield 12, 3) := by decide +kernel
theorem eX6_bestCar_25 : decode rX6_bestCar.2.1 25 = .ok (.iload_n 1, 1) := by decide +kernel
theorem eX6_bestCar_26 : decode rX6_bestCar.2.1 26 = .ok (.iload_n 2, 1) := by decide +kernel
theorem eX6_bestCar_27 : decode rX6_bestCar.2.1 27 = .ok (.invokevirtual 228, 3) := by decide +kernel
theorem eX6_bestCar_30 : decode rX6_bestCar.2.1 30 = .ok (.istore_n 3, 1) := by decide +kernel
theorem eX6_bestCar_31 : decode rX6_bestCar.2.1 31 = .ok (.iload_n 3, 1) := by decide +kernel
theorem eX6_bestCar_32 : decode rX6_bestCar.2.1 32 = .ok (.iconst (-1), 1) := by decide +kernel
theorem eX6_bestCar_33 : decode rX6_bestCar.2.1 33 = .ok (.if_icmp .ne 13, 3) := by decide +kernel
theorem eX6_bestCar_36 : decode rX6_bestCar.2.1 36 = .ok (.new 161, 3) := by decide +kernel
theorem eX6_bestCar_39 : decode rX6_bestCar.2.1 39 = .ok (.dup, 1) := by decide +kernel
theorem eX6_bestCar_40 : decode rX6_bestCar.2.1 40 = .ok (.ldc 231, 2) := by decide +kernel
theorem eX6_bestCar_42 : decode rX6_bestCar.2.1 42 = .ok (.invokespecial 165, 3) := by decide +kernel
theorem eX6_bestCar_45 : decode rX6_bestCar.2.1 45 = .ok (.athrow, 1) := by decide +kernel
theorem eX6_bestCar_46 : decode rX6_bestCar.2.1 46 = .ok (.iload_n 3, 1) := by decide +kernel
theorem eX6_bestCar_47 : decode rX6_bestCar.2.1 47 = .ok (.ireturn, 1) := by decide +kernel
theorem eX6_stepsUntilBoarding_0 : decode rX6_stepsUntilBoarding.2.1 0 = .ok (.aload_n 0, 1) := by decide +kernel
theorem eX6_stepsUntilBoarding_1 : decode rX6_stepsUntilBoarding.2.1 1 = .ok (.iload_n 1, 1) := by decide +kernel
theorem eX6_stepsUntilBoarding_2 : decode rX6_stepsUntilBoarding.2.1 2 = .ok (.invokevirtual 178, 3) := by decide +kernel
theorem eX6_stepsUntilBoarding_5 : decode rX6_stepsUntilBoarding.2.1 5 = .ok (.aload_n 0, 1) := by decide +kernel
theorem eX6_stepsUntilBoarding_6 : decode rX6_stepsUntilBoarding.2.1 6 = .ok (.getfield 12, 3) := by decide +kernel
theorem eX6_stepsUntilBoarding_9 : decode rX6_stepsUntilBoarding.2.1 9 = .ok (.getfield 181, 3) := by decide +kernel
theorem eX6_stepsUntilBoarding_12 : decode rX6_stepsUntilBoarding.2.1 12 = .ok (.iload_n 1, 1) := by decide +kernel
theorem eX6_stepsUntilBoarding_13 : decode rX6_stepsUntilBoarding.2.1 13 = .ok (.aaload, 1) := by decide +kernel
theorem eX6_stepsUntilBoarding_14 : decode rX6_stepsUntilBoarding.2.1 14 = .ok (.getfield 202, 3) := by decide +kernel
theorem eX6_stepsUntilBoarding_17 : decode rX6_stepsUntilBoarding.2.1 17 = .ok (.ifCond .eq 5, 3) := by decide +kernel
theorem eX6_stepsUntilBoarding_20 : decode rX6_stepsUntilBoarding.2.1 20 = .ok (.iconst 0, 1) := by decide +kernel
theorem eX6_stepsUntilBoarding_21 : decode rX6_stepsUntilBoarding.2.1 21 = .ok (.ireturn, 1) := by decide +kernel
theorem eX6_stepsUntilBoarding_22 : decode rX6_stepsUntilBoarding.2.1 22 = .ok (.aload_n 0, 1) := by decide +kernel
theorem eX6_stepsUntilBoarding_23 : decode rX6_stepsUntilBoarding.2.1 23 = .ok (.getfield 12, 3) := by decide +kernel
theorem eX6_stepsUntilBoarding_26 : decode rX6_stepsUntilBoarding.2.1 26 = .ok (.getfield 181, 3) := by decide +kernel
theorem eX6_stepsUntilBoarding_29 : decode rX6_stepsUntilBoarding.2.1 29 = .ok (.iload_n 1, 1) := by decide +kernel
theorem eX6_stepsUntilBoarding_30 : decode rX6_stepsUntilBoarding.2.1 30 = .ok (.aaload, 1) := by decide +kernel
theorem eX6_stepsUntilBoarding_31 : decode rX6_stepsUntilBoarding.2.1 31 = .ok (.getfield 185, 3) := by decide +kernel
theorem eX6_stepsUntilBoarding_34 : decode rX6_stepsUntilBoarding.2.1 34 = .ok (.istore_n 2, 1) := by decide +kernel
theorem eX6_stepsUntilBoarding_35 : decode rX6_stepsUntilBoarding.2.1 35 = .ok (.aload_n 0, 1) := by decide +kernel
theorem eX6_stepsUntilBoarding_36 : decode rX6_stepsUntilBoarding.2.1 36 = .ok (.getfield 16, 3) := by decide +kernel
theorem eX6_stepsUntilBoarding_39 : decode rX6_stepsUntilBoarding.2.1 39 = .ok (.aload_n 0, 1) := by decide +kernel
theorem eX6_stepsUntilBoarding_40 : decode rX6_stepsUntilBoarding.2.1 40 = .ok (.getfield 12, 3) := by decide +kernel
theorem eX6_stepsUntilBoarding_43 : decode rX6_stepsUntilBoarding.2.1 43 = .ok (.invokevirtual 233, 3) := by decide +kernel
theorem eX6_stepsUntilBoarding_46 : decode rX6_stepsUntilBoarding.2.1 46 = .ok (.iconst 1, 1) := by decide +kernel
theorem eX6_stepsUntilBoarding_47 : decode rX6_stepsUntilBoarding.2.1 47 = .ok (.istore_n 3, 1) := by decide +kernel
theorem eX6_stepsUntilBoarding_48 : decode rX6_stepsUntilBoarding.2.1 48 = .ok (.iload_n 3, 1) := by decide +kernel
theorem eX6_stepsUntilBoarding_49 : decode rX6_stepsUntilBoarding.2.1 49 = .ok (.bipush 90, 2) := by decide +kernel
theorem eX6_stepsUntilBoarding_51 : decode rX6_stepsUntilBoarding.2.1 51 = .ok (.if_icmp .gt 29, 3) := by decide +kernel
theorem eX6_stepsUntilBoarding_54 : decode rX6_stepsUntilBoarding.2.1 54 = .ok (.aload_n 0, 1) := by decide +kernel
theorem eX6_stepsUntilBoarding_55 : decode rX6_stepsUntilBoarding.2.1 55 = .ok (.getfield 16, 3) := by decide +kernel
theorem eX6_stepsUntilBoarding_58 : decode rX6_stepsUntilBoarding.2.1 58 = .ok (.invokevirtual 236, 3) := by decide +kernel
theorem eX6_stepsUntilBoarding_61 : decode rX6_stepsUntilBoarding.2.1 61 = .ok (.aload_n 0, 1) := by decide +kernel
theorem eX6_stepsUntilBoarding_62 : decode rX6_stepsUntilBoarding.2.1 62 = .ok (.getfield 16, 3) := by decide +kernel
theorem eX6_stepsUntilBoarding_65 : decode rX6_stepsUntilBoarding.2.1 65 = .ok (.iload_n 2, 1) := by decide +kernel
theorem eX6_stepsUntilBoarding_66 : decode rX6_stepsUntilBoarding.2.1 66 = .ok (.invokevirtual 239, 3) := by decide +kernel
theorem eX6_stepsUntilBoarding_69 : decode rX6_stepsUntilBoarding.2.1 69 = .ok (.ifCond .eq 5, 3) := by decide +kernel
theorem eX6_stepsUntilBoarding_72 : decode rX6_stepsUntilBoarding.2.1 72 = .ok (.iload_n 3, 1) := by decide +kernel
theorem eX6_stepsUntilBoarding_73 : decode rX6_stepsUntilBoarding.2.1 73 = .ok (.ireturn, 1) := by decide +kernel
theorem eX6_stepsUntilBoarding_74 : decode rX6_stepsUntilBoarding.2.1 74 = .ok (.iinc 3 1, 3) := by decide +kernel
theorem eX6_stepsUntilBoarding_77 : decode rX6_stepsUntilBoarding.2.1 77 = .ok (.goto (-29), 3) := by decide +kernel
theorem eX6_stepsUntilBoarding_80 : decode rX6_stepsUntilBoarding.2.1 80 = .ok (.new 161, 3) := by decide +kernel
theorem eX6_stepsUntilBoarding_83 : decode rX6_stepsUntilBoarding.2.1 83 = .ok (.dup, 1) := by decide +kernel
theorem eX6_stepsUntilBoarding_84 : decode rX6_stepsUntilBoarding.2.1 84 = .ok (.ldc 242, 2) := by decide +kernel
theorem eX6_stepsUntilBoarding_86 : decode rX6_stepsUntilBoarding.2.1 86 = .ok (.invokespecial 165, 3) := by decide +kernel
theorem eX6_stepsUntilBoarding_89 : decode rX6_stepsUntilBoarding.2.1 89 = .ok (.athrow, 1) := by decide +kernel
theorem eX6_stepsUntilArrival_0 : decode rX6_stepsUntilArrival.2.1 0 = .ok (.aload_n 0, 1) := by decide +kernel
theorem eX6_stepsUntilArrival_1 : decode rX6_stepsUntilArrival.2.1 1 = .ok (.iload_n 1, 1) := by decide +kernel
theorem eX6_stepsUntilArrival_2 : decode rX6_stepsUntilArrival.2.1 2 = .ok (.invokevirtual 178, 3) := by decide +kernel
theorem eX6_stepsUntilArrival_5 : decode rX6_stepsUntilArrival.2.1 5 = .ok (.aload_n 0, 1) := by decide +kernel
theorem eX6_stepsUntilArrival_6 : decode rX6_stepsUntilArrival.2.1 6 = .ok (.getfield 12, 3) := by decide +kernel
theorem eX6_stepsUntilArrival_9 : decode rX6_stepsUntilArrival.2.1 9 = .ok (.getfield 181, 3) := by decide +kernel
theorem eX6_stepsUntilArrival_12 : decode rX6_stepsUntilArrival.2.1 12 = .ok (.iload_n 1, 1) := by decide +kernel
theorem eX6_stepsUntilArrival_13 : decode rX6_stepsUntilArrival.2.1 13 = .ok (.aaload, 1) := by decide +kernel
theorem eX6_stepsUntilArrival_14 : decode rX6_stepsUntilArrival.2.1 14 = .ok (.getfield 185, 3) := by decide +kernel
theorem eX6_stepsUntilArrival_17 : decode rX6_stepsUntilArrival.2.1 17 = .ok (.istore_n 2, 1) := by decide +kernel
theorem eX6_stepsUntilArrival_18 : decode rX6_stepsUntilArrival.2.1 18 = .ok (.aload_n 0, 1) := by decide +kernel
theorem eX6_stepsUntilArrival_19 : decode rX6_stepsUntilArrival.2.1 19 = .ok (.getfield 16, 3) := by decide +kernel
theorem eX6_stepsUntilArrival_22 : decode rX6_stepsUntilArrival.2.1 22 = .ok (.aload_n 0, 1) := by decide +kernel
theorem eX6_stepsUntilArrival_23 : decode rX6_stepsUntilArrival.2.1 23 = .ok (.getfield 12, 3) := by decide +kernel
theorem eX6_stepsUntilArrival_26 : decode rX6_stepsUntilArrival.2.1 26 = .ok (.invokevirtual 233, 3) := by decide +kernel
theorem eX6_stepsUntilArrival_29 : decode rX6_stepsUntilArrival.2.1 29 = .ok (.iconst 1, 1) := by decide +kernel
theorem eX6_stepsUntilArrival_30 : decode rX6_stepsUntilArrival.2.1 30 = .ok (.istore_n 3, 1) := by decide +kernel
theorem eX6_stepsUntilArrival_31 : decode rX6_stepsUntilArrival.2.1 31 = .ok (.iload_n 3, 1) := by decide +kernel
theorem eX6_stepsUntilArrival_32 : decode rX6_stepsUntilArrival.2.1 32 = .ok (.bipush 90, 2) := by decide +kernel
theorem eX6_stepsUntilArrival_34 : decode rX6_stepsUntilArrival.2.1 34 = .ok (.if_icmp .gt 30, 3) := by decide +kernel
theorem eX6_stepsUntilArrival_37 : decode rX6_stepsUntilArrival.2.1 37 = .ok (.aload_n 0, 1) := by decide +kernel
theorem eX6_stepsUntilArrival_38 : decode rX6_stepsUntilArrival.2.1 38 = .ok (.getfield 16, 3) := by decide +kernel
theorem eX6_stepsUntilArrival_41 : decode rX6_stepsUntilArrival.2.1 41 = .ok (.invokevirtual 236, 3) := by decide +kernel
theorem eX6_stepsUntilArrival_44 : decode rX6_stepsUntilArrival.2.1 44 = .ok (.aload_n 0, 1) := by decide +kernel
theorem eX6_stepsUntilArrival_45 : decode rX6_stepsUntilArrival.2.1 45 = .ok (.getfield 16, 3) := by decide +kernel
theorem eX6_stepsUntilArrival_48 : decode rX6_stepsUntilArrival.2.1 48 = .ok (.iload_n 2, 1) := by decide +kernel
theorem eX6_stepsUntilArrival_49 : decode rX6_stepsUntilArrival.2.1 49 = .ok (.invokevirtual 244, 3) := by decide +kernel
theorem eX6_stepsUntilArrival_52 : decode rX6_stepsUntilArrival.2.1 52 = .ok (.iconst (-1), 1) := by decide +kernel
theorem eX6_stepsUntilArrival_53 : decode rX6_stepsUntilArrival.2.1 53 = .ok (.if_icmp .ne 5, 3) := by decide +kernel
theorem eX6_stepsUntilArrival_56 : decode rX6_stepsUntilArrival.2.1 56 = .ok (.iload_n 3, 1) := by decide +kernel
theorem eX6_stepsUntilArrival_57 : decode rX6_stepsUntilArrival.2.1 57 = .ok (.ireturn, 1) := by decide +kernel
theorem eX6_stepsUntilArrival_58 : decode rX6_stepsUntilArrival.2.1 58 = .ok (.iinc 3 1, 3) := by decide +kernel
theorem eX6_stepsUntilArrival_61 : decode rX6_stepsUntilArrival.2.1 61 = .ok (.goto (-30), 3) := by decide +kernel
theorem eX6_stepsUntilArrival_64 : decode rX6_stepsUntilArrival.2.1 64 = .ok (.new 161, 3) := by decide +kernel
theorem eX6_stepsUntilArrival_67 : decode rX6_stepsUntilArrival.2.1 67 = .ok (.dup, 1) := by decide +kernel
theorem eX6_stepsUntilArrival_68 : decode rX6_stepsUntilArrival.2.1 68 = .ok (.ldc 247, 2) := by decide +kernel
theorem eX6_stepsUntilArrival_70 : decode rX6_stepsUntilArrival.2.1 70 = .ok (.invokespecial 165, 3) := by decide +kernel
theorem eX6_stepsUntilArrival_73 : decode rX6_stepsUntilArrival.2.1 73 = .ok (.athrow, 1) := by decide +kernel
theorem eX6_tripsWithin_0 : decode rX6_tripsWithin.2.1 0 = .ok (.iload_n 1, 1) := by decide +kernel
theorem eX6_tripsWithin_1 : decode rX6_tripsWithin.2.1 1 = .ok (.ifCond .lt 9, 3) := by decide +kernel
theorem eX6_tripsWithin_4 : decode rX6_tripsWithin.2.1 4 = .ok (.iload_n 1, 1) := by decide +kernel
theorem eX6_tripsWithin_5 : decode rX6_tripsWithin.2.1 5 = .ok (.bipush 90, 2) := by decide +kernel
theorem eX6_tripsWithin_7 : decode rX6_tripsWithin.2.1 7 = .ok (.if_icmp .le 13, 3) := by decide +kernel
theorem eX6_tripsWithin_10 : decode rX6_tripsWithin.2.1 10 = .ok (.new 223, 3) := by decide +kernel
theorem eX6_tripsWithin_13 : decode rX6_tripsWithin.2.1 13 = .ok (.dup, 1) := by decide +kernel
theorem eX6_tripsWithin_14 : decode rX6_tripsWithin.2.1 14 = .ok (.ldc 249, 2) := by decide +kernel
theorem eX6_tripsWithin_16 : decode rX6_tripsWithin.2.1 16 = .ok (.invokespecial 227, 3) := by decide +kernel
theorem eX6_tripsWithin_19 : decode rX6_tripsWithin.2.1 19 = .ok (.athrow, 1) := by decide +kernel
theorem eX6_tripsWithin_20 : decode rX6_tripsWithin.2.1 20 = .ok (.aload_n 0, 1) := by decide +kernel
theorem eX6_tripsWithin_21 : decode rX6_tripsWithin.2.1 21 = .ok (.getfield 16, 3) := by decide +kernel
theorem eX6_tripsWithin_24 : decode rX6_tripsWithin.2.1 24 = .ok (.aload_n 0, 1) := by decide +kernel
theorem eX6_tripsWithin_25 : decode rX6_tripsWithin.2.1 25 = .ok (.getfield 12, 3) := by decide +kernel
theorem eX6_tripsWithin_28 : decode rX6_tripsWithin.2.1 28 = .ok (.invokevirtual 233, 3) := by decide +kernel
theorem eX6_tripsWithin_31 : decode rX6_tripsWithin.2.1 31 = .ok (.aload_n 0, 1) := by decide +kernel
theorem eX6_tripsWithin_32 : decode rX6_tripsWithin.2.1 32 = .ok (.getfield 16, 3) := by decide +kernel
theorem eX6_tripsWithin_35 : decode rX6_tripsWithin.2.1 35 = .ok (.iload_n 1, 1) := by decide +kernel
theorem eX6_tripsWithin_36 : decode rX6_tripsWithin.2.1 36 = .ok (.invokevirtual 104, 3) := by decide +kernel
theorem eX6_tripsWithin_39 : decode rX6_tripsWithin.2.1 39 = .ok (.ireturn, 1) := by decide +kernel
theorem eX6_carByEnergy_0 : decode rX6_carByEnergy.2.1 0 = .ok (.iconst 0, 1) := by decide +kernel
theorem eX6_carByEnergy_1 : decode rX6_carByEnergy.2.1 1 = .ok (.istore_n 2, 1) := by decide +kernel
theorem eX6_carByEnergy_2 : decode rX6_carByEnergy.2.1 2 = .ok (.iload_n 2, 1) := by decide +kernel
theorem eX6_carByEnergy_3 : decode rX6_carByEnergy.2.1 3 = .ok (.iconst 3, 1) := by decide +kernel
theorem eX6_carByEnergy_4 : decode rX6_carByEnergy.2.1 4 = .ok (.if_icmp .ge 23, 3) := by decide +kernel
theorem eX6_carByEnergy_7 : decode rX6_carByEnergy.2.1 7 = .ok (.aload_n 0, 1) := by decide +kernel
theorem eX6_carByEnergy_8 : decode rX6_carByEnergy.2.1 8 = .ok (.getfield 12, 3) := by decide +kernel
theorem eX6_carByEnergy_11 : decode rX6_carByEnergy.2.1 11 = .ok (.iload_n 2, 1) := by decide +kernel
theorem eX6_carByEnergy_12 : decode rX6_carByEnergy.2.1 12 = .ok (.invokevirtual 256, 3) := by decide +kernel
theorem eX6_carByEnergy_15 : decode rX6_carByEnergy.2.1 15 = .ok (.iload_n 1, 1) := by decide +kernel
theorem eX6_carByEnergy_16 : decode rX6_carByEnergy.2.1 16 = .ok (.if_icmp .ne 5, 3) := by decide +kernel
theorem eX6_carByEnergy_19 : decode rX6_carByEnergy.2.1 19 = .ok (.iload_n 2, 1) := by decide +kernel
theorem eX6_carByEnergy_20 : decode rX6_carByEnergy.2.1 20 = .ok (.ireturn, 1) := by decide +kernel
theorem eX6_carByEnergy_21 : decode rX6_carByEnergy.2.1 21 = .ok (.iinc 2 1, 3) := by decide +kernel
theorem eX6_carByEnergy_24 : decode rX6_carByEnergy.2.1 24 = .ok (.goto (-22), 3) := by decide +kernel
theorem eX6_carByEnergy_27 : decode rX6_carByEnergy.2.1 27 = .ok (.new 161, 3) := by decide +kernel
theorem eX6_carByEnergy_30 : decode rX6_carByEnergy.2.1 30 = .ok (.dup, 1) := by decide +kernel
theorem eX6_carByEnergy_31 : decode rX6_carByEnergy.2.1 31 = .ok (.ldc 254, 2) := by decide +kernel
theorem eX6_carByEnergy_33 : decode rX6_carByEnergy.2.1 33 = .ok (.invokespecial 165, 3) := by decide +kernel
theorem eX6_carByEnergy_36 : decode rX6_carByEnergy.2.1 36 = .ok (.athrow, 1) := by decide +kernel
theorem eX6_tripNumber_0 : decode rX6_tripNumber.2.1 0 = .ok (.aload_n 0, 1) := by decide +kernel
theorem eX6_tripNumber_1 : decode rX6_tripNumber.2.1 1 = .ok (.iload_n 1, 1) := by decide +kernel
theorem eX6_tripNumber_2 : decode rX6_tripNumber.2.1 2 = .ok (.invokevirtual 259, 3) := by decide +kernel
theorem eX6_tripNumber_5 : decode rX6_tripNumber.2.1 5 = .ok (.aload_n 0, 1) := by decide +kernel
theorem eX6_tripNumber_6 : decode rX6_tripNumber.2.1 6 = .ok (.getfield 12, 3) := by decide +kernel
theorem eX6_tripNumber_9 : decode rX6_tripNumber.2.1 9 = .ok (.getfield 262, 3) := by decide +kernel
theorem eX6_tripNumber_12 : decode rX6_tripNumber.2.1 12 = .ok (.getfield 266, 3) := by decide +kernel
theorem eX6_tripNumber_15 : decode rX6_tripNumber.2.1 15 = .ok (.aload_n 0, 1) := by decide +kernel
theorem eX6_tripNumber_16 : decode rX6_tripNumber.2.1 16 = .ok (.getfield 12, 3) := by decide +kernel
theorem eX6_tripNumber_19 : decode rX6_tripNumber.2.1 19 = .ok (.getfield 262, 3) := by decide +kernel
theorem eX6_tripNumber_22 : decode rX6_tripNumber.2.1 22 = .ok (.iload_n 1, 1) := by decide +kernel
theorem eX6_tripNumber_23 : decode rX6_tripNumber.2.1 23 = .ok (.invokevirtual 272, 3) := by decide +kernel
theorem eX6_tripNumber_26 : decode rX6_tripNumber.2.1 26 = .ok (.iaload, 1) := by decide +kernel
theorem eX6_tripNumber_27 : decode rX6_tripNumber.2.1 27 = .ok (.ireturn, 1) := by decide +kernel
theorem eX6_tripCar_0 : decode rX6_tripCar.2.1 0 = .ok (.aload_n 0, 1) := by decide +kernel
theorem eX6_tripCar_1 : decode rX6_tripCar.2.1 1 = .ok (.iload_n 1, 1) := by decide +kernel
theorem eX6_tripCar_2 : decode rX6_tripCar.2.1 2 = .ok (.invokevirtual 259, 3) := by decide +kernel
theorem eX6_tripCar_5 : decode rX6_tripCar.2.1 5 = .ok (.aload_n 0, 1) := by decide +kernel
theorem eX6_tripCar_6 : decode rX6_tripCar.2.1 6 = .ok (.getfield 12, 3) := by decide +kernel
theorem eX6_tripCar_9 : decode rX6_tripCar.2.1 9 = .ok (.getfield 262, 3) := by decide +kernel
theorem eX6_tripCar_12 : decode rX6_tripCar.2.1 12 = .ok (.getfield 275, 3) := by decide +kernel
theorem eX6_tripCar_15 : decode rX6_tripCar.2.1 15 = .ok (.aload_n 0, 1) := by decide +kernel
theorem eX6_tripCar_16 : decode rX6_tripCar.2.1 16 = .ok (.getfield 12, 3) := by decide +kernel
theorem eX6_tripCar_19 : decode rX6_tripCar.2.1 19 = .ok (.getfield 262, 3) := by decide +kernel
theorem eX6_tripCar_22 : decode rX6_tripCar.2.1 22 = .ok (.iload_n 1, 1) := by decide +kernel
theorem eX6_tripCar_23 : decode rX6_tripCar.2.1 23 = .ok (.invokevirtual 272, 3) := by decide +kernel
theorem eX6_tripCar_26 : decode rX6_tripCar.2.1 26 = .ok (.iaload, 1) := by decide +kernel
theorem eX6_tripCar_27 : decode rX6_tripCar.2.1 27 = .ok (.ireturn, 1) := by decide +kernel
theorem eX6_tripWaiting_0 : decode rX6_tripWaiting.2.1 0 = .ok (.aload_n 0, 1) := by decide +kernel
theorem eX6_tripWaiting_1 : decode rX6_tripWaiting.2.1 1 = .ok (.iload_n 1, 1) := by decide +kernel
theorem eX6_tripWaiting_2 : decode rX6_tripWaiting.2.1 2 = .ok (.invokevirtual 259, 3) := by decide +kernel
theorem eX6_tripWaiting_5 : decode rX6_tripWaiting.2.1 5 = .ok (.aload_n 0, 1) := by decide +kernel
theorem eX6_tripWaiting_6 : decode rX6_tripWaiting.2.1 6 = .ok (.getfield 12, 3) := by decide +kernel
theorem eX6_tripWaiting_9 : decode rX6_tripWaiting.2.1 9 = .ok (.getfield 262, 3) := by decide +kernel
theorem eX6_tripWaiting_12 : decode rX6_tripWaiting.2.1 12 = .ok (.getfield 277, 3) := by decide +kernel
theorem eX6_tripWaiting_15 : decode rX6_tripWaiting.2.1 15 = .ok (.aload_n 0, 1) := by decide +kernel
theorem eX6_tripWaiting_16 : decode rX6_tripWaiting.2.1 16 = .ok (.getfield 12, 3) := by decide +kernel
theorem eX6_tripWaiting_19 : decode rX6_tripWaiting.2.1 19 = .ok (.getfield 262, 3) := by decide +kernel
theorem eX6_tripWaiting_22 : decode rX6_tripWaiting.2.1 22 = .ok (.iload_n 1, 1) := by decide +kernel
theorem eX6_tripWaiting_23 : decode rX6_tripWaiting.2.1 23 = .ok (.invokevirtual 272, 3) := by decide +kernel
theorem eX6_tripWaiting_26 : decode rX6_tripWaiting.2.1 26 = .ok (.iaload, 1) := by decide +kernel
theorem eX6_tripWaiting_27 : decode rX6_tripWaiting.2.1 27 = .ok (.ireturn, 1) := by decide +kernel
theorem eX6_tripCount_0 : decode rX6_tripCount.2.1 0 = .ok (.aload_n 0, 1) := by decide +kernel
theorem eX6_tripCount_1 : decode rX6_tripCount.2.1 1 = .ok (.getfield 12, 3) := by decide +kernel
theorem eX6_tripCount_4 : decode rX6_tripCount.2.1 4 = .ok (.getfield 262, 3) := by decide +kernel
theorem eX6_tripCount_7 : decode rX6_tripCount.2.1 7 = .ok (.getfield 280, 3) := by decide +kernel
theorem eX6_tripCount_10 : decode rX6_tripCount.2.1 10 = .ok (.ireturn, 1) := by decide +kernel
theorem eX6_totalEnergy_0 : decode rX6_totalEnergy.2.1 0 = .ok (.aload_n 0, 1) := by decide +kernel
theorem eX6_totalEnergy_1 : decode rX6_totalEnergy.2.1 1 = .ok (.getfield 12, 3) := by decide +kernel
theorem eX6_totalEnergy_4 : decode rX6_totalEnergy.2.1 4 = .ok (.invokevirtual 283, 3) := by decide +kernel
theorem eX6_totalEnergy_7 : decode rX6_totalEnergy.2.1 7 = .ok (.lreturn, 1) := by decide +kernel
theorem eX6_totalEnergyByMoves_0 : decode rX6_totalEnergyByMoves.2.1 0 = .ok (.aload_n 0, 1) := by decide +kernel
theorem eX6_totalEnergyByMoves_1 : decode rX6_totalEnergyByMoves.2.1 1 = .ok (.getfield 12, 3) := by decide +kernel
theorem eX6_totalEnergyByMoves_4 : decode rX6_totalEnergyByMoves.2.1 4 = .ok (.invokevirtual 287, 3) := by decide +kernel
theorem eX6_totalEnergyByMoves_7 : decode rX6_totalEnergyByMoves.2.1 7 = .ok (.lreturn, 1) := by decide +kernel
theorem eX6_floorsUp_0 : decode rX6_floorsUp.2.1 0 = .ok (.aload_n 0, 1) := by decide +kernel
theorem eX6_floorsUp_1 : decode rX6_floorsUp.2.1 1 = .ok (.getfield 12, 3) := by decide +kernel
theorem eX6_floorsUp_4 : decode rX6_floorsUp.2.1 4 = .ok (.getfield 290, 3) := by decide +kernel
theorem eX6_floorsUp_7 : decode rX6_floorsUp.2.1 7 = .ok (.ireturn, 1) := by decide +kernel
theorem eX6_floorsDown_0 : decode rX6_floorsDown.2.1 0 = .ok (.aload_n 0, 1) := by decide +kernel
theorem eX6_floorsDown_1 : decode rX6_floorsDown.2.1 1 = .ok (.getfield 12, 3) := by decide +kernel
theorem eX6_floorsDown_4 : decode rX6_floorsDown.2.1 4 = .ok (.getfield 293, 3) := by decide +kernel
theorem eX6_floorsDown_7 : decode rX6_floorsDown.2.1 7 = .ok (.ireturn, 1) := by decide +kernel
theorem eX6_doorOpenings_0 : decode rX6_doorOpenings.2.1 0 = .ok (.aload_n 0, 1) := by decide +kernel
theorem eX6_doorOpenings_1 : decode rX6_doorOpenings.2.1 1 = .ok (.getfield 12, 3) := by decide +kernel
theorem eX6_doorOpenings_4 : decode rX6_doorOpenings.2.1 4 = .ok (.getfield 296, 3) := by decide +kernel
theorem eX6_doorOpenings_7 : decode rX6_doorOpenings.2.1 7 = .ok (.ireturn, 1) := by decide +kernel
theorem eX6_meanWaiting_0 : decode rX6_meanWaiting.2.1 0 = .ok (.aload_n 0, 1) := by decide +kernel
theorem eX6_meanWaiting_1 : decode rX6_meanWaiting.2.1 1 = .ok (.getfield 12, 3) := by decide +kernel
theorem eX6_meanWaiting_4 : decode rX6_meanWaiting.2.1 4 = .ok (.getfield 262, 3) := by decide +kernel
theorem eX6_meanWaiting_7 : decode rX6_meanWaiting.2.1 7 = .ok (.getfield 280, 3) := by decide +kernel
theorem eX6_meanWaiting_10 : decode rX6_meanWaiting.2.1 10 = .ok (.ifCond .ne 14, 3) := by decide +kernel
theorem eX6_meanWaiting_13 : decode rX6_meanWaiting.2.1 13 = .ok (.new 299, 3) := by decide +kernel
theorem eX6_meanWaiting_16 : decode rX6_meanWaiting.2.1 16 = .ok (.dup, 1) := by decide +kernel
theorem eX6_meanWaiting_17 : decode rX6_meanWaiting.2.1 17 = .ok (.ldc_w 301, 3) := by decide +kernel
theorem eX6_meanWaiting_20 : decode rX6_meanWaiting.2.1 20 = .ok (.invokespecial 303, 3) := by decide +kernel
theorem eX6_meanWaiting_23 : decode rX6_meanWaiting.2.1 23 = .ok (.athrow, 1) := by decide +kernel
theorem eX6_meanWaiting_24 : decode rX6_meanWaiting.2.1 24 = .ok (.aload_n 0, 1) := by decide +kernel
theorem eX6_meanWaiting_25 : decode rX6_meanWaiting.2.1 25 = .ok (.getfield 12, 3) := by decide +kernel
theorem eX6_meanWaiting_28 : decode rX6_meanWaiting.2.1 28 = .ok (.getfield 262, 3) := by decide +kernel
theorem eX6_meanWaiting_31 : decode rX6_meanWaiting.2.1 31 = .ok (.getfield 304, 3) := by decide +kernel
theorem eX6_meanWaiting_34 : decode rX6_meanWaiting.2.1 34 = .ok (.i2d, 1) := by decide +kernel
theorem eX6_meanWaiting_35 : decode rX6_meanWaiting.2.1 35 = .ok (.aload_n 0, 1) := by decide +kernel
theorem eX6_meanWaiting_36 : decode rX6_meanWaiting.2.1 36 = .ok (.getfield 12, 3) := by decide +kernel
theorem eX6_meanWaiting_39 : decode rX6_meanWaiting.2.1 39 = .ok (.getfield 262, 3) := by decide +kernel
theorem eX6_meanWaiting_42 : decode rX6_meanWaiting.2.1 42 = .ok (.getfield 280, 3) := by decide +kernel
theorem eX6_meanWaiting_45 : decode rX6_meanWaiting.2.1 45 = .ok (.i2d, 1) := by decide +kernel
theorem eX6_meanWaiting_46 : decode rX6_meanWaiting.2.1 46 = .ok (.ddiv, 1) := by decide +kernel
theorem eX6_meanWaiting_47 : decode rX6_meanWaiting.2.1 47 = .ok (.dreturn, 1) := by decide +kernel
theorem eX6_isConsistent_0 : decode rX6_isConsistent.2.1 0 = .ok (.aload_n 0, 1) := by decide +kernel
theorem eX6_isConsistent_1 : decode rX6_isConsistent.2.1 1 = .ok (.getfield 12, 3) := by decide +kernel
theorem eX6_isConsistent_4 : decode rX6_isConsistent.2.1 4 = .ok (.invokevirtual 307, 3) := by decide +kernel
theorem eX6_isConsistent_7 : decode rX6_isConsistent.2.1 7 = .ok (.ifCond .eq 45, 3) := by decide +kernel
theorem eX6_isConsistent_10 : decode rX6_isConsistent.2.1 10 = .ok (.aload_n 0, 1) := by decide +kernel
theorem eX6_isConsistent_11 : decode rX6_isConsistent.2.1 11 = .ok (.getfield 12, 3) := by decide +kernel
theorem eX6_isConsistent_14 : decode rX6_isConsistent.2.1 14 = .ok (.invokevirtual 283, 3) := by decide +kernel
theorem eX6_isConsistent_17 : decode rX6_isConsistent.2.1 17 = .ok (.aload_n 0, 1) := by decide +kernel
theorem eX6_isConsistent_18 : decode rX6_isConsistent.2.1 18 = .ok (.getfield 12, 3) := by decide +kernel
theorem eX6_isConsistent_21 : decode rX6_isConsistent.2.1 21 = .ok (.invokevirtual 287, 3) := by decide +kernel
theorem eX6_isConsistent_24 : decode rX6_isConsistent.2.1 24 = .ok (.lcmp, 1) := by decide +kernel
theorem eX6_isConsistent_25 : decode rX6_isConsistent.2.1 25 = .ok (.ifCond .ne 27, 3) := by decide +kernel
theorem eX6_isConsistent_28 : decode rX6_isConsistent.2.1 28 = .ok (.aload_n 0, 1) := by decide +kernel
theorem eX6_isConsistent_29 : decode rX6_isConsistent.2.1 29 = .ok (.getfield 12, 3) := by decide +kernel
theorem eX6_isConsistent_32 : decode rX6_isConsistent.2.1 32 = .ok (.invokevirtual 311, 3) := by decide +kernel
theorem eX6_isConsistent_35 : decode rX6_isConsistent.2.1 35 = .ok (.ifCond .eq 17, 3) := by decide +kernel
theorem eX6_isConsistent_38 : decode rX6_isConsistent.2.1 38 = .ok (.aload_n 0, 1) := by decide +kernel
theorem eX6_isConsistent_39 : decode rX6_isConsistent.2.1 39 = .ok (.getfield 12, 3) := by decide +kernel
theorem eX6_isConsistent_42 : decode rX6_isConsistent.2.1 42 = .ok (.invokevirtual 314, 3) := by decide +kernel
theorem eX6_isConsistent_45 : decode rX6_isConsistent.2.1 45 = .ok (.ifCond .eq 7, 3) := by decide +kernel
theorem eX6_isConsistent_48 : decode rX6_isConsistent.2.1 48 = .ok (.iconst 1, 1) := by decide +kernel
theorem eX6_isConsistent_49 : decode rX6_isConsistent.2.1 49 = .ok (.goto 4, 3) := by decide +kernel
theorem eX6_isConsistent_52 : decode rX6_isConsistent.2.1 52 = .ok (.iconst 0, 1) := by decide +kernel
theorem eX6_isConsistent_53 : decode rX6_isConsistent.2.1 53 = .ok (.ireturn, 1) := by decide +kernel
theorem eX6_type_0 : decode rX6_type.2.1 0 = .ok (.iload_n 1, 1) := by decide +kernel
theorem eX6_type_1 : decode rX6_type.2.1 1 = .ok (.bipush 32, 2) := by decide +kernel
theorem eX6_type_3 : decode rX6_type.2.1 3 = .ok (.if_icmp .lt 9, 3) := by decide +kernel
theorem eX6_type_6 : decode rX6_type.2.1 6 = .ok (.iload_n 1, 1) := by decide +kernel
theorem eX6_type_7 : decode rX6_type.2.1 7 = .ok (.bipush 126, 2) := by decide +kernel
theorem eX6_type_9 : decode rX6_type.2.1 9 = .ok (.if_icmp .le 14, 3) := by decide +kernel
theorem eX6_type_12 : decode rX6_type.2.1 12 = .ok (.new 223, 3) := by decide +kernel
theorem eX6_type_15 : decode rX6_type.2.1 15 = .ok (.dup, 1) := by decide +kernel
theorem eX6_type_16 : decode rX6_type.2.1 16 = .ok (.ldc_w 340, 3) := by decide +kernel
theorem eX6_type_19 : decode rX6_type.2.1 19 = .ok (.invokespecial 227, 3) := by decide +kernel
theorem eX6_type_22 : decode rX6_type.2.1 22 = .ok (.athrow, 1) := by decide +kernel
theorem eX6_type_23 : decode rX6_type.2.1 23 = .ok (.aload_n 0, 1) := by decide +kernel
theorem eX6_type_24 : decode rX6_type.2.1 24 = .ok (.getfield 32, 3) := by decide +kernel
theorem eX6_type_27 : decode rX6_type.2.1 27 = .ok (.getfield 342, 3) := by decide +kernel
theorem eX6_type_30 : decode rX6_type.2.1 30 = .ok (.invokevirtual 327, 3) := by decide +kernel
theorem eX6_type_33 : decode rX6_type.2.1 33 = .ok (.bipush 60, 2) := by decide +kernel
theorem eX6_type_35 : decode rX6_type.2.1 35 = .ok (.if_icmp .lt 14, 3) := by decide +kernel
theorem eX6_type_38 : decode rX6_type.2.1 38 = .ok (.new 345, 3) := by decide +kernel
theorem eX6_type_41 : decode rX6_type.2.1 41 = .ok (.dup, 1) := by decide +kernel
theorem eX6_type_42 : decode rX6_type.2.1 42 = .ok (.ldc_w 347, 3) := by decide +kernel
theorem eX6_type_45 : decode rX6_type.2.1 45 = .ok (.invokespecial 349, 3) := by decide +kernel
theorem eX6_type_48 : decode rX6_type.2.1 48 = .ok (.athrow, 1) := by decide +kernel
theorem eX6_type_49 : decode rX6_type.2.1 49 = .ok (.aload_n 0, 1) := by decide +kernel
theorem eX6_type_50 : decode rX6_type.2.1 50 = .ok (.getfield 32, 3) := by decide +kernel
theorem eX6_type_53 : decode rX6_type.2.1 53 = .ok (.getfield 342, 3) := by decide +kernel
theorem eX6_type_56 : decode rX6_type.2.1 56 = .ok (.iload_n 1, 1) := by decide +kernel
theorem eX6_type_57 : decode rX6_type.2.1 57 = .ok (.invokevirtual 324, 3) := by decide +kernel
theorem eX6_type_60 : decode rX6_type.2.1 60 = .ok (.pop, 1) := by decide +kernel
theorem eX6_type_61 : decode rX6_type.2.1 61 = .ok (.aload_n 0, 1) := by decide +kernel
theorem eX6_type_62 : decode rX6_type.2.1 62 = .ok (.getfield 32, 3) := by decide +kernel
theorem eX6_type_65 : decode rX6_type.2.1 65 = .ok (.getfield 342, 3) := by decide +kernel
theorem eX6_type_68 : decode rX6_type.2.1 68 = .ok (.invokevirtual 327, 3) := by decide +kernel
theorem eX6_type_71 : decode rX6_type.2.1 71 = .ok (.ireturn, 1) := by decide +kernel
theorem eX6_runScript_0 : decode rX6_runScript.2.1 0 = .ok (.aload_n 0, 1) := by decide +kernel
theorem eX6_runScript_1 : decode rX6_runScript.2.1 1 = .ok (.getfield 32, 3) := by decide +kernel
theorem eX6_runScript_4 : decode rX6_runScript.2.1 4 = .ok (.invokevirtual 350, 3) := by decide +kernel
theorem eX6_runScript_7 : decode rX6_runScript.2.1 7 = .ok (.istore_n 1, 1) := by decide +kernel
theorem eX6_runScript_8 : decode rX6_runScript.2.1 8 = .ok (.aload_n 0, 1) := by decide +kernel
theorem eX6_runScript_9 : decode rX6_runScript.2.1 9 = .ok (.getfield 32, 3) := by decide +kernel
theorem eX6_runScript_12 : decode rX6_runScript.2.1 12 = .ok (.getfield 342, 3) := by decide +kernel
theorem eX6_runScript_15 : decode rX6_runScript.2.1 15 = .ok (.iconst 0, 1) := by decide +kernel
theorem eX6_runScript_16 : decode rX6_runScript.2.1 16 = .ok (.invokevirtual 317, 3) := by decide +kernel
theorem eX6_runScript_19 : decode rX6_runScript.2.1 19 = .ok (.iload_n 1, 1) := by decide +kernel
theorem eX6_runScript_20 : decode rX6_runScript.2.1 20 = .ok (.iconst (-1), 1) := by decide +kernel
theorem eX6_runScript_21 : decode rX6_runScript.2.1 21 = .ok (.if_icmp .eq 19, 3) := by decide +kernel
theorem eX6_runScript_24 : decode rX6_runScript.2.1 24 = .ok (.aload_n 0, 1) := by decide +kernel
theorem eX6_runScript_25 : decode rX6_runScript.2.1 25 = .ok (.iload_n 1, 1) := by decide +kernel
theorem eX6_runScript_26 : decode rX6_runScript.2.1 26 = .ok (.putfield 47, 3) := by decide +kernel
theorem eX6_runScript_29 : decode rX6_runScript.2.1 29 = .ok (.new 223, 3) := by decide +kernel
theorem eX6_runScript_32 : decode rX6_runScript.2.1 32 = .ok (.dup, 1) := by decide +kernel
theorem eX6_runScript_33 : decode rX6_runScript.2.1 33 = .ok (.ldc_w 353, 3) := by decide +kernel
theorem eX6_runScript_36 : decode rX6_runScript.2.1 36 = .ok (.invokespecial 227, 3) := by decide +kernel
theorem eX6_runScript_39 : decode rX6_runScript.2.1 39 = .ok (.athrow, 1) := by decide +kernel
theorem eX6_runScript_40 : decode rX6_runScript.2.1 40 = .ok (.aload_n 0, 1) := by decide +kernel
theorem eX6_runScript_41 : decode rX6_runScript.2.1 41 = .ok (.getfield 16, 3) := by decide +kernel
theorem eX6_runScript_44 : decode rX6_runScript.2.1 44 = .ok (.aload_n 0, 1) := by decide +kernel
theorem eX6_runScript_45 : decode rX6_runScript.2.1 45 = .ok (.getfield 12, 3) := by decide +kernel
theorem eX6_runScript_48 : decode rX6_runScript.2.1 48 = .ok (.invokevirtual 233, 3) := by decide +kernel
theorem eX6_runScript_51 : decode rX6_runScript.2.1 51 = .ok (.iconst 0, 1) := by decide +kernel
theorem eX6_runScript_52 : decode rX6_runScript.2.1 52 = .ok (.istore_n 2, 1) := by decide +kernel
theorem eX6_runScript_53 : decode rX6_runScript.2.1 53 = .ok (.iload_n 2, 1) := by decide +kernel
theorem eX6_runScript_54 : decode rX6_runScript.2.1 54 = .ok (.aload_n 0, 1) := by decide +kernel
theorem eX6_runScript_55 : decode rX6_runScript.2.1 55 = .ok (.getfield 32, 3) := by decide +kernel
theorem eX6_runScript_58 : decode rX6_runScript.2.1 58 = .ok (.getfield 355, 3) := by decide +kernel
theorem eX6_runScript_61 : decode rX6_runScript.2.1 61 = .ok (.if_icmp .ge 79, 3) := by decide +kernel
theorem eX6_runScript_64 : decode rX6_runScript.2.1 64 = .ok (.aload_n 0, 1) := by decide +kernel
theorem eX6_runScript_65 : decode rX6_runScript.2.1 65 = .ok (.getfield 16, 3) := by decide +kernel
theorem eX6_runScript_68 : decode rX6_runScript.2.1 68 = .ok (.aload_n 0, 1) := by decide +kernel
theorem eX6_runScript_69 : decode rX6_runScript.2.1 69 = .ok (.getfield 32, 3) := by decide +kernel
theorem eX6_runScript_72 : decode rX6_runScript.2.1 72 = .ok (.getfield 358, 3) := by decide +kernel
theorem eX6_runScript_75 : decode rX6_runScript.2.1 75 = .ok (.iload_n 2, 1) := by decide +kernel
theorem eX6_runScript_76 : decode rX6_runScript.2.1 76 = .ok (.iaload, 1) := by decide +kernel
theorem eX6_runScript_77 : decode rX6_runScript.2.1 77 = .ok (.aload_n 0, 1) := by decide +kernel
theorem eX6_runScript_78 : decode rX6_runScript.2.1 78 = .ok (.getfield 32, 3) := by decide +kernel
theorem eX6_runScript_81 : decode rX6_runScript.2.1 81 = .ok (.getfield 361, 3) := by decide +kernel
theorem eX6_runScript_84 : decode rX6_runScript.2.1 84 = .ok (.iload_n 2, 1) := by decide +kernel
theorem eX6_runScript_85 : decode rX6_runScript.2.1 85 = .ok (.aaload, 1) := by decide +kernel
theorem eX6_runScript_86 : decode rX6_runScript.2.1 86 = .ok (.invokevirtual 365, 3) := by decide +kernel
theorem eX6_runScript_89 : decode rX6_runScript.2.1 89 = .ok (.ifCond .eq 19, 3) := by decide +kernel
theorem eX6_runScript_92 : decode rX6_runScript.2.1 92 = .ok (.aload_n 0, 1) := by decide +kernel
theorem eX6_runScript_93 : decode rX6_runScript.2.1 93 = .ok (.iload_n 2, 1) := by decide +kernel
theorem eX6_runScript_94 : decode rX6_runScript.2.1 94 = .ok (.putfield 51, 3) := by decide +kernel
theorem eX6_runScript_97 : decode rX6_runScript.2.1 97 = .ok (.new 345, 3) := by decide +kernel
theorem eX6_runScript_100 : decode rX6_runScript.2.1 100 = .ok (.dup, 1) := by decide +kernel
theorem eX6_runScript_101 : decode rX6_runScript.2.1 101 = .ok (.ldc_w 369, 3) := by decide +kernel
theorem eX6_runScript_104 : decode rX6_runScript.2.1 104 = .ok (.invokespecial 349, 3) := by decide +kernel
theorem eX6_runScript_107 : decode rX6_runScript.2.1 107 = .ok (.athrow, 1) := by decide +kernel
theorem eX6_runScript_108 : decode rX6_runScript.2.1 108 = .ok (.aload_n 0, 1) := by decide +kernel
theorem eX6_runScript_109 : decode rX6_runScript.2.1 109 = .ok (.getfield 16, 3) := by decide +kernel
theorem eX6_runScript_112 : decode rX6_runScript.2.1 112 = .ok (.aload_n 0, 1) := by decide +kernel
theorem eX6_runScript_113 : decode rX6_runScript.2.1 113 = .ok (.getfield 32, 3) := by decide +kernel
theorem eX6_runScript_116 : decode rX6_runScript.2.1 116 = .ok (.getfield 358, 3) := by decide +kernel
theorem eX6_runScript_119 : decode rX6_runScript.2.1 119 = .ok (.iload_n 2, 1) := by decide +kernel
theorem eX6_runScript_120 : decode rX6_runScript.2.1 120 = .ok (.iaload, 1) := by decide +kernel
theorem eX6_runScript_121 : decode rX6_runScript.2.1 121 = .ok (.aload_n 0, 1) := by decide +kernel
theorem eX6_runScript_122 : decode rX6_runScript.2.1 122 = .ok (.getfield 32, 3) := by decide +kernel
theorem eX6_runScript_125 : decode rX6_runScript.2.1 125 = .ok (.getfield 361, 3) := by decide +kernel
theorem eX6_runScript_128 : decode rX6_runScript.2.1 128 = .ok (.iload_n 2, 1) := by decide +kernel
theorem eX6_runScript_129 : decode rX6_runScript.2.1 129 = .ok (.aaload, 1) := by decide +kernel
theorem eX6_runScript_130 : decode rX6_runScript.2.1 130 = .ok (.invokevirtual 371, 3) := by decide +kernel
theorem eX6_runScript_133 : decode rX6_runScript.2.1 133 = .ok (.pop, 1) := by decide +kernel
theorem eX6_runScript_134 : decode rX6_runScript.2.1 134 = .ok (.iinc 2 1, 3) := by decide +kernel
theorem eX6_runScript_137 : decode rX6_runScript.2.1 137 = .ok (.goto (-84), 3) := by decide +kernel
theorem eX6_runScript_140 : decode rX6_runScript.2.1 140 = .ok (.aload_n 0, 1) := by decide +kernel
theorem eX6_runScript_141 : decode rX6_runScript.2.1 141 = .ok (.getfield 25, 3) := by decide +kernel
theorem eX6_runScript_144 : decode rX6_runScript.2.1 144 = .ok (.aload_n 0, 1) := by decide +kernel
theorem eX6_runScript_145 : decode rX6_runScript.2.1 145 = .ok (.getfield 12, 3) := by decide +kernel
theorem eX6_runScript_148 : decode rX6_runScript.2.1 148 = .ok (.invokevirtual 62, 3) := by decide +kernel
theorem eX6_runScript_151 : decode rX6_runScript.2.1 151 = .ok (.aload_n 0, 1) := by decide +kernel
theorem eX6_runScript_152 : decode rX6_runScript.2.1 152 = .ok (.getfield 12, 3) := by decide +kernel
theorem eX6_runScript_155 : decode rX6_runScript.2.1 155 = .ok (.aload_n 0, 1) := by decide +kernel
theorem eX6_runScript_156 : decode rX6_runScript.2.1 156 = .ok (.getfield 16, 3) := by decide +kernel
theorem eX6_runScript_159 : decode rX6_runScript.2.1 159 = .ok (.invokevirtual 233, 3) := by decide +kernel
theorem eX6_runScript_162 : decode rX6_runScript.2.1 162 = .ok (.aload_n 0, 1) := by decide +kernel
theorem eX6_runScript_163 : decode rX6_runScript.2.1 163 = .ok (.getfield 32, 3) := by decide +kernel
theorem eX6_runScript_166 : decode rX6_runScript.2.1 166 = .ok (.getfield 355, 3) := by decide +kernel
theorem eX6_runScript_169 : decode rX6_runScript.2.1 169 = .ok (.ireturn, 1) := by decide +kernel
theorem eX6_errorPosition_0 : decode rX6_errorPosition.2.1 0 = .ok (.aload_n 0, 1) := by decide +kernel
theorem eX6_errorPosition_1 : decode rX6_errorPosition.2.1 1 = .ok (.getfield 47, 3) := by decide +kernel
theorem eX6_errorPosition_4 : decode rX6_errorPosition.2.1 4 = .ok (.iconst (-1), 1) := by decide +kernel
theorem eX6_errorPosition_5 : decode rX6_errorPosition.2.1 5 = .ok (.if_icmp .ne 14, 3) := by decide +kernel
theorem eX6_errorPosition_8 : decode rX6_errorPosition.2.1 8 = .ok (.new 161, 3) := by decide +kernel
theorem eX6_errorPosition_11 : decode rX6_errorPosition.2.1 11 = .ok (.dup, 1) := by decide +kernel
theorem eX6_errorPosition_12 : decode rX6_errorPosition.2.1 12 = .ok (.ldc_w 374, 3) := by decide +kernel
theorem eX6_errorPosition_15 : decode rX6_errorPosition.2.1 15 = .ok (.invokespecial 165, 3) := by decide +kernel
theorem eX6_errorPosition_18 : decode rX6_errorPosition.2.1 18 = .ok (.athrow, 1) := by decide +kernel
theorem eX6_errorPosition_19 : decode rX6_errorPosition.2.1 19 = .ok (.aload_n 0, 1) := by decide +kernel
theorem eX6_errorPosition_20 : decode rX6_errorPosition.2.1 20 = .ok (.getfield 47, 3) := by decide +kernel
theorem eX6_errorPosition_23 : decode rX6_errorPosition.2.1 23 = .ok (.ireturn, 1) := by decide +kernel
theorem eX6_failedCommand_0 : decode rX6_failedCommand.2.1 0 = .ok (.aload_n 0, 1) := by decide +kernel
theorem eX6_failedCommand_1 : decode rX6_failedCommand.2.1 1 = .ok (.getfield 51, 3) := by decide +kernel
theorem eX6_failedCommand_4 : decode rX6_failedCommand.2.1 4 = .ok (.iconst (-1), 1) := by decide +kernel
theorem eX6_failedCommand_5 : decode rX6_failedCommand.2.1 5 = .ok (.if_icmp .ne 14, 3) := by decide +kernel
theorem eX6_failedCommand_8 : decode rX6_failedCommand.2.1 8 = .ok (.new 161, 3) := by decide +kernel
theorem eX6_failedCommand_11 : decode rX6_failedCommand.2.1 11 = .ok (.dup, 1) := by decide +kernel
theorem eX6_failedCommand_12 : decode rX6_failedCommand.2.1 12 = .ok (.ldc_w 376, 3) := by decide +kernel
theorem eX6_failedCommand_15 : decode rX6_failedCommand.2.1 15 = .ok (.invokespecial 165, 3) := by decide +kernel
theorem eX6_failedCommand_18 : decode rX6_failedCommand.2.1 18 = .ok (.athrow, 1) := by decide +kernel
theorem eX6_failedCommand_19 : decode rX6_failedCommand.2.1 19 = .ok (.aload_n 0, 1) := by decide +kernel
theorem eX6_failedCommand_20 : decode rX6_failedCommand.2.1 20 = .ok (.getfield 51, 3) := by decide +kernel
theorem eX6_failedCommand_23 : decode rX6_failedCommand.2.1 23 = .ok (.ireturn, 1) := by decide +kernel
theorem eX6_undo_0 : decode rX6_undo.2.1 0 = .ok (.aload_n 0, 1) := by decide +kernel
theorem eX6_undo_1 : decode rX6_undo.2.1 1 = .ok (.getfield 25, 3) := by decide +kernel
theorem eX6_undo_4 : decode rX6_undo.2.1 4 = .ok (.getfield 378, 3) := by decide +kernel
theorem eX6_undo_7 : decode rX6_undo.2.1 7 = .ok (.ifCond .ne 14, 3) := by decide +kernel
theorem eX6_undo_10 : decode rX6_undo.2.1 10 = .ok (.new 345, 3) := by decide +kernel
theorem eX6_undo_13 : decode rX6_undo.2.1 13 = .ok (.dup, 1) := by decide +kernel
theorem eX6_undo_14 : decode rX6_undo.2.1 14 = .ok (.ldc_w 379, 3) := by decide +kernel
theorem eX6_undo_17 : decode rX6_undo.2.1 17 = .ok (.invokespecial 349, 3) := by decide +kernel
theorem eX6_undo_20 : decode rX6_undo.2.1 20 = .ok (.athrow, 1) := by decide +kernel
theorem eX6_undo_21 : decode rX6_undo.2.1 21 = .ok (.aload_n 0, 1) := by decide +kernel
theorem eX6_undo_22 : decode rX6_undo.2.1 22 = .ok (.getfield 25, 3) := by decide +kernel
theorem eX6_undo_25 : decode rX6_undo.2.1 25 = .ok (.aload_n 0, 1) := by decide +kernel
theorem eX6_undo_26 : decode rX6_undo.2.1 26 = .ok (.getfield 12, 3) := by decide +kernel
theorem eX6_undo_29 : decode rX6_undo.2.1 29 = .ok (.invokevirtual 381, 3) := by decide +kernel
theorem eX6_undo_32 : decode rX6_undo.2.1 32 = .ok (.aload_n 0, 1) := by decide +kernel
theorem eX6_undo_33 : decode rX6_undo.2.1 33 = .ok (.getfield 25, 3) := by decide +kernel
theorem eX6_undo_36 : decode rX6_undo.2.1 36 = .ok (.getfield 378, 3) := by decide +kernel
theorem eX6_undo_39 : decode rX6_undo.2.1 39 = .ok (.ireturn, 1) := by decide +kernel
theorem eX6_save_0 : decode rX6_save.2.1 0 = .ok (.aload_n 0, 1) := by decide +kernel
theorem eX6_save_1 : decode rX6_save.2.1 1 = .ok (.getfield 19, 3) := by decide +kernel
theorem eX6_save_4 : decode rX6_save.2.1 4 = .ok (.aload_n 0, 1) := by decide +kernel
theorem eX6_save_5 : decode rX6_save.2.1 5 = .ok (.getfield 12, 3) := by decide +kernel
theorem eX6_save_8 : decode rX6_save.2.1 8 = .ok (.invokevirtual 233, 3) := by decide +kernel
theorem eX6_save_11 : decode rX6_save.2.1 11 = .ok (.aload_n 0, 1) := by decide +kernel
theorem eX6_save_12 : decode rX6_save.2.1 12 = .ok (.iconst 1, 1) := by decide +kernel
theorem eX6_save_13 : decode rX6_save.2.1 13 = .ok (.putfield 43, 3) := by decide +kernel
theorem eX6_save_16 : decode rX6_save.2.1 16 = .ok (.aload_n 0, 1) := by decide +kernel
theorem eX6_save_17 : decode rX6_save.2.1 17 = .ok (.getfield 12, 3) := by decide +kernel
theorem eX6_save_20 : decode rX6_save.2.1 20 = .ok (.getfield 175, 3) := by decide +kernel
theorem eX6_save_23 : decode rX6_save.2.1 23 = .ok (.ireturn, 1) := by decide +kernel
theorem eX6_restore_0 : decode rX6_restore.2.1 0 = .ok (.aload_n 0, 1) := by decide +kernel
theorem eX6_restore_1 : decode rX6_restore.2.1 1 = .ok (.getfield 43, 3) := by decide +kernel
theorem eX6_restore_4 : decode rX6_restore.2.1 4 = .ok (.ifCond .ne 14, 3) := by decide +kernel
theorem eX6_restore_7 : decode rX6_restore.2.1 7 = .ok (.new 345, 3) := by decide +kernel
theorem eX6_restore_10 : decode rX6_restore.2.1 10 = .ok (.dup, 1) := by decide +kernel
theorem eX6_restore_11 : decode rX6_restore.2.1 11 = .ok (.ldc_w 384, 3) := by decide +kernel
theorem eX6_restore_14 : decode rX6_restore.2.1 14 = .ok (.invokespecial 349, 3) := by decide +kernel
theorem eX6_restore_17 : decode rX6_restore.2.1 17 = .ok (.athrow, 1) := by decide +kernel
theorem eX6_restore_18 : decode rX6_restore.2.1 18 = .ok (.aload_n 0, 1) := by decide +kernel
theorem eX6_restore_19 : decode rX6_restore.2.1 19 = .ok (.getfield 12, 3) := by decide +kernel
theorem eX6_restore_22 : decode rX6_restore.2.1 22 = .ok (.aload_n 0, 1) := by decide +kernel
theorem eX6_restore_23 : decode rX6_restore.2.1 23 = .ok (.getfield 19, 3) := by decide +kernel
theorem eX6_restore_26 : decode rX6_restore.2.1 26 = .ok (.invokevirtual 233, 3) := by decide +kernel
theorem eX6_restore_29 : decode rX6_restore.2.1 29 = .ok (.aload_n 0, 1) := by decide +kernel
theorem eX6_restore_30 : decode rX6_restore.2.1 30 = .ok (.getfield 25, 3) := by decide +kernel
theorem eX6_restore_33 : decode rX6_restore.2.1 33 = .ok (.iconst 0, 1) := by decide +kernel
theorem eX6_restore_34 : decode rX6_restore.2.1 34 = .ok (.putfield 378, 3) := by decide +kernel
theorem eX6_restore_37 : decode rX6_restore.2.1 37 = .ok (.aload_n 0, 1) := by decide +kernel
theorem eX6_restore_38 : decode rX6_restore.2.1 38 = .ok (.getfield 12, 3) := by decide +kernel
theorem eX6_restore_41 : decode rX6_restore.2.1 41 = .ok (.getfield 175, 3) := by decide +kernel
theorem eX6_restore_44 : decode rX6_restore.2.1 44 = .ok (.ireturn, 1) := by decide +kernel
theorem eX6_isCar_0 : decode rX6_isCar.2.1 0 = .ok (.iload_n 0, 1) := by decide +kernel
theorem eX6_isCar_1 : decode rX6_isCar.2.1 1 = .ok (.ifCond .lt 12, 3) := by decide +kernel
theorem eX6_isCar_4 : decode rX6_isCar.2.1 4 = .ok (.iload_n 0, 1) := by decide +kernel
theorem eX6_isCar_5 : decode rX6_isCar.2.1 5 = .ok (.iconst 3, 1) := by decide +kernel
theorem eX6_isCar_6 : decode rX6_isCar.2.1 6 = .ok (.if_icmp .ge 7, 3) := by decide +kernel
theorem eX6_isCar_9 : decode rX6_isCar.2.1 9 = .ok (.iconst 1, 1) := by decide +kernel
theorem eX6_isCar_10 : decode rX6_isCar.2.1 10 = .ok (.goto 4, 3) := by decide +kernel
theorem eX6_isCar_13 : decode rX6_isCar.2.1 13 = .ok (.iconst 0, 1) := by decide +kernel
theorem eX6_isCar_14 : decode rX6_isCar.2.1 14 = .ok (.ireturn, 1) := by decide +kernel
theorem eX6_isFloor_0 : decode rX6_isFloor.2.1 0 = .ok (.iload_n 0, 1) := by decide +kernel
theorem eX6_isFloor_1 : decode rX6_isFloor.2.1 1 = .ok (.ifCond .lt 13, 3) := by decide +kernel
theorem eX6_isFloor_4 : decode rX6_isFloor.2.1 4 = .ok (.iload_n 0, 1) := by decide +kernel
theorem eX6_isFloor_5 : decode rX6_isFloor.2.1 5 = .ok (.bipush 10, 2) := by decide +kernel
theorem eX6_isFloor_7 : decode rX6_isFloor.2.1 7 = .ok (.if_icmp .ge 7, 3) := by decide +kernel
theorem eX6_isFloor_10 : decode rX6_isFloor.2.1 10 = .ok (.iconst 1, 1) := by decide +kernel
theorem eX6_isFloor_11 : decode rX6_isFloor.2.1 11 = .ok (.goto 4, 3) := by decide +kernel
theorem eX6_isFloor_14 : decode rX6_isFloor.2.1 14 = .ok (.iconst 0, 1) := by decide +kernel
theorem eX6_isFloor_15 : decode rX6_isFloor.2.1 15 = .ok (.ireturn, 1) := by decide +kernel
theorem eX6_isWeight_0 : decode rX6_isWeight.2.1 0 = .ok (.iload_n 0, 1) := by decide +kernel
theorem eX6_isWeight_1 : decode rX6_isWeight.2.1 1 = .ok (.bipush 10, 2) := by decide +kernel
theorem eX6_isWeight_3 : decode rX6_isWeight.2.1 3 = .ok (.if_icmp .lt 14, 3) := by decide +kernel
theorem eX6_isWeight_6 : decode rX6_isWeight.2.1 6 = .ok (.iload_n 0, 1) := by decide +kernel
theorem eX6_isWeight_7 : decode rX6_isWeight.2.1 7 = .ok (.sipush 150, 3) := by decide +kernel
theorem eX6_isWeight_10 : decode rX6_isWeight.2.1 10 = .ok (.if_icmp .gt 7, 3) := by decide +kernel
theorem eX6_isWeight_13 : decode rX6_isWeight.2.1 13 = .ok (.iconst 1, 1) := by decide +kernel
theorem eX6_isWeight_14 : decode rX6_isWeight.2.1 14 = .ok (.goto 4, 3) := by decide +kernel
theorem eX6_isWeight_17 : decode rX6_isWeight.2.1 17 = .ok (.iconst 0, 1) := by decide +kernel
theorem eX6_isWeight_18 : decode rX6_isWeight.2.1 18 = .ok (.ireturn, 1) := by decide +kernel
theorem eX6_checkCar_0 : decode rX6_checkCar.2.1 0 = .ok (.iload_n 0, 1) := by decide +kernel
theorem eX6_checkCar_1 : decode rX6_checkCar.2.1 1 = .ok (.invokestatic 386, 3) := by decide +kernel
theorem eX6_checkCar_4 : decode rX6_checkCar.2.1 4 = .ok (.ifCond .ne 14, 3) := by decide +kernel
theorem eX6_checkCar_7 : decode rX6_checkCar.2.1 7 = .ok (.new 331, 3) := by decide +kernel
theorem eX6_checkCar_10 : decode rX6_checkCar.2.1 10 = .ok (.dup, 1) := by decide +kernel
theorem eX6_checkCar_11 : decode rX6_checkCar.2.1 11 = .ok (.ldc_w 389, 3) := by decide +kernel
theorem eX6_checkCar_14 : decode rX6_checkCar.2.1 14 = .ok (.invokespecial 335, 3) := by decide +kernel
theorem eX6_checkCar_17 : decode rX6_checkCar.2.1 17 = .ok (.athrow, 1) := by decide +kernel
theorem eX6_checkCar_18 : decode rX6_checkCar.2.1 18 = .ok (.return_, 1) := by decide +kernel
theorem eX6_checkFloor_0 : decode rX6_checkFloor.2.1 0 = .ok (.iload_n 0, 1) := by decide +kernel
theorem eX6_checkFloor_1 : decode rX6_checkFloor.2.1 1 = .ok (.invokestatic 391, 3) := by decide +kernel
theorem eX6_checkFloor_4 : decode rX6_checkFloor.2.1 4 = .ok (.ifCond .ne 14, 3) := by decide +kernel
theorem eX6_checkFloor_7 : decode rX6_checkFloor.2.1 7 = .ok (.new 223, 3) := by decide +kernel
theorem eX6_checkFloor_10 : decode rX6_checkFloor.2.1 10 = .ok (.dup, 1) := by decide +kernel
theorem eX6_checkFloor_11 : decode rX6_checkFloor.2.1 11 = .ok (.ldc_w 394, 3) := by decide +kernel
theorem eX6_checkFloor_14 : decode rX6_checkFloor.2.1 14 = .ok (.invokespecial 227, 3) := by decide +kernel
theorem eX6_checkFloor_17 : decode rX6_checkFloor.2.1 17 = .ok (.athrow, 1) := by decide +kernel
theorem eX6_checkFloor_18 : decode rX6_checkFloor.2.1 18 = .ok (.return_, 1) := by decide +kernel
theorem eX6_checkPassenger_0 : decode rX6_checkPassenger.2.1 0 = .ok (.aload_n 0, 1) := by decide +kernel
theorem eX6_checkPassenger_1 : decode rX6_checkPassenger.2.1 1 = .ok (.getfield 12, 3) := by decide +kernel
theorem eX6_checkPassenger_4 : decode rX6_checkPassenger.2.1 4 = .ok (.iload_n 1, 1) := by decide +kernel
theorem eX6_checkPassenger_5 : decode rX6_checkPassenger.2.1 5 = .ok (.invokevirtual 396, 3) := by decide +kernel
theorem eX6_checkPassenger_8 : decode rX6_checkPassenger.2.1 8 = .ok (.ifCond .ne 14, 3) := by decide +kernel
theorem eX6_checkPassenger_11 : decode rX6_checkPassenger.2.1 11 = .ok (.new 331, 3) := by decide +kernel
theorem eX6_checkPassenger_14 : decode rX6_checkPassenger.2.1 14 = .ok (.dup, 1) := by decide +kernel
theorem eX6_checkPassenger_15 : decode rX6_checkPassenger.2.1 15 = .ok (.ldc_w 399, 3) := by decide +kernel
theorem eX6_checkPassenger_18 : decode rX6_checkPassenger.2.1 18 = .ok (.invokespecial 335, 3) := by decide +kernel
theorem eX6_checkPassenger_21 : decode rX6_checkPassenger.2.1 21 = .ok (.athrow, 1) := by decide +kernel
theorem eX6_checkPassenger_22 : decode rX6_checkPassenger.2.1 22 = .ok (.return_, 1) := by decide +kernel
theorem eX6_checkTrip_0 : decode rX6_checkTrip.2.1 0 = .ok (.aload_n 0, 1) := by decide +kernel
theorem eX6_checkTrip_1 : decode rX6_checkTrip.2.1 1 = .ok (.getfield 12, 3) := by decide +kernel
theorem eX6_checkTrip_4 : decode rX6_checkTrip.2.1 4 = .ok (.getfield 262, 3) := by decide +kernel
theorem eX6_checkTrip_7 : decode rX6_checkTrip.2.1 7 = .ok (.iload_n 1, 1) := by decide +kernel
theorem eX6_checkTrip_8 : decode rX6_checkTrip.2.1 8 = .ok (.invokevirtual 401, 3) := by decide +kernel
theorem eX6_checkTrip_11 : decode rX6_checkTrip.2.1 11 = .ok (.ifCond .ne 14, 3) := by decide +kernel
theorem eX6_checkTrip_14 : decode rX6_checkTrip.2.1 14 = .ok (.new 161, 3) := by decide +kernel
theorem eX6_checkTrip_17 : decode rX6_checkTrip.2.1 17 = .ok (.dup, 1) := by decide +kernel
theorem eX6_checkTrip_18 : decode rX6_checkTrip.2.1 18 = .ok (.ldc_w 404, 3) := by decide +kernel
theorem eX6_checkTrip_21 : decode rX6_checkTrip.2.1 21 = .ok (.invokespecial 165, 3) := by decide +kernel
theorem eX6_checkTrip_24 : decode rX6_checkTrip.2.1 24 = .ok (.athrow, 1) := by decide +kernel
theorem eX6_checkTrip_25 : decode rX6_checkTrip.2.1 25 = .ok (.return_, 1) := by decide +kernel
theorem eX6_throwIfRefused_0 : decode rX6_throwIfRefused.2.1 0 = .ok (.iload_n 0, 1) := by decide +kernel
theorem eX6_throwIfRefused_1 : decode rX6_throwIfRefused.2.1 1 = .ok (.iconst 1, 1) := by decide +kernel
theorem eX6_throwIfRefused_2 : decode rX6_throwIfRefused.2.1 2 = .ok (.if_icmp .ne 14, 3) := by decide +kernel
theorem eX6_throwIfRefused_5 : decode rX6_throwIfRefused.2.1 5 = .ok (.new 331, 3) := by decide +kernel
theorem eX6_throwIfRefused_8 : decode rX6_throwIfRefused.2.1 8 = .ok (.dup, 1) := by decide +kernel
theorem eX6_throwIfRefused_9 : decode rX6_throwIfRefused.2.1 9 = .ok (.ldc_w 406, 3) := by decide +kernel
theorem eX6_throwIfRefused_12 : decode rX6_throwIfRefused.2.1 12 = .ok (.invokespecial 335, 3) := by decide +kernel
theorem eX6_throwIfRefused_15 : decode rX6_throwIfRefused.2.1 15 = .ok (.athrow, 1) := by decide +kernel
theorem eX6_throwIfRefused_16 : decode rX6_throwIfRefused.2.1 16 = .ok (.iload_n 0, 1) := by decide +kernel
theorem eX6_throwIfRefused_17 : decode rX6_throwIfRefused.2.1 17 = .ok (.iconst 2, 1) := by decide +kernel
theorem eX6_throwIfRefused_18 : decode rX6_throwIfRefused.2.1 18 = .ok (.if_icmp .ne 14, 3) := by decide +kernel
theorem eX6_throwIfRefused_21 : decode rX6_throwIfRefused.2.1 21 = .ok (.new 223, 3) := by decide +kernel
theorem eX6_throwIfRefused_24 : decode rX6_throwIfRefused.2.1 24 = .ok (.dup, 1) := by decide +kernel
theorem eX6_throwIfRefused_25 : decode rX6_throwIfRefused.2.1 25 = .ok (.ldc_w 408, 3) := by decide +kernel
theorem eX6_throwIfRefused_28 : decode rX6_throwIfRefused.2.1 28 = .ok (.invokespecial 227, 3) := by decide +kernel
theorem eX6_throwIfRefused_31 : decode rX6_throwIfRefused.2.1 31 = .ok (.athrow, 1) := by decide +kernel
theorem eX6_throwIfRefused_32 : decode rX6_throwIfRefused.2.1 32 = .ok (.iload_n 0, 1) := by decide +kernel
theorem eX6_throwIfRefused_33 : decode rX6_throwIfRefused.2.1 33 = .ok (.iconst 3, 1) := by decide +kernel
theorem eX6_throwIfRefused_34 : decode rX6_throwIfRefused.2.1 34 = .ok (.if_icmp .ne 14, 3) := by decide +kernel
theorem eX6_throwIfRefused_37 : decode rX6_throwIfRefused.2.1 37 = .ok (.new 345, 3) := by decide +kernel
theorem eX6_throwIfRefused_40 : decode rX6_throwIfRefused.2.1 40 = .ok (.dup, 1) := by decide +kernel
theorem eX6_throwIfRefused_41 : decode rX6_throwIfRefused.2.1 41 = .ok (.ldc_w 410, 3) := by decide +kernel
theorem eX6_throwIfRefused_44 : decode rX6_throwIfRefused.2.1 44 = .ok (.invokespecial 349, 3) := by decide +kernel
theorem eX6_throwIfRefused_47 : decode rX6_throwIfRefused.2.1 47 = .ok (.athrow, 1) := by decide +kernel
theorem eX6_throwIfRefused_48 : decode rX6_throwIfRefused.2.1 48 = .ok (.iload_n 0, 1) := by decide +kernel
theorem eX6_throwIfRefused_49 : decode rX6_throwIfRefused.2.1 49 = .ok (.iconst 4, 1) := by decide +kernel
theorem eX6_throwIfRefused_50 : decode rX6_throwIfRefused.2.1 50 = .ok (.if_icmp .ne 14, 3) := by decide +kernel
theorem eX6_throwIfRefused_53 : decode rX6_throwIfRefused.2.1 53 = .ok (.new 412, 3) := by decide +kernel
theorem eX6_throwIfRefused_56 : decode rX6_throwIfRefused.2.1 56 = .ok (.dup, 1) := by decide +kernel
theorem eX6_throwIfRefused_57 : decode rX6_throwIfRefused.2.1 57 = .ok (.ldc_w 414, 3) := by decide +kernel
theorem eX6_throwIfRefused_60 : decode rX6_throwIfRefused.2.1 60 = .ok (.invokespecial 416, 3) := by decide +kernel
theorem eX6_throwIfRefused_63 : decode rX6_throwIfRefused.2.1 63 = .ok (.athrow, 1) := by decide +kernel
theorem eX6_throwIfRefused_64 : decode rX6_throwIfRefused.2.1 64 = .ok (.return_, 1) := by decide +kernel
theorem eX6_holds_0 : decode rX6_holds.2.1 0 = .ok (.iload_n 1, 1) := by decide +kernel
theorem eX6_holds_1 : decode rX6_holds.2.1 1 = .ok (.invokestatic 391, 3) := by decide +kernel
theorem eX6_holds_4 : decode rX6_holds.2.1 4 = .ok (.ifCond .eq 16, 3) := by decide +kernel
theorem eX6_holds_7 : decode rX6_holds.2.1 7 = .ok (.iload_n 0, 1) := by decide +kernel
theorem eX6_holds_8 : decode rX6_holds.2.1 8 = .ok (.iload_n 1, 1) := by decide +kernel
theorem eX6_holds_9 : decode rX6_holds.2.1 9 = .ok (.ishr, 1) := by decide +kernel
theorem eX6_holds_10 : decode rX6_holds.2.1 10 = .ok (.iconst 1, 1) := by decide +kernel
theorem eX6_holds_11 : decode rX6_holds.2.1 11 = .ok (.iand, 1) := by decide +kernel
theorem eX6_holds_12 : decode rX6_holds.2.1 12 = .ok (.iconst 1, 1) := by decide +kernel
theorem eX6_holds_13 : decode rX6_holds.2.1 13 = .ok (.if_icmp .ne 7, 3) := by decide +kernel
theorem eX6_holds_16 : decode rX6_holds.2.1 16 = .ok (.iconst 1, 1) := by decide +kernel
theorem eX6_holds_17 : decode rX6_holds.2.1 17 = .ok (.goto 4, 3) := by decide +kernel
theorem eX6_holds_20 : decode rX6_holds.2.1 20 = .ok (.iconst 0, 1) := by decide +kernel
theorem eX6_holds_21 : decode rX6_holds.2.1 21 = .ok (.ireturn, 1) := by decide +kernel
theorem eX6_distanceToFirst_0 : decode rX6_distanceToFirst.2.1 0 = .ok (.iconst 1, 1) := by decide +kernel
theorem eX6_distanceToFirst_1 : decode rX6_distanceToFirst.2.1 1 = .ok (.istore_n 3, 1) := by decide +kernel
theorem eX6_distanceToFirst_2 : decode rX6_distanceToFirst.2.1 2 = .ok (.iload_n 3, 1) := by decide +kernel
theorem eX6_distanceToFirst_3 : decode rX6_distanceToFirst.2.1 3 = .ok (.bipush 10, 2) := by decide +kernel
theorem eX6_distanceToFirst_5 : decode rX6_distanceToFirst.2.1 5 = .ok (.if_icmp .ge 40, 3) := by decide +kernel
theorem eX6_distanceToFirst_8 : decode rX6_distanceToFirst.2.1 8 = .ok (.iload_n 1, 1) := by decide +kernel
theorem eX6_distanceToFirst_9 : decode rX6_distanceToFirst.2.1 9 = .ok (.iload_n 3, 1) := by decide +kernel
theorem eX6_distanceToFirst_10 : decode rX6_distanceToFirst.2.1 10 = .ok (.iload_n 2, 1) := by decide +kernel
theorem eX6_distanceToFirst_11 : decode rX6_distanceToFirst.2.1 11 = .ok (.imul, 1) := by decide +kernel
theorem eX6_distanceToFirst_12 : decode rX6_distanceToFirst.2.1 12 = .ok (.iadd, 1) := by decide +kernel
theorem eX6_distanceToFirst_13 : decode rX6_distanceToFirst.2.1 13 = .ok (.istore 4, 2) := by decide +kernel
theorem eX6_distanceToFirst_15 : decode rX6_distanceToFirst.2.1 15 = .ok (.iload 4, 2) := by decide +kernel
theorem eX6_distanceToFirst_17 : decode rX6_distanceToFirst.2.1 17 = .ok (.ifCond .lt 22, 3) := by decide +kernel
theorem eX6_distanceToFirst_20 : decode rX6_distanceToFirst.2.1 20 = .ok (.iload 4, 2) := by decide +kernel
theorem eX6_distanceToFirst_22 : decode rX6_distanceToFirst.2.1 22 = .ok (.bipush 10, 2) := by decide +kernel
theorem eX6_distanceToFirst_24 : decode rX6_distanceToFirst.2.1 24 = .ok (.if_icmp .ge 15, 3) := by decide +kernel
theorem eX6_distanceToFirst_27 : decode rX6_distanceToFirst.2.1 27 = .ok (.iload_n 0, 1) := by decide +kernel
theorem eX6_distanceToFirst_28 : decode rX6_distanceToFirst.2.1 28 = .ok (.iload 4, 2) := by decide +kernel
theorem eX6_distanceToFirst_30 : decode rX6_distanceToFirst.2.1 30 = .ok (.ishr, 1) := by decide +kernel
theorem eX6_distanceToFirst_31 : decode rX6_distanceToFirst.2.1 31 = .ok (.iconst 1, 1) := by decide +kernel
theorem eX6_distanceToFirst_32 : decode rX6_distanceToFirst.2.1 32 = .ok (.iand, 1) := by decide +kernel
theorem eX6_distanceToFirst_33 : decode rX6_distanceToFirst.2.1 33 = .ok (.iconst 1, 1) := by decide +kernel
theorem eX6_distanceToFirst_34 : decode rX6_distanceToFirst.2.1 34 = .ok (.if_icmp .ne 5, 3) := by decide +kernel
theorem eX6_distanceToFirst_37 : decode rX6_distanceToFirst.2.1 37 = .ok (.iload_n 3, 1) := by decide +kernel
theorem eX6_distanceToFirst_38 : decode rX6_distanceToFirst.2.1 38 = .ok (.ireturn, 1) := by decide +kernel
theorem eX6_distanceToFirst_39 : decode rX6_distanceToFirst.2.1 39 = .ok (.iinc 3 1, 3) := by decide +kernel
theorem eX6_distanceToFirst_42 : decode rX6_distanceToFirst.2.1 42 = .ok (.goto (-40), 3) := by decide +kernel
theorem eX6_distanceToFirst_45 : decode rX6_distanceToFirst.2.1 45 = .ok (.iconst 0, 1) := by decide +kernel
theorem eX6_distanceToFirst_46 : decode rX6_distanceToFirst.2.1 46 = .ok (.ireturn, 1) := by decide +kernel
theorem eX6_distanceToLast_0 : decode rX6_distanceToLast.2.1 0 = .ok (.bipush 9, 2) := by decide +kernel
theorem eX6_distanceToLast_2 : decode rX6_distanceToLast.2.1 2 = .ok (.istore_n 3, 1) := by decide +kernel
theorem eX6_distanceToLast_3 : decode rX6_distanceToLast.2.1 3 = .ok (.iload_n 3, 1) := by decide +kernel
theorem eX6_distanceToLast_4 : decode rX6_distanceToLast.2.1 4 = .ok (.ifCond .le 40, 3) := by decide +kernel
theorem eX6_distanceToLast_7 : decode rX6_distanceToLast.2.1 7 = .ok (.iload_n 1, 1) := by decide +kernel
theorem eX6_distanceToLast_8 : decode rX6_distanceToLast.2.1 8 = .ok (.iload_n 3, 1) := by decide +kernel
theorem eX6_distanceToLast_9 : decode rX6_distanceToLast.2.1 9 = .ok (.iload_n 2, 1) := by decide +kernel
theorem eX6_distanceToLast_10 : decode rX6_distanceToLast.2.1 10 = .ok (.imul, 1) := by decide +kernel
theorem eX6_distanceToLast_11 : decode rX6_distanceToLast.2.1 11 = .ok (.iadd, 1) := by decide +kernel
theorem eX6_distanceToLast_12 : decode rX6_distanceToLast.2.1 12 = .ok (.istore 4, 2) := by decide +kernel
theorem eX6_distanceToLast_14 : decode rX6_distanceToLast.2.1 14 = .ok (.iload 4, 2) := by decide +kernel
theorem eX6_distanceToLast_16 : decode rX6_distanceToLast.2.1 16 = .ok (.ifCond .lt 22, 3) := by decide +kernel
theorem eX6_distanceToLast_19 : decode rX6_distanceToLast.2.1 19 = .ok (.iload 4, 2) := by decide +kernel
theorem eX6_distanceToLast_21 : decode rX6_distanceToLast.2.1 21 = .ok (.bipush 10, 2) := by decide +kernel
theorem eX6_distanceToLast_23 : decode rX6_distanceToLast.2.1 23 = .ok (.if_icmp .ge 15, 3) := by decide +kernel
theorem eX6_distanceToLast_26 : decode rX6_distanceToLast.2.1 26 = .ok (.iload_n 0, 1) := by decide +kernel
theorem eX6_distanceToLast_27 : decode rX6_distanceToLast.2.1 27 = .ok (.iload 4, 2) := by decide +kernel
theorem eX6_distanceToLast_29 : decode rX6_distanceToLast.2.1 29 = .ok (.ishr, 1) := by decide +kernel
theorem eX6_distanceToLast_30 : decode rX6_distanceToLast.2.1 30 = .ok (.iconst 1, 1) := by decide +kernel
theorem eX6_distanceToLast_31 : decode rX6_distanceToLast.2.1 31 = .ok (.iand, 1) := by decide +kernel
theorem eX6_distanceToLast_32 : decode rX6_distanceToLast.2.1 32 = .ok (.iconst 1, 1) := by decide +kernel
theorem eX6_distanceToLast_33 : decode rX6_distanceToLast.2.1 33 = .ok (.if_icmp .ne 5, 3) := by decide +kernel
theorem eX6_distanceToLast_36 : decode rX6_distanceToLast.2.1 36 = .ok (.iload_n 3, 1) := by decide +kernel
theorem eX6_distanceToLast_37 : decode rX6_distanceToLast.2.1 37 = .ok (.ireturn, 1) := by decide +kernel
theorem eX6_distanceToLast_38 : decode rX6_distanceToLast.2.1 38 = .ok (.iinc 3 (-1), 3) := by decide +kernel
theorem eX6_distanceToLast_41 : decode rX6_distanceToLast.2.1 41 = .ok (.goto (-38), 3) := by decide +kernel
theorem eX6_distanceToLast_44 : decode rX6_distanceToLast.2.1 44 = .ok (.iconst 0, 1) := by decide +kernel
theorem eX6_distanceToLast_45 : decode rX6_distanceToLast.2.1 45 = .ok (.ireturn, 1) := by decide +kernel
theorem eX6_directionToChoose_0 : decode rX6_directionToChoose.2.1 0 = .ok (.iload_n 1, 1) := by decide +kernel
theorem eX6_directionToChoose_1 : decode rX6_directionToChoose.2.1 1 = .ok (.ifCond .ne 5, 3) := by decide +kernel
theorem eX6_directionToChoose_4 : decode rX6_directionToChoose.2.1 4 = .ok (.iconst 0, 1) := by decide +kernel
theorem eX6_directionToChoose_5 : decode rX6_directionToChoose.2.1 5 = .ok (.ireturn, 1) := by decide +kernel
theorem eX6_directionToChoose_6 : decode rX6_directionToChoose.2.1 6 = .ok (.iload_n 1, 1) := by decide +kernel
theorem eX6_directionToChoose_7 : decode rX6_directionToChoose.2.1 7 = .ok (.aload_n 0, 1) := by decide +kernel
theorem eX6_directionToChoose_8 : decode rX6_directionToChoose.2.1 8 = .ok (.getfield 117, 3) := by decide +kernel
theorem eX6_directionToChoose_11 : decode rX6_directionToChoose.2.1 11 = .ok (.iconst 1, 1) := by decide +kernel
theorem eX6_directionToChoose_12 : decode rX6_directionToChoose.2.1 12 = .ok (.invokestatic 172, 3) := by decide +kernel
theorem eX6_directionToChoose_15 : decode rX6_directionToChoose.2.1 15 = .ok (.istore_n 2, 1) := by decide +kernel
theorem eX6_directionToChoose_16 : decode rX6_directionToChoose.2.1 16 = .ok (.iload_n 1, 1) := by decide +kernel
theorem eX6_directionToChoose_17 : decode rX6_directionToChoose.2.1 17 = .ok (.aload_n 0, 1) := by decide +kernel
theorem eX6_directionToChoose_18 : decode rX6_directionToChoose.2.1 18 = .ok (.getfield 117, 3) := by decide +kernel
theorem eX6_directionToChoose_21 : decode rX6_directionToChoose.2.1 21 = .ok (.iconst (-1), 1) := by decide +kernel
theorem eX6_directionToChoose_22 : decode rX6_directionToChoose.2.1 22 = .ok (.invokestatic 172, 3) := by decide +kernel
theorem eX6_directionToChoose_25 : decode rX6_directionToChoose.2.1 25 = .ok (.istore_n 3, 1) := by decide +kernel
theorem eX6_directionToChoose_26 : decode rX6_directionToChoose.2.1 26 = .ok (.iload_n 2, 1) := by decide +kernel
theorem eX6_directionToChoose_27 : decode rX6_directionToChoose.2.1 27 = .ok (.ifCond .ne 5, 3) := by decide +kernel
theorem eX6_directionToChoose_30 : decode rX6_directionToChoose.2.1 30 = .ok (.iconst (-1), 1) := by decide +kernel
theorem eX6_directionToChoose_31 : decode rX6_directionToChoose.2.1 31 = .ok (.ireturn, 1) := by decide +kernel
theorem eX6_directionToChoose_32 : decode rX6_directionToChoose.2.1 32 = .ok (.iload_n 3, 1) := by decide +kernel
theorem eX6_directionToChoose_33 : decode rX6_directionToChoose.2.1 33 = .ok (.ifCond .ne 5, 3) := by decide +kernel
theorem eX6_directionToChoose_36 : decode rX6_directionToChoose.2.1 36 = .ok (.iconst 1, 1) := by decide +kernel
theorem eX6_directionToChoose_37 : decode rX6_directionToChoose.2.1 37 = .ok (.ireturn, 1) := by decide +kernel
theorem eX6_directionToChoose_38 : decode rX6_directionToChoose.2.1 38 = .ok (.aload_n 0, 1) := by decide +kernel
theorem eX6_directionToChoose_39 : decode rX6_directionToChoose.2.1 39 = .ok (.getfield 122, 3) := by decide +kernel
theorem eX6_directionToChoose_42 : decode rX6_directionToChoose.2.1 42 = .ok (.ifCond .eq 8, 3) := by decide +kernel
theorem eX6_directionToChoose_45 : decode rX6_directionToChoose.2.1 45 = .ok (.aload_n 0, 1) := by decide +kernel
theorem eX6_directionToChoose_46 : decode rX6_directionToChoose.2.1 46 = .ok (.getfield 122, 3) := by decide +kernel
theorem eX6_directionToChoose_49 : decode rX6_directionToChoose.2.1 49 = .ok (.ireturn, 1) := by decide +kernel
theorem eX6_directionToChoose_50 : decode rX6_directionToChoose.2.1 50 = .ok (.iload_n 2, 1) := by decide +kernel
theorem eX6_directionToChoose_51 : decode rX6_directionToChoose.2.1 51 = .ok (.iload_n 3, 1) := by decide +kernel
theorem eX6_directionToChoose_52 : decode rX6_directionToChoose.2.1 52 = .ok (.if_icmp .gt 7, 3) := by decide +kernel
theorem eX6_directionToChoose_55 : decode rX6_directionToChoose.2.1 55 = .ok (.iconst 1, 1) := by decide +kernel
theorem eX6_directionToChoose_56 : decode rX6_directionToChoose.2.1 56 = .ok (.goto 4, 3) := by decide +kernel
theorem eX6_directionToChoose_59 : decode rX6_directionToChoose.2.1 59 = .ok (.iconst (-1), 1) := by decide +kernel
theorem eX6_directionToChoose_60 : decode rX6_directionToChoose.2.1 60 = .ok (.ireturn, 1) := by decide +kernel
