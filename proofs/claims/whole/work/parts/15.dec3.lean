theorem eL_addPassenger_0 : decode rL_addPassenger.2.1 0 = .ok (.aload 4, 2) := by decide +kernel
theorem eL_addPassenger_2 : decode rL_addPassenger.2.1 2 = .ok (.iconst 0, 1) := by decide +kernel
theorem eL_addPassenger_3 : decode rL_addPassenger.2.1 3 = .ok (.aload_n 0, 1) := by decide +kernel
theorem eL_addPassenger_4 : decode rL_addPassenger.2.1 4 = .ok (.iload_n 1, 1) := by decide +kernel
theorem eL_addPassenger_5 : decode rL_addPassenger.2.1 5 = .ok (.iload_n 2, 1) := by decide +kernel
theorem eL_addPassenger_6 : decode rL_addPassenger.2.1 6 = .ok (.iload_n 3, 1) := by decide +kernel
theorem eL_addPassenger_7 : decode rL_addPassenger.2.1 7 = .ok (.invokevirtual 7, 3) := by decide +kernel
theorem eL_addPassenger_10 : decode rL_addPassenger.2.1 10 = .ok (.i2l, 1) := by decide +kernel
theorem eL_addPassenger_11 : decode rL_addPassenger.2.1 11 = .ok (.lastore, 1) := by decide +kernel
theorem eL_addPassenger_12 : decode rL_addPassenger.2.1 12 = .ok (.goto 11, 3) := by decide +kernel
theorem eL_addPassenger_15 : decode rL_addPassenger.2.1 15 = .ok (.astore 5, 2) := by decide +kernel
theorem eL_addPassenger_17 : decode rL_addPassenger.2.1 17 = .ok (.iconst 1, 1) := by decide +kernel
theorem eL_addPassenger_18 : decode rL_addPassenger.2.1 18 = .ok (.ireturn, 1) := by decide +kernel
theorem eL_addPassenger_19 : decode rL_addPassenger.2.1 19 = .ok (.astore 5, 2) := by decide +kernel
theorem eL_addPassenger_21 : decode rL_addPassenger.2.1 21 = .ok (.iconst 2, 1) := by decide +kernel
theorem eL_addPassenger_22 : decode rL_addPassenger.2.1 22 = .ok (.ireturn, 1) := by decide +kernel
theorem eL_addPassenger_23 : decode rL_addPassenger.2.1 23 = .ok (.iconst 0, 1) := by decide +kernel
theorem eL_addPassenger_24 : decode rL_addPassenger.2.1 24 = .ok (.ireturn, 1) := by decide +kernel
theorem eL_removePassenger_0 : decode rL_removePassenger.2.1 0 = .ok (.aload_n 2, 1) := by decide +kernel
theorem eL_removePassenger_1 : decode rL_removePassenger.2.1 1 = .ok (.iconst 0, 1) := by decide +kernel
theorem eL_removePassenger_2 : decode rL_removePassenger.2.1 2 = .ok (.aload_n 0, 1) := by decide +kernel
theorem eL_removePassenger_3 : decode rL_removePassenger.2.1 3 = .ok (.iload_n 1, 1) := by decide +kernel
theorem eL_removePassenger_4 : decode rL_removePassenger.2.1 4 = .ok (.invokevirtual 17, 3) := by decide +kernel
theorem eL_removePassenger_7 : decode rL_removePassenger.2.1 7 = .ok (.i2l, 1) := by decide +kernel
theorem eL_removePassenger_8 : decode rL_removePassenger.2.1 8 = .ok (.lastore, 1) := by decide +kernel
theorem eL_removePassenger_9 : decode rL_removePassenger.2.1 9 = .ok (.goto 9, 3) := by decide +kernel
theorem eL_removePassenger_12 : decode rL_removePassenger.2.1 12 = .ok (.astore_n 3, 1) := by decide +kernel
theorem eL_removePassenger_13 : decode rL_removePassenger.2.1 13 = .ok (.iconst 1, 1) := by decide +kernel
theorem eL_removePassenger_14 : decode rL_removePassenger.2.1 14 = .ok (.ireturn, 1) := by decide +kernel
theorem eL_removePassenger_15 : decode rL_removePassenger.2.1 15 = .ok (.astore_n 3, 1) := by decide +kernel
theorem eL_removePassenger_16 : decode rL_removePassenger.2.1 16 = .ok (.iconst 2, 1) := by decide +kernel
theorem eL_removePassenger_17 : decode rL_removePassenger.2.1 17 = .ok (.ireturn, 1) := by decide +kernel
theorem eL_removePassenger_18 : decode rL_removePassenger.2.1 18 = .ok (.iconst 0, 1) := by decide +kernel
theorem eL_removePassenger_19 : decode rL_removePassenger.2.1 19 = .ok (.ireturn, 1) := by decide +kernel
theorem eL_holdDoors_0 : decode rL_holdDoors.2.1 0 = .ok (.aload_n 3, 1) := by decide +kernel
theorem eL_holdDoors_1 : decode rL_holdDoors.2.1 1 = .ok (.iconst 0, 1) := by decide +kernel
theorem eL_holdDoors_2 : decode rL_holdDoors.2.1 2 = .ok (.aload_n 0, 1) := by decide +kernel
theorem eL_holdDoors_3 : decode rL_holdDoors.2.1 3 = .ok (.iload_n 1, 1) := by decide +kernel
theorem eL_holdDoors_4 : decode rL_holdDoors.2.1 4 = .ok (.iload_n 2, 1) := by decide +kernel
theorem eL_holdDoors_5 : decode rL_holdDoors.2.1 5 = .ok (.invokevirtual 23, 3) := by decide +kernel
theorem eL_holdDoors_8 : decode rL_holdDoors.2.1 8 = .ok (.i2l, 1) := by decide +kernel
theorem eL_holdDoors_9 : decode rL_holdDoors.2.1 9 = .ok (.lastore, 1) := by decide +kernel
theorem eL_holdDoors_10 : decode rL_holdDoors.2.1 10 = .ok (.goto 15, 3) := by decide +kernel
theorem eL_holdDoors_13 : decode rL_holdDoors.2.1 13 = .ok (.astore 4, 2) := by decide +kernel
theorem eL_holdDoors_15 : decode rL_holdDoors.2.1 15 = .ok (.iconst 1, 1) := by decide +kernel
theorem eL_holdDoors_16 : decode rL_holdDoors.2.1 16 = .ok (.ireturn, 1) := by decide +kernel
theorem eL_holdDoors_17 : decode rL_holdDoors.2.1 17 = .ok (.astore 4, 2) := by decide +kernel
theorem eL_holdDoors_19 : decode rL_holdDoors.2.1 19 = .ok (.iconst 2, 1) := by decide +kernel
theorem eL_holdDoors_20 : decode rL_holdDoors.2.1 20 = .ok (.ireturn, 1) := by decide +kernel
theorem eL_holdDoors_21 : decode rL_holdDoors.2.1 21 = .ok (.astore 4, 2) := by decide +kernel
theorem eL_holdDoors_23 : decode rL_holdDoors.2.1 23 = .ok (.iconst 3, 1) := by decide +kernel
theorem eL_holdDoors_24 : decode rL_holdDoors.2.1 24 = .ok (.ireturn, 1) := by decide +kernel
theorem eL_holdDoors_25 : decode rL_holdDoors.2.1 25 = .ok (.iconst 0, 1) := by decide +kernel
theorem eL_holdDoors_26 : decode rL_holdDoors.2.1 26 = .ok (.ireturn, 1) := by decide +kernel
theorem eL_stopCar_0 : decode rL_stopCar.2.1 0 = .ok (.aload_n 2, 1) := by decide +kernel
theorem eL_stopCar_1 : decode rL_stopCar.2.1 1 = .ok (.iconst 0, 1) := by decide +kernel
theorem eL_stopCar_2 : decode rL_stopCar.2.1 2 = .ok (.aload_n 0, 1) := by decide +kernel
theorem eL_stopCar_3 : decode rL_stopCar.2.1 3 = .ok (.iload_n 1, 1) := by decide +kernel
theorem eL_stopCar_4 : decode rL_stopCar.2.1 4 = .ok (.invokevirtual 27, 3) := by decide +kernel
theorem eL_stopCar_7 : decode rL_stopCar.2.1 7 = .ok (.i2l, 1) := by decide +kernel
theorem eL_stopCar_8 : decode rL_stopCar.2.1 8 = .ok (.lastore, 1) := by decide +kernel
theorem eL_stopCar_9 : decode rL_stopCar.2.1 9 = .ok (.goto 9, 3) := by decide +kernel
theorem eL_stopCar_12 : decode rL_stopCar.2.1 12 = .ok (.astore_n 3, 1) := by decide +kernel
theorem eL_stopCar_13 : decode rL_stopCar.2.1 13 = .ok (.iconst 1, 1) := by decide +kernel
theorem eL_stopCar_14 : decode rL_stopCar.2.1 14 = .ok (.ireturn, 1) := by decide +kernel
theorem eL_stopCar_15 : decode rL_stopCar.2.1 15 = .ok (.astore_n 3, 1) := by decide +kernel
theorem eL_stopCar_16 : decode rL_stopCar.2.1 16 = .ok (.iconst 2, 1) := by decide +kernel
theorem eL_stopCar_17 : decode rL_stopCar.2.1 17 = .ok (.ireturn, 1) := by decide +kernel
theorem eL_stopCar_18 : decode rL_stopCar.2.1 18 = .ok (.iconst 0, 1) := by decide +kernel
theorem eL_stopCar_19 : decode rL_stopCar.2.1 19 = .ok (.ireturn, 1) := by decide +kernel
theorem eL_startCar_0 : decode rL_startCar.2.1 0 = .ok (.aload_n 2, 1) := by decide +kernel
theorem eL_startCar_1 : decode rL_startCar.2.1 1 = .ok (.iconst 0, 1) := by decide +kernel
theorem eL_startCar_2 : decode rL_startCar.2.1 2 = .ok (.aload_n 0, 1) := by decide +kernel
theorem eL_startCar_3 : decode rL_startCar.2.1 3 = .ok (.iload_n 1, 1) := by decide +kernel
theorem eL_startCar_4 : decode rL_startCar.2.1 4 = .ok (.invokevirtual 30, 3) := by decide +kernel
theorem eL_startCar_7 : decode rL_startCar.2.1 7 = .ok (.i2l, 1) := by decide +kernel
theorem eL_startCar_8 : decode rL_startCar.2.1 8 = .ok (.lastore, 1) := by decide +kernel
theorem eL_startCar_9 : decode rL_startCar.2.1 9 = .ok (.goto 9, 3) := by decide +kernel
theorem eL_startCar_12 : decode rL_startCar.2.1 12 = .ok (.astore_n 3, 1) := by decide +kernel
theorem eL_startCar_13 : decode rL_startCar.2.1 13 = .ok (.iconst 1, 1) := by decide +kernel
theorem eL_startCar_14 : decode rL_startCar.2.1 14 = .ok (.ireturn, 1) := by decide +kernel
theorem eL_startCar_15 : decode rL_startCar.2.1 15 = .ok (.astore_n 3, 1) := by decide +kernel
theorem eL_startCar_16 : decode rL_startCar.2.1 16 = .ok (.iconst 2, 1) := by decide +kernel
theorem eL_startCar_17 : decode rL_startCar.2.1 17 = .ok (.ireturn, 1) := by decide +kernel
theorem eL_startCar_18 : decode rL_startCar.2.1 18 = .ok (.iconst 0, 1) := by decide +kernel
theorem eL_startCar_19 : decode rL_startCar.2.1 19 = .ok (.ireturn, 1) := by decide +kernel
theorem eL_setCapacity_0 : decode rL_setCapacity.2.1 0 = .ok (.aload_n 3, 1) := by decide +kernel
theorem eL_setCapacity_1 : decode rL_setCapacity.2.1 1 = .ok (.iconst 0, 1) := by decide +kernel
theorem eL_setCapacity_2 : decode rL_setCapacity.2.1 2 = .ok (.aload_n 0, 1) := by decide +kernel
theorem eL_setCapacity_3 : decode rL_setCapacity.2.1 3 = .ok (.iload_n 1, 1) := by decide +kernel
theorem eL_setCapacity_4 : decode rL_setCapacity.2.1 4 = .ok (.iload_n 2, 1) := by decide +kernel
theorem eL_setCapacity_5 : decode rL_setCapacity.2.1 5 = .ok (.invokevirtual 33, 3) := by decide +kernel
theorem eL_setCapacity_8 : decode rL_setCapacity.2.1 8 = .ok (.i2l, 1) := by decide +kernel
theorem eL_setCapacity_9 : decode rL_setCapacity.2.1 9 = .ok (.lastore, 1) := by decide +kernel
theorem eL_setCapacity_10 : decode rL_setCapacity.2.1 10 = .ok (.goto 15, 3) := by decide +kernel
theorem eL_setCapacity_13 : decode rL_setCapacity.2.1 13 = .ok (.astore 4, 2) := by decide +kernel
theorem eL_setCapacity_15 : decode rL_setCapacity.2.1 15 = .ok (.iconst 1, 1) := by decide +kernel
theorem eL_setCapacity_16 : decode rL_setCapacity.2.1 16 = .ok (.ireturn, 1) := by decide +kernel
theorem eL_setCapacity_17 : decode rL_setCapacity.2.1 17 = .ok (.astore 4, 2) := by decide +kernel
theorem eL_setCapacity_19 : decode rL_setCapacity.2.1 19 = .ok (.iconst 2, 1) := by decide +kernel
theorem eL_setCapacity_20 : decode rL_setCapacity.2.1 20 = .ok (.ireturn, 1) := by decide +kernel
theorem eL_setCapacity_21 : decode rL_setCapacity.2.1 21 = .ok (.astore 4, 2) := by decide +kernel
theorem eL_setCapacity_23 : decode rL_setCapacity.2.1 23 = .ok (.iconst 3, 1) := by decide +kernel
theorem eL_setCapacity_24 : decode rL_setCapacity.2.1 24 = .ok (.ireturn, 1) := by decide +kernel
theorem eL_setCapacity_25 : decode rL_setCapacity.2.1 25 = .ok (.iconst 0, 1) := by decide +kernel
theorem eL_setCapacity_26 : decode rL_setCapacity.2.1 26 = .ok (.ireturn, 1) := by decide +kernel
theorem eL_advance_0 : decode rL_advance.2.1 0 = .ok (.aload_n 2, 1) := by decide +kernel
theorem eL_advance_1 : decode rL_advance.2.1 1 = .ok (.iconst 0, 1) := by decide +kernel
theorem eL_advance_2 : decode rL_advance.2.1 2 = .ok (.aload_n 0, 1) := by decide +kernel
theorem eL_advance_3 : decode rL_advance.2.1 3 = .ok (.iload_n 1, 1) := by decide +kernel
theorem eL_advance_4 : decode rL_advance.2.1 4 = .ok (.invokevirtual 38, 3) := by decide +kernel
theorem eL_advance_7 : decode rL_advance.2.1 7 = .ok (.i2l, 1) := by decide +kernel
theorem eL_advance_8 : decode rL_advance.2.1 8 = .ok (.lastore, 1) := by decide +kernel
theorem eL_advance_9 : decode rL_advance.2.1 9 = .ok (.goto 6, 3) := by decide +kernel
theorem eL_advance_12 : decode rL_advance.2.1 12 = .ok (.astore_n 3, 1) := by decide +kernel
theorem eL_advance_13 : decode rL_advance.2.1 13 = .ok (.iconst 1, 1) := by decide +kernel
theorem eL_advance_14 : decode rL_advance.2.1 14 = .ok (.ireturn, 1) := by decide +kernel
theorem eL_advance_15 : decode rL_advance.2.1 15 = .ok (.iconst 0, 1) := by decide +kernel
theorem eL_advance_16 : decode rL_advance.2.1 16 = .ok (.ireturn, 1) := by decide +kernel
theorem eL_floor_0 : decode rL_floor.2.1 0 = .ok (.aload_n 2, 1) := by decide +kernel
theorem eL_floor_1 : decode rL_floor.2.1 1 = .ok (.iconst 0, 1) := by decide +kernel
theorem eL_floor_2 : decode rL_floor.2.1 2 = .ok (.aload_n 0, 1) := by decide +kernel
theorem eL_floor_3 : decode rL_floor.2.1 3 = .ok (.iload_n 1, 1) := by decide +kernel
theorem eL_floor_4 : decode rL_floor.2.1 4 = .ok (.invokevirtual 41, 3) := by decide +kernel
theorem eL_floor_7 : decode rL_floor.2.1 7 = .ok (.i2l, 1) := by decide +kernel
theorem eL_floor_8 : decode rL_floor.2.1 8 = .ok (.lastore, 1) := by decide +kernel
theorem eL_floor_9 : decode rL_floor.2.1 9 = .ok (.goto 6, 3) := by decide +kernel
theorem eL_floor_12 : decode rL_floor.2.1 12 = .ok (.astore_n 3, 1) := by decide +kernel
theorem eL_floor_13 : decode rL_floor.2.1 13 = .ok (.iconst 1, 1) := by decide +kernel
theorem eL_floor_14 : decode rL_floor.2.1 14 = .ok (.ireturn, 1) := by decide +kernel
theorem eL_floor_15 : decode rL_floor.2.1 15 = .ok (.iconst 0, 1) := by decide +kernel
theorem eL_floor_16 : decode rL_floor.2.1 16 = .ok (.ireturn, 1) := by decide +kernel
theorem eL_direction_0 : decode rL_direction.2.1 0 = .ok (.aload_n 2, 1) := by decide +kernel
theorem eL_direction_1 : decode rL_direction.2.1 1 = .ok (.iconst 0, 1) := by decide +kernel
theorem eL_direction_2 : decode rL_direction.2.1 2 = .ok (.aload_n 0, 1) := by decide +kernel
theorem eL_direction_3 : decode rL_direction.2.1 3 = .ok (.iload_n 1, 1) := by decide +kernel
theorem eL_direction_4 : decode rL_direction.2.1 4 = .ok (.invokevirtual 44, 3) := by decide +kernel
theorem eL_direction_7 : decode rL_direction.2.1 7 = .ok (.i2l, 1) := by decide +kernel
theorem eL_direction_8 : decode rL_direction.2.1 8 = .ok (.lastore, 1) := by decide +kernel
theorem eL_direction_9 : decode rL_direction.2.1 9 = .ok (.goto 6, 3) := by decide +kernel
theorem eL_direction_12 : decode rL_direction.2.1 12 = .ok (.astore_n 3, 1) := by decide +kernel
theorem eL_direction_13 : decode rL_direction.2.1 13 = .ok (.iconst 1, 1) := by decide +kernel
theorem eL_direction_14 : decode rL_direction.2.1 14 = .ok (.ireturn, 1) := by decide +kernel
theorem eL_direction_15 : decode rL_direction.2.1 15 = .ok (.iconst 0, 1) := by decide +kernel
theorem eL_direction_16 : decode rL_direction.2.1 16 = .ok (.ireturn, 1) := by decide +kernel
theorem eL_capacity_0 : decode rL_capacity.2.1 0 = .ok (.aload_n 2, 1) := by decide +kernel
theorem eL_capacity_1 : decode rL_capacity.2.1 1 = .ok (.iconst 0, 1) := by decide +kernel
theorem eL_capacity_2 : decode rL_capacity.2.1 2 = .ok (.aload_n 0, 1) := by decide +kernel
theorem eL_capacity_3 : decode rL_capacity.2.1 3 = .ok (.iload_n 1, 1) := by decide +kernel
theorem eL_capacity_4 : decode rL_capacity.2.1 4 = .ok (.invokevirtual 47, 3) := by decide +kernel
theorem eL_capacity_7 : decode rL_capacity.2.1 7 = .ok (.i2l, 1) := by decide +kernel
theorem eL_capacity_8 : decode rL_capacity.2.1 8 = .ok (.lastore, 1) := by decide +kernel
theorem eL_capacity_9 : decode rL_capacity.2.1 9 = .ok (.goto 6, 3) := by decide +kernel
theorem eL_capacity_12 : decode rL_capacity.2.1 12 = .ok (.astore_n 3, 1) := by decide +kernel
theorem eL_capacity_13 : decode rL_capacity.2.1 13 = .ok (.iconst 1, 1) := by decide +kernel
theorem eL_capacity_14 : decode rL_capacity.2.1 14 = .ok (.ireturn, 1) := by decide +kernel
theorem eL_capacity_15 : decode rL_capacity.2.1 15 = .ok (.iconst 0, 1) := by decide +kernel
theorem eL_capacity_16 : decode rL_capacity.2.1 16 = .ok (.ireturn, 1) := by decide +kernel
theorem eL_load_0 : decode rL_load.2.1 0 = .ok (.aload_n 2, 1) := by decide +kernel
theorem eL_load_1 : decode rL_load.2.1 1 = .ok (.iconst 0, 1) := by decide +kernel
theorem eL_load_2 : decode rL_load.2.1 2 = .ok (.aload_n 0, 1) := by decide +kernel
theorem eL_load_3 : decode rL_load.2.1 3 = .ok (.iload_n 1, 1) := by decide +kernel
theorem eL_load_4 : decode rL_load.2.1 4 = .ok (.invokevirtual 50, 3) := by decide +kernel
theorem eL_load_7 : decode rL_load.2.1 7 = .ok (.i2l, 1) := by decide +kernel
theorem eL_load_8 : decode rL_load.2.1 8 = .ok (.lastore, 1) := by decide +kernel
theorem eL_load_9 : decode rL_load.2.1 9 = .ok (.goto 6, 3) := by decide +kernel
theorem eL_load_12 : decode rL_load.2.1 12 = .ok (.astore_n 3, 1) := by decide +kernel
theorem eL_load_13 : decode rL_load.2.1 13 = .ok (.iconst 1, 1) := by decide +kernel
theorem eL_load_14 : decode rL_load.2.1 14 = .ok (.ireturn, 1) := by decide +kernel
theorem eL_load_15 : decode rL_load.2.1 15 = .ok (.iconst 0, 1) := by decide +kernel
theorem eL_load_16 : decode rL_load.2.1 16 = .ok (.ireturn, 1) := by decide +kernel
theorem eL_passengersIn_0 : decode rL_passengersIn.2.1 0 = .ok (.aload_n 2, 1) := by decide +kernel
theorem eL_passengersIn_1 : decode rL_passengersIn.2.1 1 = .ok (.iconst 0, 1) := by decide +kernel
theorem eL_passengersIn_2 : decode rL_passengersIn.2.1 2 = .ok (.aload_n 0, 1) := by decide +kernel
theorem eL_passengersIn_3 : decode rL_passengersIn.2.1 3 = .ok (.iload_n 1, 1) := by decide +kernel
theorem eL_passengersIn_4 : decode rL_passengersIn.2.1 4 = .ok (.invokevirtual 53, 3) := by decide +kernel
theorem eL_passengersIn_7 : decode rL_passengersIn.2.1 7 = .ok (.i2l, 1) := by decide +kernel
theorem eL_passengersIn_8 : decode rL_passengersIn.2.1 8 = .ok (.lastore, 1) := by decide +kernel
theorem eL_passengersIn_9 : decode rL_passengersIn.2.1 9 = .ok (.goto 6, 3) := by decide +kernel
theorem eL_passengersIn_12 : decode rL_passengersIn.2.1 12 = .ok (.astore_n 3, 1) := by decide +kernel
theorem eL_passengersIn_13 : decode rL_passengersIn.2.1 13 = .ok (.iconst 1, 1) := by decide +kernel
theorem eL_passengersIn_14 : decode rL_passengersIn.2.1 14 = .ok (.ireturn, 1) := by decide +kernel
theorem eL_passengersIn_15 : decode rL_passengersIn.2.1 15 = .ok (.iconst 0, 1) := by decide +kernel
theorem eL_passengersIn_16 : decode rL_passengersIn.2.1 16 = .ok (.ireturn, 1) := by decide +kernel
theorem eL_assignedTo_0 : decode rL_assignedTo.2.1 0 = .ok (.aload_n 2, 1) := by decide +kernel
theorem eL_assignedTo_1 : decode rL_assignedTo.2.1 1 = .ok (.iconst 0, 1) := by decide +kernel
theorem eL_assignedTo_2 : decode rL_assignedTo.2.1 2 = .ok (.aload_n 0, 1) := by decide +kernel
theorem eL_assignedTo_3 : decode rL_assignedTo.2.1 3 = .ok (.iload_n 1, 1) := by decide +kernel
theorem eL_assignedTo_4 : decode rL_assignedTo.2.1 4 = .ok (.invokevirtual 56, 3) := by decide +kernel
theorem eL_assignedTo_7 : decode rL_assignedTo.2.1 7 = .ok (.i2l, 1) := by decide +kernel
theorem eL_assignedTo_8 : decode rL_assignedTo.2.1 8 = .ok (.lastore, 1) := by decide +kernel
theorem eL_assignedTo_9 : decode rL_assignedTo.2.1 9 = .ok (.goto 6, 3) := by decide +kernel
theorem eL_assignedTo_12 : decode rL_assignedTo.2.1 12 = .ok (.astore_n 3, 1) := by decide +kernel
theorem eL_assignedTo_13 : decode rL_assignedTo.2.1 13 = .ok (.iconst 1, 1) := by decide +kernel
theorem eL_assignedTo_14 : decode rL_assignedTo.2.1 14 = .ok (.ireturn, 1) := by decide +kernel
theorem eL_assignedTo_15 : decode rL_assignedTo.2.1 15 = .ok (.iconst 0, 1) := by decide +kernel
theorem eL_assignedTo_16 : decode rL_assignedTo.2.1 16 = .ok (.ireturn, 1) := by decide +kernel
theorem eL_doorSteps_0 : decode rL_doorSteps.2.1 0 = .ok (.aload_n 2, 1) := by decide +kernel
theorem eL_doorSteps_1 : decode rL_doorSteps.2.1 1 = .ok (.iconst 0, 1) := by decide +kernel
theorem eL_doorSteps_2 : decode rL_doorSteps.2.1 2 = .ok (.aload_n 0, 1) := by decide +kernel
theorem eL_doorSteps_3 : decode rL_doorSteps.2.1 3 = .ok (.iload_n 1, 1) := by decide +kernel
theorem eL_doorSteps_4 : decode rL_doorSteps.2.1 4 = .ok (.invokevirtual 59, 3) := by decide +kernel
theorem eL_doorSteps_7 : decode rL_doorSteps.2.1 7 = .ok (.i2l, 1) := by decide +kernel
theorem eL_doorSteps_8 : decode rL_doorSteps.2.1 8 = .ok (.lastore, 1) := by decide +kernel
theorem eL_doorSteps_9 : decode rL_doorSteps.2.1 9 = .ok (.goto 6, 3) := by decide +kernel
theorem eL_doorSteps_12 : decode rL_doorSteps.2.1 12 = .ok (.astore_n 3, 1) := by decide +kernel
theorem eL_doorSteps_13 : decode rL_doorSteps.2.1 13 = .ok (.iconst 1, 1) := by decide +kernel
theorem eL_doorSteps_14 : decode rL_doorSteps.2.1 14 = .ok (.ireturn, 1) := by decide +kernel
theorem eL_doorSteps_15 : decode rL_doorSteps.2.1 15 = .ok (.iconst 0, 1) := by decide +kernel
theorem eL_doorSteps_16 : decode rL_doorSteps.2.1 16 = .ok (.ireturn, 1) := by decide +kernel
theorem eL_isInService_0 : decode rL_isInService.2.1 0 = .ok (.aload_n 2, 1) := by decide +kernel
theorem eL_isInService_1 : decode rL_isInService.2.1 1 = .ok (.iconst 0, 1) := by decide +kernel
theorem eL_isInService_2 : decode rL_isInService.2.1 2 = .ok (.aload_n 0, 1) := by decide +kernel
theorem eL_isInService_3 : decode rL_isInService.2.1 3 = .ok (.iload_n 1, 1) := by decide +kernel
theorem eL_isInService_4 : decode rL_isInService.2.1 4 = .ok (.invokevirtual 62, 3) := by decide +kernel
theorem eL_isInService_7 : decode rL_isInService.2.1 7 = .ok (.ifCond .eq 7, 3) := by decide +kernel
theorem eL_isInService_10 : decode rL_isInService.2.1 10 = .ok (.lconst 1, 1) := by decide +kernel
theorem eL_isInService_11 : decode rL_isInService.2.1 11 = .ok (.goto 4, 3) := by decide +kernel
theorem eL_isInService_14 : decode rL_isInService.2.1 14 = .ok (.lconst 0, 1) := by decide +kernel
theorem eL_isInService_15 : decode rL_isInService.2.1 15 = .ok (.lastore, 1) := by decide +kernel
theorem eL_isInService_16 : decode rL_isInService.2.1 16 = .ok (.goto 6, 3) := by decide +kernel
theorem eL_isInService_19 : decode rL_isInService.2.1 19 = .ok (.astore_n 3, 1) := by decide +kernel
theorem eL_isInService_20 : decode rL_isInService.2.1 20 = .ok (.iconst 1, 1) := by decide +kernel
theorem eL_isInService_21 : decode rL_isInService.2.1 21 = .ok (.ireturn, 1) := by decide +kernel
theorem eL_isInService_22 : decode rL_isInService.2.1 22 = .ok (.iconst 0, 1) := by decide +kernel
theorem eL_isInService_23 : decode rL_isInService.2.1 23 = .ok (.ireturn, 1) := by decide +kernel
theorem eL_energy_0 : decode rL_energy.2.1 0 = .ok (.aload_n 2, 1) := by decide +kernel
theorem eL_energy_1 : decode rL_energy.2.1 1 = .ok (.iconst 0, 1) := by decide +kernel
theorem eL_energy_2 : decode rL_energy.2.1 2 = .ok (.aload_n 0, 1) := by decide +kernel
theorem eL_energy_3 : decode rL_energy.2.1 3 = .ok (.iload_n 1, 1) := by decide +kernel
theorem eL_energy_4 : decode rL_energy.2.1 4 = .ok (.invokevirtual 66, 3) := by decide +kernel
theorem eL_energy_7 : decode rL_energy.2.1 7 = .ok (.i2l, 1) := by decide +kernel
theorem eL_energy_8 : decode rL_energy.2.1 8 = .ok (.lastore, 1) := by decide +kernel
theorem eL_energy_9 : decode rL_energy.2.1 9 = .ok (.goto 6, 3) := by decide +kernel
theorem eL_energy_12 : decode rL_energy.2.1 12 = .ok (.astore_n 3, 1) := by decide +kernel
theorem eL_energy_13 : decode rL_energy.2.1 13 = .ok (.iconst 1, 1) := by decide +kernel
theorem eL_energy_14 : decode rL_energy.2.1 14 = .ok (.ireturn, 1) := by decide +kernel
theorem eL_energy_15 : decode rL_energy.2.1 15 = .ok (.iconst 0, 1) := by decide +kernel
theorem eL_energy_16 : decode rL_energy.2.1 16 = .ok (.ireturn, 1) := by decide +kernel
theorem eL_isStop_0 : decode rL_isStop.2.1 0 = .ok (.aload_n 3, 1) := by decide +kernel
theorem eL_isStop_1 : decode rL_isStop.2.1 1 = .ok (.iconst 0, 1) := by decide +kernel
theorem eL_isStop_2 : decode rL_isStop.2.1 2 = .ok (.aload_n 0, 1) := by decide +kernel
theorem eL_isStop_3 : decode rL_isStop.2.1 3 = .ok (.iload_n 1, 1) := by decide +kernel
theorem eL_isStop_4 : decode rL_isStop.2.1 4 = .ok (.iload_n 2, 1) := by decide +kernel
theorem eL_isStop_5 : decode rL_isStop.2.1 5 = .ok (.invokevirtual 69, 3) := by decide +kernel
theorem eL_isStop_8 : decode rL_isStop.2.1 8 = .ok (.ifCond .eq 7, 3) := by decide +kernel
theorem eL_isStop_11 : decode rL_isStop.2.1 11 = .ok (.lconst 1, 1) := by decide +kernel
theorem eL_isStop_12 : decode rL_isStop.2.1 12 = .ok (.goto 4, 3) := by decide +kernel
theorem eL_isStop_15 : decode rL_isStop.2.1 15 = .ok (.lconst 0, 1) := by decide +kernel
theorem eL_isStop_16 : decode rL_isStop.2.1 16 = .ok (.lastore, 1) := by decide +kernel
theorem eL_isStop_17 : decode rL_isStop.2.1 17 = .ok (.goto 11, 3) := by decide +kernel
theorem eL_isStop_20 : decode rL_isStop.2.1 20 = .ok (.astore 4, 2) := by decide +kernel
theorem eL_isStop_22 : decode rL_isStop.2.1 22 = .ok (.iconst 1, 1) := by decide +kernel
theorem eL_isStop_23 : decode rL_isStop.2.1 23 = .ok (.ireturn, 1) := by decide +kernel
theorem eL_isStop_24 : decode rL_isStop.2.1 24 = .ok (.astore 4, 2) := by decide +kernel
theorem eL_isStop_26 : decode rL_isStop.2.1 26 = .ok (.iconst 2, 1) := by decide +kernel
theorem eL_isStop_27 : decode rL_isStop.2.1 27 = .ok (.ireturn, 1) := by decide +kernel
theorem eL_isStop_28 : decode rL_isStop.2.1 28 = .ok (.iconst 0, 1) := by decide +kernel
theorem eL_isStop_29 : decode rL_isStop.2.1 29 = .ok (.ireturn, 1) := by decide +kernel
theorem eL_stopCount_0 : decode rL_stopCount.2.1 0 = .ok (.aload_n 2, 1) := by decide +kernel
theorem eL_stopCount_1 : decode rL_stopCount.2.1 1 = .ok (.iconst 0, 1) := by decide +kernel
theorem eL_stopCount_2 : decode rL_stopCount.2.1 2 = .ok (.aload_n 0, 1) := by decide +kernel
theorem eL_stopCount_3 : decode rL_stopCount.2.1 3 = .ok (.iload_n 1, 1) := by decide +kernel
theorem eL_stopCount_4 : decode rL_stopCount.2.1 4 = .ok (.invokevirtual 73, 3) := by decide +kernel
theorem eL_stopCount_7 : decode rL_stopCount.2.1 7 = .ok (.i2l, 1) := by decide +kernel
theorem eL_stopCount_8 : decode rL_stopCount.2.1 8 = .ok (.lastore, 1) := by decide +kernel
theorem eL_stopCount_9 : decode rL_stopCount.2.1 9 = .ok (.goto 6, 3) := by decide +kernel
theorem eL_stopCount_12 : decode rL_stopCount.2.1 12 = .ok (.astore_n 3, 1) := by decide +kernel
theorem eL_stopCount_13 : decode rL_stopCount.2.1 13 = .ok (.iconst 1, 1) := by decide +kernel
theorem eL_stopCount_14 : decode rL_stopCount.2.1 14 = .ok (.ireturn, 1) := by decide +kernel
theorem eL_stopCount_15 : decode rL_stopCount.2.1 15 = .ok (.iconst 0, 1) := by decide +kernel
theorem eL_stopCount_16 : decode rL_stopCount.2.1 16 = .ok (.ireturn, 1) := by decide +kernel
theorem eL_nextStop_0 : decode rL_nextStop.2.1 0 = .ok (.aload_n 2, 1) := by decide +kernel
theorem eL_nextStop_1 : decode rL_nextStop.2.1 1 = .ok (.iconst 0, 1) := by decide +kernel
theorem eL_nextStop_2 : decode rL_nextStop.2.1 2 = .ok (.aload_n 0, 1) := by decide +kernel
theorem eL_nextStop_3 : decode rL_nextStop.2.1 3 = .ok (.iload_n 1, 1) := by decide +kernel
theorem eL_nextStop_4 : decode rL_nextStop.2.1 4 = .ok (.invokevirtual 76, 3) := by decide +kernel
theorem eL_nextStop_7 : decode rL_nextStop.2.1 7 = .ok (.i2l, 1) := by decide +kernel
theorem eL_nextStop_8 : decode rL_nextStop.2.1 8 = .ok (.lastore, 1) := by decide +kernel
theorem eL_nextStop_9 : decode rL_nextStop.2.1 9 = .ok (.goto 9, 3) := by decide +kernel
theorem eL_nextStop_12 : decode rL_nextStop.2.1 12 = .ok (.astore_n 3, 1) := by decide +kernel
theorem eL_nextStop_13 : decode rL_nextStop.2.1 13 = .ok (.iconst 1, 1) := by decide +kernel
theorem eL_nextStop_14 : decode rL_nextStop.2.1 14 = .ok (.ireturn, 1) := by decide +kernel
theorem eL_nextStop_15 : decode rL_nextStop.2.1 15 = .ok (.astore_n 3, 1) := by decide +kernel
theorem eL_nextStop_16 : decode rL_nextStop.2.1 16 = .ok (.iconst 2, 1) := by decide +kernel
theorem eL_nextStop_17 : decode rL_nextStop.2.1 17 = .ok (.ireturn, 1) := by decide +kernel
theorem eL_nextStop_18 : decode rL_nextStop.2.1 18 = .ok (.iconst 0, 1) := by decide +kernel
theorem eL_nextStop_19 : decode rL_nextStop.2.1 19 = .ok (.ireturn, 1) := by decide +kernel
theorem eL_number_0 : decode rL_number.2.1 0 = .ok (.aload_n 2, 1) := by decide +kernel
theorem eL_number_1 : decode rL_number.2.1 1 = .ok (.iconst 0, 1) := by decide +kernel
theorem eL_number_2 : decode rL_number.2.1 2 = .ok (.aload_n 0, 1) := by decide +kernel
theorem eL_number_3 : decode rL_number.2.1 3 = .ok (.iload_n 1, 1) := by decide +kernel
theorem eL_number_4 : decode rL_number.2.1 4 = .ok (.invokevirtual 81, 3) := by decide +kernel
theorem eL_number_7 : decode rL_number.2.1 7 = .ok (.i2l, 1) := by decide +kernel
theorem eL_number_8 : decode rL_number.2.1 8 = .ok (.lastore, 1) := by decide +kernel
theorem eL_number_9 : decode rL_number.2.1 9 = .ok (.goto 6, 3) := by decide +kernel
theorem eL_number_12 : decode rL_number.2.1 12 = .ok (.astore_n 3, 1) := by decide +kernel
theorem eL_number_13 : decode rL_number.2.1 13 = .ok (.iconst 1, 1) := by decide +kernel
theorem eL_number_14 : decode rL_number.2.1 14 = .ok (.ireturn, 1) := by decide +kernel
theorem eL_number_15 : decode rL_number.2.1 15 = .ok (.iconst 0, 1) := by decide +kernel
theorem eL_number_16 : decode rL_number.2.1 16 = .ok (.ireturn, 1) := by decide +kernel
theorem eL_start_0 : decode rL_start.2.1 0 = .ok (.aload_n 2, 1) := by decide +kernel
theorem eL_start_1 : decode rL_start.2.1 1 = .ok (.iconst 0, 1) := by decide +kernel
theorem eL_start_2 : decode rL_start.2.1 2 = .ok (.aload_n 0, 1) := by decide +kernel
theorem eL_start_3 : decode rL_start.2.1 3 = .ok (.iload_n 1, 1) := by decide +kernel
theorem eL_start_4 : decode rL_start.2.1 4 = .ok (.invokevirtual 84, 3) := by decide +kernel
theorem eL_start_7 : decode rL_start.2.1 7 = .ok (.i2l, 1) := by decide +kernel
theorem eL_start_8 : decode rL_start.2.1 8 = .ok (.lastore, 1) := by decide +kernel
theorem eL_start_9 : decode rL_start.2.1 9 = .ok (.goto 6, 3) := by decide +kernel
theorem eL_start_12 : decode rL_start.2.1 12 = .ok (.astore_n 3, 1) := by decide +kernel
theorem eL_start_13 : decode rL_start.2.1 13 = .ok (.iconst 1, 1) := by decide +kernel
theorem eL_start_14 : decode rL_start.2.1 14 = .ok (.ireturn, 1) := by decide +kernel
theorem eL_start_15 : decode rL_start.2.1 15 = .ok (.iconst 0, 1) := by decide +kernel
theorem eL_start_16 : decode rL_start.2.1 16 = .ok (.ireturn, 1) := by decide +kernel
theorem eL_destination_0 : decode rL_destination.2.1 0 = .ok (.aload_n 2, 1) := by decide +kernel
theorem eL_destination_1 : decode rL_destination.2.1 1 = .ok (.iconst 0, 1) := by decide +kernel
theorem eL_destination_2 : decode rL_destination.2.1 2 = .ok (.aload_n 0, 1) := by decide +kernel
theorem eL_destination_3 : decode rL_destination.2.1 3 = .ok (.iload_n 1, 1) := by decide +kernel
theorem eL_destination_4 : decode rL_destination.2.1 4 = .ok (.invokevirtual 87, 3) := by decide +kernel
theorem eL_destination_7 : decode rL_destination.2.1 7 = .ok (.i2l, 1) := by decide +kernel
theorem eL_destination_8 : decode rL_destination.2.1 8 = .ok (.lastore, 1) := by decide +kernel
theorem eL_destination_9 : decode rL_destination.2.1 9 = .ok (.goto 6, 3) := by decide +kernel
theorem eL_destination_12 : decode rL_destination.2.1 12 = .ok (.astore_n 3, 1) := by decide +kernel
theorem eL_destination_13 : decode rL_destination.2.1 13 = .ok (.iconst 1, 1) := by decide +kernel
theorem eL_destination_14 : decode rL_destination.2.1 14 = .ok (.ireturn, 1) := by decide +kernel
theorem eL_destination_15 : decode rL_destination.2.1 15 = .ok (.iconst 0, 1) := by decide +kernel
theorem eL_destination_16 : decode rL_destination.2.1 16 = .ok (.ireturn, 1) := by decide +kernel
theorem eL_weight_0 : decode rL_weight.2.1 0 = .ok (.aload_n 2, 1) := by decide +kernel
theorem eL_weight_1 : decode rL_weight.2.1 1 = .ok (.iconst 0, 1) := by decide +kernel
theorem eL_weight_2 : decode rL_weight.2.1 2 = .ok (.aload_n 0, 1) := by decide +kernel
theorem eL_weight_3 : decode rL_weight.2.1 3 = .ok (.iload_n 1, 1) := by decide +kernel
theorem eL_weight_4 : decode rL_weight.2.1 4 = .ok (.invokevirtual 90, 3) := by decide +kernel
theorem eL_weight_7 : decode rL_weight.2.1 7 = .ok (.i2l, 1) := by decide +kernel
theorem eL_weight_8 : decode rL_weight.2.1 8 = .ok (.lastore, 1) := by decide +kernel
theorem eL_weight_9 : decode rL_weight.2.1 9 = .ok (.goto 6, 3) := by decide +kernel
theorem eL_weight_12 : decode rL_weight.2.1 12 = .ok (.astore_n 3, 1) := by decide +kernel
theorem eL_weight_13 : decode rL_weight.2.1 13 = .ok (.iconst 1, 1) := by decide +kernel
theorem eL_weight_14 : decode rL_weight.2.1 14 = .ok (.ireturn, 1) := by decide +kernel
theorem eL_weight_15 : decode rL_weight.2.1 15 = .ok (.iconst 0, 1) := by decide +kernel
theorem eL_weight_16 : decode rL_weight.2.1 16 = .ok (.ireturn, 1) := by decide +kernel
theorem eL_waitingTime_0 : decode rL_waitingTime.2.1 0 = .ok (.aload_n 2, 1) := by decide +kernel
theorem eL_waitingTime_1 : decode rL_waitingTime.2.1 1 = .ok (.iconst 0, 1) := by decide +kernel
theorem eL_waitingTime_2 : decode rL_waitingTime.2.1 2 = .ok (.aload_n 0, 1) := by decide +kernel
theorem eL_waitingTime_3 : decode rL_waitingTime.2.1 3 = .ok (.iload_n 1, 1) := by decide +kernel
theorem eL_waitingTime_4 : decode rL_waitingTime.2.1 4 = .ok (.invokevirtual 93, 3) := by decide +kernel
theorem eL_waitingTime_7 : decode rL_waitingTime.2.1 7 = .ok (.i2l, 1) := by decide +kernel
theorem eL_waitingTime_8 : decode rL_waitingTime.2.1 8 = .ok (.lastore, 1) := by decide +kernel
theorem eL_waitingTime_9 : decode rL_waitingTime.2.1 9 = .ok (.goto 6, 3) := by decide +kernel
theorem eL_waitingTime_12 : decode rL_waitingTime.2.1 12 = .ok (.astore_n 3, 1) := by decide +kernel
theorem eL_waitingTime_13 : decode rL_waitingTime.2.1 13 = .ok (.iconst 1, 1) := by decide +kernel
theorem eL_waitingTime_14 : decode rL_waitingTime.2.1 14 = .ok (.ireturn, 1) := by decide +kernel
theorem eL_waitingTime_15 : decode rL_waitingTime.2.1 15 = .ok (.iconst 0, 1) := by decide +kernel
theorem eL_waitingTime_16 : decode rL_waitingTime.2.1 16 = .ok (.ireturn, 1) := by decide +kernel
theorem eL_isInCar_0 : decode rL_isInCar.2.1 0 = .ok (.aload_n 2, 1) := by decide +kernel
theorem eL_isInCar_1 : decode rL_isInCar.2.1 1 = .ok (.iconst 0, 1) := by decide +kernel
theorem eL_isInCar_2 : decode rL_isInCar.2.1 2 = .ok (.aload_n 0, 1) := by decide +kernel
theorem eL_isInCar_3 : decode rL_isInCar.2.1 3 = .ok (.iload_n 1, 1) := by decide +kernel
theorem eL_isInCar_4 : decode rL_isInCar.2.1 4 = .ok (.invokevirtual 96, 3) := by decide +kernel
theorem eL_isInCar_7 : decode rL_isInCar.2.1 7 = .ok (.ifCond .eq 7, 3) := by decide +kernel
theorem eL_isInCar_10 : decode rL_isInCar.2.1 10 = .ok (.lconst 1, 1) := by decide +kernel
theorem eL_isInCar_11 : decode rL_isInCar.2.1 11 = .ok (.goto 4, 3) := by decide +kernel
theorem eL_isInCar_14 : decode rL_isInCar.2.1 14 = .ok (.lconst 0, 1) := by decide +kernel
theorem eL_isInCar_15 : decode rL_isInCar.2.1 15 = .ok (.lastore, 1) := by decide +kernel
theorem eL_isInCar_16 : decode rL_isInCar.2.1 16 = .ok (.goto 6, 3) := by decide +kernel
theorem eL_isInCar_19 : decode rL_isInCar.2.1 19 = .ok (.astore_n 3, 1) := by decide +kernel
theorem eL_isInCar_20 : decode rL_isInCar.2.1 20 = .ok (.iconst 1, 1) := by decide +kernel
theorem eL_isInCar_21 : decode rL_isInCar.2.1 21 = .ok (.ireturn, 1) := by decide +kernel
theorem eL_isInCar_22 : decode rL_isInCar.2.1 22 = .ok (.iconst 0, 1) := by decide +kernel
theorem eL_isInCar_23 : decode rL_isInCar.2.1 23 = .ok (.ireturn, 1) := by decide +kernel
theorem eL_carOf_0 : decode rL_carOf.2.1 0 = .ok (.aload_n 2, 1) := by decide +kernel
theorem eL_carOf_1 : decode rL_carOf.2.1 1 = .ok (.iconst 0, 1) := by decide +kernel
theorem eL_carOf_2 : decode rL_carOf.2.1 2 = .ok (.aload_n 0, 1) := by decide +kernel
theorem eL_carOf_3 : decode rL_carOf.2.1 3 = .ok (.iload_n 1, 1) := by decide +kernel
theorem eL_carOf_4 : decode rL_carOf.2.1 4 = .ok (.invokevirtual 99, 3) := by decide +kernel
theorem eL_carOf_7 : decode rL_carOf.2.1 7 = .ok (.i2l, 1) := by decide +kernel
theorem eL_carOf_8 : decode rL_carOf.2.1 8 = .ok (.lastore, 1) := by decide +kernel
theorem eL_carOf_9 : decode rL_carOf.2.1 9 = .ok (.goto 9, 3) := by decide +kernel
theorem eL_carOf_12 : decode rL_carOf.2.1 12 = .ok (.astore_n 3, 1) := by decide +kernel
theorem eL_carOf_13 : decode rL_carOf.2.1 13 = .ok (.iconst 1, 1) := by decide +kernel
theorem eL_carOf_14 : decode rL_carOf.2.1 14 = .ok (.ireturn, 1) := by decide +kernel
theorem eL_carOf_15 : decode rL_carOf.2.1 15 = .ok (.astore_n 3, 1) := by decide +kernel
theorem eL_carOf_16 : decode rL_carOf.2.1 16 = .ok (.iconst 2, 1) := by decide +kernel
theorem eL_carOf_17 : decode rL_carOf.2.1 17 = .ok (.ireturn, 1) := by decide +kernel
theorem eL_carOf_18 : decode rL_carOf.2.1 18 = .ok (.iconst 0, 1) := by decide +kernel
theorem eL_carOf_19 : decode rL_carOf.2.1 19 = .ok (.ireturn, 1) := by decide +kernel
theorem eL_waitingAt_0 : decode rL_waitingAt.2.1 0 = .ok (.aload_n 2, 1) := by decide +kernel
theorem eL_waitingAt_1 : decode rL_waitingAt.2.1 1 = .ok (.iconst 0, 1) := by decide +kernel
theorem eL_waitingAt_2 : decode rL_waitingAt.2.1 2 = .ok (.aload_n 0, 1) := by decide +kernel
theorem eL_waitingAt_3 : decode rL_waitingAt.2.1 3 = .ok (.iload_n 1, 1) := by decide +kernel
theorem eL_waitingAt_4 : decode rL_waitingAt.2.1 4 = .ok (.invokevirtual 102, 3) := by decide +kernel
theorem eL_waitingAt_7 : decode rL_waitingAt.2.1 7 = .ok (.i2l, 1) := by decide +kernel
theorem eL_waitingAt_8 : decode rL_waitingAt.2.1 8 = .ok (.lastore, 1) := by decide +kernel
theorem eL_waitingAt_9 : decode rL_waitingAt.2.1 9 = .ok (.goto 6, 3) := by decide +kernel
theorem eL_waitingAt_12 : decode rL_waitingAt.2.1 12 = .ok (.astore_n 3, 1) := by decide +kernel
theorem eL_waitingAt_13 : decode rL_waitingAt.2.1 13 = .ok (.iconst 1, 1) := by decide +kernel
theorem eL_waitingAt_14 : decode rL_waitingAt.2.1 14 = .ok (.ireturn, 1) := by decide +kernel
theorem eL_waitingAt_15 : decode rL_waitingAt.2.1 15 = .ok (.iconst 0, 1) := by decide +kernel
theorem eL_waitingAt_16 : decode rL_waitingAt.2.1 16 = .ok (.ireturn, 1) := by decide +kernel
theorem eL_estimate_0 : decode rL_estimate.2.1 0 = .ok (.aload_n 3, 1) := by decide +kernel
theorem eL_estimate_1 : decode rL_estimate.2.1 1 = .ok (.iconst 0, 1) := by decide +kernel
theorem eL_estimate_2 : decode rL_estimate.2.1 2 = .ok (.aload_n 0, 1) := by decide +kernel
theorem eL_estimate_3 : decode rL_estimate.2.1 3 = .ok (.iload_n 1, 1) := by decide +kernel
theorem eL_estimate_4 : decode rL_estimate.2.1 4 = .ok (.iload_n 2, 1) := by decide +kernel
theorem eL_estimate_5 : decode rL_estimate.2.1 5 = .ok (.invokevirtual 105, 3) := by decide +kernel
theorem eL_estimate_8 : decode rL_estimate.2.1 8 = .ok (.i2l, 1) := by decide +kernel
theorem eL_estimate_9 : decode rL_estimate.2.1 9 = .ok (.lastore, 1) := by decide +kernel
theorem eL_estimate_10 : decode rL_estimate.2.1 10 = .ok (.goto 11, 3) := by decide +kernel
theorem eL_estimate_13 : decode rL_estimate.2.1 13 = .ok (.astore 4, 2) := by decide +kernel
theorem eL_estimate_15 : decode rL_estimate.2.1 15 = .ok (.iconst 1, 1) := by decide +kernel
theorem eL_estimate_16 : decode rL_estimate.2.1 16 = .ok (.ireturn, 1) := by decide +kernel
theorem eL_estimate_17 : decode rL_estimate.2.1 17 = .ok (.astore 4, 2) := by decide +kernel
theorem eL_estimate_19 : decode rL_estimate.2.1 19 = .ok (.iconst 2, 1) := by decide +kernel
theorem eL_estimate_20 : decode rL_estimate.2.1 20 = .ok (.ireturn, 1) := by decide +kernel
theorem eL_estimate_21 : decode rL_estimate.2.1 21 = .ok (.iconst 0, 1) := by decide +kernel
theorem eL_estimate_22 : decode rL_estimate.2.1 22 = .ok (.ireturn, 1) := by decide +kernel
theorem eL_estimateByWalk_0 : decode rL_estimateByWalk.2.1 0 = .ok (.aload_n 3, 1) := by decide +kernel
theorem eL_estimateByWalk_1 : decode rL_estimateByWalk.2.1 1 = .ok (.iconst 0, 1) := by decide +kernel
theorem eL_estimateByWalk_2 : decode rL_estimateByWalk.2.1 2 = .ok (.aload_n 0, 1) := by decide +kernel
theorem eL_estimateByWalk_3 : decode rL_estimateByWalk.2.1 3 = .ok (.iload_n 1, 1) := by decide +kernel
theorem eL_estimateByWalk_4 : decode rL_estimateByWalk.2.1 4 = .ok (.iload_n 2, 1) := by decide +kernel
theorem eL_estimateByWalk_5 : decode rL_estimateByWalk.2.1 5 = .ok (.invokevirtual 108, 3) := by decide +kernel
theorem eL_estimateByWalk_8 : decode rL_estimateByWalk.2.1 8 = .ok (.i2l, 1) := by decide +kernel
theorem eL_estimateByWalk_9 : decode rL_estimateByWalk.2.1 9 = .ok (.lastore, 1) := by decide +kernel
theorem eL_estimateByWalk_10 : decode rL_estimateByWalk.2.1 10 = .ok (.goto 11, 3) := by decide +kernel
theorem eL_estimateByWalk_13 : decode rL_estimateByWalk.2.1 13 = .ok (.astore 4, 2) := by decide +kernel
theorem eL_estimateByWalk_15 : decode rL_estimateByWalk.2.1 15 = .ok (.iconst 1, 1) := by decide +kernel
theorem eL_estimateByWalk_16 : decode rL_estimateByWalk.2.1 16 = .ok (.ireturn, 1) := by decide +kernel
theorem eL_estimateByWalk_17 : decode rL_estimateByWalk.2.1 17 = .ok (.astore 4, 2) := by decide +kernel
theorem eL_estimateByWalk_19 : decode rL_estimateByWalk.2.1 19 = .ok (.iconst 2, 1) := by decide +kernel
theorem eL_estimateByWalk_20 : decode rL_estimateByWalk.2.1 20 = .ok (.ireturn, 1) := by decide +kernel
theorem eL_estimateByWalk_21 : decode rL_estimateByWalk.2.1 21 = .ok (.iconst 0, 1) := by decide +kernel
theorem eL_estimateByWalk_22 : decode rL_estimateByWalk.2.1 22 = .ok (.ireturn, 1) := by decide +kernel
theorem eL_bestCar_0 : decode rL_bestCar.2.1 0 = .ok (.aload_n 3, 1) := by decide +kernel
theorem eL_bestCar_1 : decode rL_bestCar.2.1 1 = .ok (.iconst 0, 1) := by decide +kernel
theorem eL_bestCar_2 : decode rL_bestCar.2.1 2 = .ok (.aload_n 0, 1) := by decide +kernel
theorem eL_bestCar_3 : decode rL_bestCar.2.1 3 = .ok (.iload_n 1, 1) := by decide +kernel
theorem eL_bestCar_4 : decode rL_bestCar.2.1 4 = .ok (.iload_n 2, 1) := by decide +kernel
theorem eL_bestCar_5 : decode rL_bestCar.2.1 5 = .ok (.invokevirtual 111, 3) := by decide +kernel
theorem eL_bestCar_8 : decode rL_bestCar.2.1 8 = .ok (.i2l, 1) := by decide +kernel
theorem eL_bestCar_9 : decode rL_bestCar.2.1 9 = .ok (.lastore, 1) := by decide +kernel
theorem eL_bestCar_10 : decode rL_bestCar.2.1 10 = .ok (.goto 11, 3) := by decide +kernel
theorem eL_bestCar_13 : decode rL_bestCar.2.1 13 = .ok (.astore 4, 2) := by decide +kernel
theorem eL_bestCar_15 : decode rL_bestCar.2.1 15 = .ok (.iconst 1, 1) := by decide +kernel
theorem eL_bestCar_16 : decode rL_bestCar.2.1 16 = .ok (.ireturn, 1) := by decide +kernel
theorem eL_bestCar_17 : decode rL_bestCar.2.1 17 = .ok (.astore 4, 2) := by decide +kernel
theorem eL_bestCar_19 : decode rL_bestCar.2.1 19 = .ok (.iconst 2, 1) := by decide +kernel
theorem eL_bestCar_20 : decode rL_bestCar.2.1 20 = .ok (.ireturn, 1) := by decide +kernel
theorem eL_bestCar_21 : decode rL_bestCar.2.1 21 = .ok (.iconst 0, 1) := by decide +kernel
theorem eL_bestCar_22 : decode rL_bestCar.2.1 22 = .ok (.ireturn, 1) := by decide +kernel
theorem eL_stepsUntilBoarding_0 : decode rL_stepsUntilBoarding.2.1 0 = .ok (.aload_n 2, 1) := by decide +kernel
theorem eL_stepsUntilBoarding_1 : decode rL_stepsUntilBoarding.2.1 1 = .ok (.iconst 0, 1) := by decide +kernel
theorem eL_stepsUntilBoarding_2 : decode rL_stepsUntilBoarding.2.1 2 = .ok (.aload_n 0, 1) := by decide +kernel
theorem eL_stepsUntilBoarding_3 : decode rL_stepsUntilBoarding.2.1 3 = .ok (.iload_n 1, 1) := by decide +kernel
theorem eL_stepsUntilBoarding_4 : decode rL_stepsUntilBoarding.2.1 4 = .ok (.invokevirtual 114, 3) := by decide +kernel
theorem eL_stepsUntilBoarding_7 : decode rL_stepsUntilBoarding.2.1 7 = .ok (.i2l, 1) := by decide +kernel
theorem eL_stepsUntilBoarding_8 : decode rL_stepsUntilBoarding.2.1 8 = .ok (.lastore, 1) := by decide +kernel
theorem eL_stepsUntilBoarding_9 : decode rL_stepsUntilBoarding.2.1 9 = .ok (.goto 9, 3) := by decide +kernel
theorem eL_stepsUntilBoarding_12 : decode rL_stepsUntilBoarding.2.1 12 = .ok (.astore_n 3, 1) := by decide +kernel
theorem eL_stepsUntilBoarding_13 : decode rL_stepsUntilBoarding.2.1 13 = .ok (.iconst 1, 1) := by decide +kernel
theorem eL_stepsUntilBoarding_14 : decode rL_stepsUntilBoarding.2.1 14 = .ok (.ireturn, 1) := by decide +kernel
theorem eL_stepsUntilBoarding_15 : decode rL_stepsUntilBoarding.2.1 15 = .ok (.astore_n 3, 1) := by decide +kernel
theorem eL_stepsUntilBoarding_16 : decode rL_stepsUntilBoarding.2.1 16 = .ok (.iconst 2, 1) := by decide +kernel
theorem eL_stepsUntilBoarding_17 : decode rL_stepsUntilBoarding.2.1 17 = .ok (.ireturn, 1) := by decide +kernel
theorem eL_stepsUntilBoarding_18 : decode rL_stepsUntilBoarding.2.1 18 = .ok (.iconst 0, 1) := by decide +kernel
theorem eL_stepsUntilBoarding_19 : decode rL_stepsUntilBoarding.2.1 19 = .ok (.ireturn, 1) := by decide +kernel
theorem eL_stepsUntilArrival_0 : decode rL_stepsUntilArrival.2.1 0 = .ok (.aload_n 2, 1) := by decide +kernel
theorem eL_stepsUntilArrival_1 : decode rL_stepsUntilArrival.2.1 1 = .ok (.iconst 0, 1) := by decide +kernel
theorem eL_stepsUntilArrival_2 : decode rL_stepsUntilArrival.2.1 2 = .ok (.aload_n 0, 1) := by decide +kernel
theorem eL_stepsUntilArrival_3 : decode rL_stepsUntilArrival.2.1 3 = .ok (.iload_n 1, 1) := by decide +kernel
theorem eL_stepsUntilArrival_4 : decode rL_stepsUntilArrival.2.1 4 = .ok (.invokevirtual 117, 3) := by decide +kernel
theorem eL_stepsUntilArrival_7 : decode rL_stepsUntilArrival.2.1 7 = .ok (.i2l, 1) := by decide +kernel
theorem eL_stepsUntilArrival_8 : decode rL_stepsUntilArrival.2.1 8 = .ok (.lastore, 1) := by decide +kernel
theorem eL_stepsUntilArrival_9 : decode rL_stepsUntilArrival.2.1 9 = .ok (.goto 9, 3) := by decide +kernel
theorem eL_stepsUntilArrival_12 : decode rL_stepsUntilArrival.2.1 12 = .ok (.astore_n 3, 1) := by decide +kernel
theorem eL_stepsUntilArrival_13 : decode rL_stepsUntilArrival.2.1 13 = .ok (.iconst 1, 1) := by decide +kernel
theorem eL_stepsUntilArrival_14 : decode rL_stepsUntilArrival.2.1 14 = .ok (.ireturn, 1) := by decide +kernel
theorem eL_stepsUntilArrival_15 : decode rL_stepsUntilArrival.2.1 15 = .ok (.astore_n 3, 1) := by decide +kernel
theorem eL_stepsUntilArrival_16 : decode rL_stepsUntilArrival.2.1 16 = .ok (.iconst 2, 1) := by decide +kernel
theorem eL_stepsUntilArrival_17 : decode rL_stepsUntilArrival.2.1 17 = .ok (.ireturn, 1) := by decide +kernel
theorem eL_stepsUntilArrival_18 : decode rL_stepsUntilArrival.2.1 18 = .ok (.iconst 0, 1) := by decide +kernel
theorem eL_stepsUntilArrival_19 : decode rL_stepsUntilArrival.2.1 19 = .ok (.ireturn, 1) := by decide +kernel
theorem eL_tripsWithin_0 : decode rL_tripsWithin.2.1 0 = .ok (.aload_n 2, 1) := by decide +kernel
theorem eL_tripsWithin_1 : decode rL_tripsWithin.2.1 1 = .ok (.iconst 0, 1) := by decide +kernel
theorem eL_tripsWithin_2 : decode rL_tripsWithin.2.1 2 = .ok (.aload_n 0, 1) := by decide +kernel
theorem eL_tripsWithin_3 : decode rL_tripsWithin.2.1 3 = .ok (.iload_n 1, 1) := by decide +kernel
theorem eL_tripsWithin_4 : decode rL_tripsWithin.2.1 4 = .ok (.invokevirtual 120, 3) := by decide +kernel
theorem eL_tripsWithin_7 : decode rL_tripsWithin.2.1 7 = .ok (.i2l, 1) := by decide +kernel
theorem eL_tripsWithin_8 : decode rL_tripsWithin.2.1 8 = .ok (.lastore, 1) := by decide +kernel
theorem eL_tripsWithin_9 : decode rL_tripsWithin.2.1 9 = .ok (.goto 6, 3) := by decide +kernel
theorem eL_tripsWithin_12 : decode rL_tripsWithin.2.1 12 = .ok (.astore_n 3, 1) := by decide +kernel
theorem eL_tripsWithin_13 : decode rL_tripsWithin.2.1 13 = .ok (.iconst 1, 1) := by decide +kernel
theorem eL_tripsWithin_14 : decode rL_tripsWithin.2.1 14 = .ok (.ireturn, 1) := by decide +kernel
theorem eL_tripsWithin_15 : decode rL_tripsWithin.2.1 15 = .ok (.iconst 0, 1) := by decide +kernel
theorem eL_tripsWithin_16 : decode rL_tripsWithin.2.1 16 = .ok (.ireturn, 1) := by decide +kernel
theorem eL_passengerByWaiting_0 : decode rL_passengerByWaiting.2.1 0 = .ok (.aload_n 2, 1) := by decide +kernel
theorem eL_passengerByWaiting_1 : decode rL_passengerByWaiting.2.1 1 = .ok (.iconst 0, 1) := by decide +kernel
theorem eL_passengerByWaiting_2 : decode rL_passengerByWaiting.2.1 2 = .ok (.aload_n 0, 1) := by decide +kernel
theorem eL_passengerByWaiting_3 : decode rL_passengerByWaiting.2.1 3 = .ok (.iload_n 1, 1) := by decide +kernel
theorem eL_passengerByWaiting_4 : decode rL_passengerByWaiting.2.1 4 = .ok (.invokevirtual 123, 3) := by decide +kernel
theorem eL_passengerByWaiting_7 : decode rL_passengerByWaiting.2.1 7 = .ok (.i2l, 1) := by decide +kernel
theorem eL_passengerByWaiting_8 : decode rL_passengerByWaiting.2.1 8 = .ok (.lastore, 1) := by decide +kernel
theorem eL_passengerByWaiting_9 : decode rL_passengerByWaiting.2.1 9 = .ok (.goto 6, 3) := by decide +kernel
theorem eL_passengerByWaiting_12 : decode rL_passengerByWaiting.2.1 12 = .ok (.astore_n 3, 1) := by decide +kernel
theorem eL_passengerByWaiting_13 : decode rL_passengerByWaiting.2.1 13 = .ok (.iconst 1, 1) := by decide +kernel
theorem eL_passengerByWaiting_14 : decode rL_passengerByWaiting.2.1 14 = .ok (.ireturn, 1) := by decide +kernel
theorem eL_passengerByWaiting_15 : decode rL_passengerByWaiting.2.1 15 = .ok (.iconst 0, 1) := by decide +kernel
theorem eL_passengerByWaiting_16 : decode rL_passengerByWaiting.2.1 16 = .ok (.ireturn, 1) := by decide +kernel
theorem eL_carByEnergy_0 : decode rL_carByEnergy.2.1 0 = .ok (.aload_n 2, 1) := by decide +kernel
theorem eL_carByEnergy_1 : decode rL_carByEnergy.2.1 1 = .ok (.iconst 0, 1) := by decide +kernel
theorem eL_carByEnergy_2 : decode rL_carByEnergy.2.1 2 = .ok (.aload_n 0, 1) := by decide +kernel
theorem eL_carByEnergy_3 : decode rL_carByEnergy.2.1 3 = .ok (.iload_n 1, 1) := by decide +kernel
theorem eL_carByEnergy_4 : decode rL_carByEnergy.2.1 4 = .ok (.invokevirtual 126, 3) := by decide +kernel
theorem eL_carByEnergy_7 : decode rL_carByEnergy.2.1 7 = .ok (.i2l, 1) := by decide +kernel
theorem eL_carByEnergy_8 : decode rL_carByEnergy.2.1 8 = .ok (.lastore, 1) := by decide +kernel
theorem eL_carByEnergy_9 : decode rL_carByEnergy.2.1 9 = .ok (.goto 6, 3) := by decide +kernel
theorem eL_carByEnergy_12 : decode rL_carByEnergy.2.1 12 = .ok (.astore_n 3, 1) := by decide +kernel
theorem eL_carByEnergy_13 : decode rL_carByEnergy.2.1 13 = .ok (.iconst 1, 1) := by decide +kernel
theorem eL_carByEnergy_14 : decode rL_carByEnergy.2.1 14 = .ok (.ireturn, 1) := by decide +kernel
theorem eL_carByEnergy_15 : decode rL_carByEnergy.2.1 15 = .ok (.iconst 0, 1) := by decide +kernel
theorem eL_carByEnergy_16 : decode rL_carByEnergy.2.1 16 = .ok (.ireturn, 1) := by decide +kernel
theorem eL_tripNumber_0 : decode rL_tripNumber.2.1 0 = .ok (.aload_n 2, 1) := by decide +kernel
theorem eL_tripNumber_1 : decode rL_tripNumber.2.1 1 = .ok (.iconst 0, 1) := by decide +kernel
theorem eL_tripNumber_2 : decode rL_tripNumber.2.1 2 = .ok (.aload_n 0, 1) := by decide +kernel
theorem eL_tripNumber_3 : decode rL_tripNumber.2.1 3 = .ok (.iload_n 1, 1) := by decide +kernel
theorem eL_tripNumber_4 : decode rL_tripNumber.2.1 4 = .ok (.invokevirtual 129, 3) := by decide +kernel
theorem eL_tripNumber_7 : decode rL_tripNumber.2.1 7 = .ok (.i2l, 1) := by decide +kernel
theorem eL_tripNumber_8 : decode rL_tripNumber.2.1 8 = .ok (.lastore, 1) := by decide +kernel
theorem eL_tripNumber_9 : decode rL_tripNumber.2.1 9 = .ok (.goto 6, 3) := by decide +kernel
theorem eL_tripNumber_12 : decode rL_tripNumber.2.1 12 = .ok (.astore_n 3, 1) := by decide +kernel
theorem eL_tripNumber_13 : decode rL_tripNumber.2.1 13 = .ok (.iconst 1, 1) := by decide +kernel
theorem eL_tripNumber_14 : decode rL_tripNumber.2.1 14 = .ok (.ireturn, 1) := by decide +kernel
theorem eL_tripNumber_15 : decode rL_tripNumber.2.1 15 = .ok (.iconst 0, 1) := by decide +kernel
theorem eL_tripNumber_16 : decode rL_tripNumber.2.1 16 = .ok (.ireturn, 1) := by decide +kernel
theorem eL_tripCar_0 : decode rL_tripCar.2.1 0 = .ok (.aload_n 2, 1) := by decide +kernel
theorem eL_tripCar_1 : decode rL_tripCar.2.1 1 = .ok (.iconst 0, 1) := by decide +kernel
theorem eL_tripCar_2 : decode rL_tripCar.2.1 2 = .ok (.aload_n 0, 1) := by decide +kernel
theorem eL_tripCar_3 : decode rL_tripCar.2.1 3 = .ok (.iload_n 1, 1) := by decide +kernel
theorem eL_tripCar_4 : decode rL_tripCar.2.1 4 = .ok (.invokevirtual 132, 3) := by decide +kernel
theorem eL_tripCar_7 : decode rL_tripCar.2.1 7 = .ok (.i2l, 1) := by decide +kernel
theorem eL_tripCar_8 : decode rL_tripCar.2.1 8 = .ok (.lastore, 1) := by decide +kernel
theorem eL_tripCar_9 : decode rL_tripCar.2.1 9 = .ok (.goto 6, 3) := by decide +kernel
theorem eL_tripCar_12 : decode rL_tripCar.2.1 12 = .ok (.astore_n 3, 1) := by decide +kernel
theorem eL_tripCar_13 : decode rL_tripCar.2.1 13 = .ok (.iconst 1, 1) := by decide +kernel
theorem eL_tripCar_14 : decode rL_tripCar.2.1 14 = .ok (.ireturn, 1) := by decide +kernel
theorem eL_tripCar_15 : decode rL_tripCar.2.1 15 = .ok (.iconst 0, 1) := by decide +kernel
theorem eL_tripCar_16 : decode rL_tripCar.2.1 16 = .ok (.ireturn, 1) := by decide +kernel
theorem eL_tripWaiting_0 : decode rL_tripWaiting.2.1 0 = .ok (.aload_n 2, 1) := by decide +kernel
theorem eL_tripWaiting_1 : decode rL_tripWaiting.2.1 1 = .ok (.iconst 0, 1) := by decide +kernel
theorem eL_tripWaiting_2 : decode rL_tripWaiting.2.1 2 = .ok (.aload_n 0, 1) := by decide +kernel
theorem eL_tripWaiting_3 : decode rL_tripWaiting.2.1 3 = .ok (.iload_n 1, 1) := by decide +kernel
theorem eL_tripWaiting_4 : decode rL_tripWaiting.2.1 4 = .ok (.invokevirtual 135, 3) := by decide +kernel
theorem eL_tripWaiting_7 : decode rL_tripWaiting.2.1 7 = .ok (.i2l, 1) := by decide +kernel
theorem eL_tripWaiting_8 : decode rL_tripWaiting.2.1 8 = .ok (.lastore, 1) := by decide +kernel
theorem eL_tripWaiting_9 : decode rL_tripWaiting.2.1 9 = .ok (.goto 6, 3) := by decide +kernel
theorem eL_tripWaiting_12 : decode rL_tripWaiting.2.1 12 = .ok (.astore_n 3, 1) := by decide +kernel
theorem eL_tripWaiting_13 : decode rL_tripWaiting.2.1 13 = .ok (.iconst 1, 1) := by decide +kernel
theorem eL_tripWaiting_14 : decode rL_tripWaiting.2.1 14 = .ok (.ireturn, 1) := by decide +kernel
theorem eL_tripWaiting_15 : decode rL_tripWaiting.2.1 15 = .ok (.iconst 0, 1) := by decide +kernel
theorem eL_tripWaiting_16 : decode rL_tripWaiting.2.1 16 = .ok (.ireturn, 1) := by decide +kernel
theorem eL_meanWaiting_0 : decode rL_meanWaiting.2.1 0 = .ok (.aload_n 1, 1) := by decide +kernel
theorem eL_meanWaiting_1 : decode rL_meanWaiting.2.1 1 = .ok (.iconst 0, 1) := by decide +kernel
theorem eL_meanWaiting_2 : decode rL_meanWaiting.2.1 2 = .ok (.aload_n 0, 1) := by decide +kernel
theorem eL_meanWaiting_3 : decode rL_meanWaiting.2.1 3 = .ok (.invokevirtual 138, 3) := by decide +kernel
theorem eL_meanWaiting_6 : decode rL_meanWaiting.2.1 6 = .ok (.dastore, 1) := by decide +kernel
theorem eL_meanWaiting_7 : decode rL_meanWaiting.2.1 7 = .ok (.goto 6, 3) := by decide +kernel
theorem eL_meanWaiting_10 : decode rL_meanWaiting.2.1 10 = .ok (.astore_n 2, 1) := by decide +kernel
theorem eL_meanWaiting_11 : decode rL_meanWaiting.2.1 11 = .ok (.iconst 1, 1) := by decide +kernel
theorem eL_meanWaiting_12 : decode rL_meanWaiting.2.1 12 = .ok (.ireturn, 1) := by decide +kernel
theorem eL_meanWaiting_13 : decode rL_meanWaiting.2.1 13 = .ok (.iconst 0, 1) := by decide +kernel
theorem eL_meanWaiting_14 : decode rL_meanWaiting.2.1 14 = .ok (.ireturn, 1) := by decide +kernel
theorem eL_loadShare_0 : decode rL_loadShare.2.1 0 = .ok (.aload_n 2, 1) := by decide +kernel
theorem eL_loadShare_1 : decode rL_loadShare.2.1 1 = .ok (.iconst 0, 1) := by decide +kernel
theorem eL_loadShare_2 : decode rL_loadShare.2.1 2 = .ok (.aload_n 0, 1) := by decide +kernel
theorem eL_loadShare_3 : decode rL_loadShare.2.1 3 = .ok (.iload_n 1, 1) := by decide +kernel
theorem eL_loadShare_4 : decode rL_loadShare.2.1 4 = .ok (.invokevirtual 144, 3) := by decide +kernel
theorem eL_loadShare_7 : decode rL_loadShare.2.1 7 = .ok (.f2d, 1) := by decide +kernel
theorem eL_loadShare_8 : decode rL_loadShare.2.1 8 = .ok (.dastore, 1) := by decide +kernel
theorem eL_loadShare_9 : decode rL_loadShare.2.1 9 = .ok (.goto 6, 3) := by decide +kernel
theorem eL_loadShare_12 : decode rL_loadShare.2.1 12 = .ok (.astore_n 3, 1) := by decide +kernel
theorem eL_loadShare_13 : decode rL_loadShare.2.1 13 = .ok (.iconst 1, 1) := by decide +kernel
theorem eL_loadShare_14 : decode rL_loadShare.2.1 14 = .ok (.ireturn, 1) := by decide +kernel
theorem eL_loadShare_15 : decode rL_loadShare.2.1 15 = .ok (.iconst 0, 1) := by decide +kernel
theorem eL_loadShare_16 : decode rL_loadShare.2.1 16 = .ok (.ireturn, 1) := by decide +kernel
theorem eL_renderCar_0 : decode rL_renderCar.2.1 0 = .ok (.aload_n 2, 1) := by decide +kernel
theorem eL_renderCar_1 : decode rL_renderCar.2.1 1 = .ok (.iconst 0, 1) := by decide +kernel
theorem eL_renderCar_2 : decode rL_renderCar.2.1 2 = .ok (.aload_n 0, 1) := by decide +kernel
theorem eL_renderCar_3 : decode rL_renderCar.2.1 3 = .ok (.iload_n 1, 1) := by decide +kernel
theorem eL_renderCar_4 : decode rL_renderCar.2.1 4 = .ok (.invokevirtual 148, 3) := by decide +kernel
theorem eL_renderCar_7 : decode rL_renderCar.2.1 7 = .ok (.i2l, 1) := by decide +kernel
theorem eL_renderCar_8 : decode rL_renderCar.2.1 8 = .ok (.lastore, 1) := by decide +kernel
theorem eL_renderCar_9 : decode rL_renderCar.2.1 9 = .ok (.goto 6, 3) := by decide +kernel
theorem eL_renderCar_12 : decode rL_renderCar.2.1 12 = .ok (.astore_n 3, 1) := by decide +kernel
theorem eL_renderCar_13 : decode rL_renderCar.2.1 13 = .ok (.iconst 1, 1) := by decide +kernel
theorem eL_renderCar_14 : decode rL_renderCar.2.1 14 = .ok (.ireturn, 1) := by decide +kernel
theorem eL_renderCar_15 : decode rL_renderCar.2.1 15 = .ok (.iconst 0, 1) := by decide +kernel
theorem eL_renderCar_16 : decode rL_renderCar.2.1 16 = .ok (.ireturn, 1) := by decide +kernel
theorem eL_outputAt_0 : decode rL_outputAt.2.1 0 = .ok (.aload_n 2, 1) := by decide +kernel
theorem eL_outputAt_1 : decode rL_outputAt.2.1 1 = .ok (.iconst 0, 1) := by decide +kernel
theorem eL_outputAt_2 : decode rL_outputAt.2.1 2 = .ok (.aload_n 0, 1) := by decide +kernel
theorem eL_outputAt_3 : decode rL_outputAt.2.1 3 = .ok (.iload_n 1, 1) := by decide +kernel
theorem eL_outputAt_4 : decode rL_outputAt.2.1 4 = .ok (.invokevirtual 151, 3) := by decide +kernel
theorem eL_outputAt_7 : decode rL_outputAt.2.1 7 = .ok (.i2l, 1) := by decide +kernel
theorem eL_outputAt_8 : decode rL_outputAt.2.1 8 = .ok (.lastore, 1) := by decide +kernel
theorem eL_outputAt_9 : decode rL_outputAt.2.1 9 = .ok (.goto 6, 3) := by decide +kernel
theorem eL_outputAt_12 : decode rL_outputAt.2.1 12 = .ok (.astore_n 3, 1) := by decide +kernel
theorem eL_outputAt_13 : decode rL_outputAt.2.1 13 = .ok (.iconst 1, 1) := by decide +kernel
theorem eL_outputAt_14 : decode rL_outputAt.2.1 14 = .ok (.ireturn, 1) := by decide +kernel
theorem eL_outputAt_15 : decode rL_outputAt.2.1 15 = .ok (.iconst 0, 1) := by decide +kernel
theorem eL_outputAt_16 : decode rL_outputAt.2.1 16 = .ok (.ireturn, 1) := by decide +kernel
theorem eL_type_0 : decode rL_type.2.1 0 = .ok (.aload_n 2, 1) := by decide +kernel
theorem eL_type_1 : decode rL_type.2.1 1 = .ok (.iconst 0, 1) := by decide +kernel
theorem eL_type_2 : decode rL_type.2.1 2 = .ok (.aload_n 0, 1) := by decide +kernel
theorem eL_type_3 : decode rL_type.2.1 3 = .ok (.iload_n 1, 1) := by decide +kernel
theorem eL_type_4 : decode rL_type.2.1 4 = .ok (.invokevirtual 155, 3) := by decide +kernel
theorem eL_type_7 : decode rL_type.2.1 7 = .ok (.i2l, 1) := by decide +kernel
theorem eL_type_8 : decode rL_type.2.1 8 = .ok (.lastore, 1) := by decide +kernel
theorem eL_type_9 : decode rL_type.2.1 9 = .ok (.goto 9, 3) := by decide +kernel
theorem eL_type_12 : decode rL_type.2.1 12 = .ok (.astore_n 3, 1) := by decide +kernel
theorem eL_type_13 : decode rL_type.2.1 13 = .ok (.iconst 1, 1) := by decide +kernel
theorem eL_type_14 : decode rL_type.2.1 14 = .ok (.ireturn, 1) := by decide +kernel
theorem eL_type_15 : decode rL_type.2.1 15 = .ok (.astore_n 3, 1) := by decide +kernel
theorem eL_type_16 : decode rL_type.2.1 16 = .ok (.iconst 2, 1) := by decide +kernel
theorem eL_type_17 : decode rL_type.2.1 17 = .ok (.ireturn, 1) := by decide +kernel
theorem eL_type_18 : decode rL_type.2.1 18 = .ok (.iconst 0, 1) := by decide +kernel
theorem eL_type_19 : decode rL_type.2.1 19 = .ok (.ireturn, 1) := by decide +kernel
theorem eL_runScript_0 : decode rL_runScript.2.1 0 = .ok (.aload_n 1, 1) := by decide +kernel
theorem eL_runScript_1 : decode rL_runScript.2.1 1 = .ok (.iconst 0, 1) := by decide +kernel
theorem eL_runScript_2 : decode rL_runScript.2.1 2 = .ok (.aload_n 0, 1) := by decide +kernel
theorem eL_runScript_3 : decode rL_runScript.2.1 3 = .ok (.invokevirtual 159, 3) := by decide +kernel
theorem eL_runScript_6 : decode rL_runScript.2.1 6 = .ok (.i2l, 1) := by decide +kernel
theorem eL_runScript_7 : decode rL_runScript.2.1 7 = .ok (.lastore, 1) := by decide +kernel
theorem eL_runScript_8 : decode rL_runScript.2.1 8 = .ok (.goto 9, 3) := by decide +kernel
theorem eL_runScript_11 : decode rL_runScript.2.1 11 = .ok (.astore_n 2, 1) := by decide +kernel
theorem eL_runScript_12 : decode rL_runScript.2.1 12 = .ok (.iconst 1, 1) := by decide +kernel
theorem eL_runScript_13 : decode rL_runScript.2.1 13 = .ok (.ireturn, 1) := by decide +kernel
theorem eL_runScript_14 : decode rL_runScript.2.1 14 = .ok (.astore_n 2, 1) := by decide +kernel
theorem eL_runScript_15 : decode rL_runScript.2.1 15 = .ok (.iconst 2, 1) := by decide +kernel
theorem eL_runScript_16 : decode rL_runScript.2.1 16 = .ok (.ireturn, 1) := by decide +kernel
theorem eL_runScript_17 : decode rL_runScript.2.1 17 = .ok (.iconst 0, 1) := by decide +kernel
theorem eL_runScript_18 : decode rL_runScript.2.1 18 = .ok (.ireturn, 1) := by decide +kernel
theorem eL_errorPosition_0 : decode rL_errorPosition.2.1 0 = .ok (.aload_n 1, 1) := by decide +kernel
theorem eL_errorPosition_1 : decode rL_errorPosition.2.1 1 = .ok (.iconst 0, 1) := by decide +kernel
theorem eL_errorPosition_2 : decode rL_errorPosition.2.1 2 = .ok (.aload_n 0, 1) := by decide +kernel
theorem eL_errorPosition_3 : decode rL_errorPosition.2.1 3 = .ok (.invokevirtual 163, 3) := by decide +kernel
theorem eL_errorPosition_6 : decode rL_errorPosition.2.1 6 = .ok (.i2l, 1) := by decide +kernel
theorem eL_errorPosition_7 : decode rL_errorPosition.2.1 7 = .ok (.lastore, 1) := by decide +kernel
theorem eL_errorPosition_8 : decode rL_errorPosition.2.1 8 = .ok (.goto 6, 3) := by decide +kernel
theorem eL_errorPosition_11 : decode rL_errorPosition.2.1 11 = .ok (.astore_n 2, 1) := by decide +kernel
theorem eL_errorPosition_12 : decode rL_errorPosition.2.1 12 = .ok (.iconst 1, 1) := by decide +kernel
theorem eL_errorPosition_13 : decode rL_errorPosition.2.1 13 = .ok (.ireturn, 1) := by decide +kernel
theorem eL_errorPosition_14 : decode rL_errorPosition.2.1 14 = .ok (.iconst 0, 1) := by decide +kernel
theorem eL_errorPosition_15 : decode rL_errorPosition.2.1 15 = .ok (.ireturn, 1) := by decide +kernel
theorem eL_failedCommand_0 : decode rL_failedCommand.2.1 0 = .ok (.aload_n 1, 1) := by decide +kernel
theorem eL_failedCommand_1 : decode rL_failedCommand.2.1 1 = .ok (.iconst 0, 1) := by decide +kernel
theorem eL_failedCommand_2 : decode rL_failedCommand.2.1 2 = .ok (.aload_n 0, 1) := by decide +kernel
theorem eL_failedCommand_3 : decode rL_failedCommand.2.1 3 = .ok (.invokevirtual 166, 3) := by decide +kernel
theorem eL_failedCommand_6 : decode rL_failedCommand.2.1 6 = .ok (.i2l, 1) := by decide +kernel
theorem eL_failedCommand_7 : decode rL_failedCommand.2.1 7 = .ok (.lastore, 1) := by decide +kernel
theorem eL_failedCommand_8 : decode rL_failedCommand.2.1 8 = .ok (.goto 6, 3) := by decide +kernel
theorem eL_failedCommand_11 : decode rL_failedCommand.2.1 11 = .ok (.astore_n 2, 1) := by decide +kernel
theorem eL_failedCommand_12 : decode rL_failedCommand.2.1 12 = .ok (.iconst 1, 1) := by decide +kernel
theorem eL_failedCommand_13 : decode rL_failedCommand.2.1 13 = .ok (.ireturn, 1) := by decide +kernel
theorem eL_failedCommand_14 : decode rL_failedCommand.2.1 14 = .ok (.iconst 0, 1) := by decide +kernel
theorem eL_failedCommand_15 : decode rL_failedCommand.2.1 15 = .ok (.ireturn, 1) := by decide +kernel
theorem eL_undo_0 : decode rL_undo.2.1 0 = .ok (.aload_n 1, 1) := by decide +kernel
theorem eL_undo_1 : decode rL_undo.2.1 1 = .ok (.iconst 0, 1) := by decide +kernel
theorem eL_undo_2 : decode rL_undo.2.1 2 = .ok (.aload_n 0, 1) := by decide +kernel
theorem eL_undo_3 : decode rL_undo.2.1 3 = .ok (.invokevirtual 169, 3) := by decide +kernel
theorem eL_undo_6 : decode rL_undo.2.1 6 = .ok (.i2l, 1) := by decide +kernel
theorem eL_undo_7 : decode rL_undo.2.1 7 = .ok (.lastore, 1) := by decide +kernel
theorem eL_undo_8 : decode rL_undo.2.1 8 = .ok (.goto 6, 3) := by decide +kernel
theorem eL_undo_11 : decode rL_undo.2.1 11 = .ok (.astore_n 2, 1) := by decide +kernel
theorem eL_undo_12 : decode rL_undo.2.1 12 = .ok (.iconst 1, 1) := by decide +kernel
theorem eL_undo_13 : decode rL_undo.2.1 13 = .ok (.ireturn, 1) := by decide +kernel
theorem eL_undo_14 : decode rL_undo.2.1 14 = .ok (.iconst 0, 1) := by decide +kernel
theorem eL_undo_15 : decode rL_undo.2.1 15 = .ok (.ireturn, 1) := by decide +kernel
theorem eL_restore_0 : decode rL_restore.2.1 0 = .ok (.aload_n 1, 1) := by decide +kernel
theorem eL_restore_1 : decode rL_restore.2.1 1 = .ok (.iconst 0, 1) := by decide +kernel
theorem eL_restore_2 : decode rL_restore.2.1 2 = .ok (.aload_n 0, 1) := by decide +kernel
theorem eL_restore_3 : decode rL_restore.2.1 3 = .ok (.invokevirtual 172, 3) := by decide +kernel
theorem eL_restore_6 : decode rL_restore.2.1 6 = .ok (.i2l, 1) := by decide +kernel
theorem eL_restore_7 : decode rL_restore.2.1 7 = .ok (.lastore, 1) := by decide +kernel
theorem eL_restore_8 : decode rL_restore.2.1 8 = .ok (.goto 6, 3) := by decide +kernel
theorem eL_restore_11 : decode rL_restore.2.1 11 = .ok (.astore_n 2, 1) := by decide +kernel
theorem eL_restore_12 : decode rL_restore.2.1 12 = .ok (.iconst 1, 1) := by decide +kernel
theorem eL_restore_13 : decode rL_restore.2.1 13 = .ok (.ireturn, 1) := by decide +kernel
theorem eL_restore_14 : decode rL_restore.2.1 14 = .ok (.iconst 0, 1) := by decide +kernel
theorem eL_restore_15 : decode rL_restore.2.1 15 = .ok (.ireturn, 1) := by decide +kernel
