theorem dX2_init_0 : decode cX2_init 0 = .ok (.aload_n 0, 1) := by decide +kernel
theorem dX2_init_1 : decode cX2_init 1 = .ok (.invokespecial 3, 3) := by decide +kernel
theorem dX2_init_4 : decode cX2_init 4 = .ok (.aload_n 0, 1) := by decide +kernel
theorem dX2_init_5 : decode cX2_init 5 = .ok (.new 9, 3) := by decide +kernel
theorem dX2_init_8 : decode cX2_init 8 = .ok (.dup, 1) := by decide +kernel
theorem dX2_init_9 : decode cX2_init 9 = .ok (.invokespecial 11, 3) := by decide +kernel
theorem dX2_init_12 : decode cX2_init 12 = .ok (.putfield 12, 3) := by decide +kernel
theorem dX2_init_15 : decode cX2_init 15 = .ok (.aload_n 0, 1) := by decide +kernel
theorem dX2_init_16 : decode cX2_init 16 = .ok (.new 9, 3) := by decide +kernel
theorem dX2_init_19 : decode cX2_init 19 = .ok (.dup, 1) := by decide +kernel
theorem dX2_init_20 : decode cX2_init 20 = .ok (.invokespecial 11, 3) := by decide +kernel
theorem dX2_init_23 : decode cX2_init 23 = .ok (.putfield 16, 3) := by decide +kernel
theorem dX2_init_26 : decode cX2_init 26 = .ok (.aload_n 0, 1) := by decide +kernel
theorem dX2_init_27 : decode cX2_init 27 = .ok (.new 19, 3) := by decide +kernel
theorem dX2_init_30 : decode cX2_init 30 = .ok (.dup, 1) := by decide +kernel
theorem dX2_init_31 : decode cX2_init 31 = .ok (.invokespecial 21, 3) := by decide +kernel
theorem dX2_init_34 : decode cX2_init 34 = .ok (.putfield 22, 3) := by decide +kernel
theorem dX2_init_37 : decode cX2_init 37 = .ok (.aload_n 0, 1) := by decide +kernel
theorem dX2_init_38 : decode cX2_init 38 = .ok (.new 26, 3) := by decide +kernel
theorem dX2_init_41 : decode cX2_init 41 = .ok (.dup, 1) := by decide +kernel
theorem dX2_init_42 : decode cX2_init 42 = .ok (.invokespecial 28, 3) := by decide +kernel
theorem dX2_init_45 : decode cX2_init 45 = .ok (.putfield 29, 3) := by decide +kernel
theorem dX2_init_48 : decode cX2_init 48 = .ok (.aload_n 0, 1) := by decide +kernel
theorem dX2_init_49 : decode cX2_init 49 = .ok (.bipush 10, 2) := by decide +kernel
theorem dX2_init_51 : decode cX2_init 51 = .ok (.putfield 33, 3) := by decide +kernel
theorem dX2_init_54 : decode cX2_init 54 = .ok (.return_, 1) := by decide +kernel
theorem dX2_addDisk_0 : decode cX2_addDisk 0 = .ok (.iload_n 1, 1) := by decide +kernel
theorem dX2_addDisk_1 : decode cX2_addDisk 1 = .ok (.iconst 1, 1) := by decide +kernel
theorem dX2_addDisk_2 : decode cX2_addDisk 2 = .ok (.if_icmp .lt 9, 3) := by decide +kernel
theorem dX2_addDisk_5 : decode cX2_addDisk 5 = .ok (.iload_n 1, 1) := by decide +kernel
theorem dX2_addDisk_6 : decode cX2_addDisk 6 = .ok (.bipush 32, 2) := by decide +kernel
theorem dX2_addDisk_8 : decode cX2_addDisk 8 = .ok (.if_icmp .le 13, 3) := by decide +kernel
theorem dX2_addDisk_11 : decode cX2_addDisk 11 = .ok (.new 37, 3) := by decide +kernel
theorem dX2_addDisk_14 : decode cX2_addDisk 14 = .ok (.dup, 1) := by decide +kernel
theorem dX2_addDisk_15 : decode cX2_addDisk 15 = .ok (.ldc 39, 2) := by decide +kernel
theorem dX2_addDisk_17 : decode cX2_addDisk 17 = .ok (.invokespecial 41, 3) := by decide +kernel
theorem dX2_addDisk_20 : decode cX2_addDisk 20 = .ok (.athrow, 1) := by decide +kernel
theorem dX2_addDisk_21 : decode cX2_addDisk 21 = .ok (.aload_n 0, 1) := by decide +kernel
theorem dX2_addDisk_22 : decode cX2_addDisk 22 = .ok (.getfield 12, 3) := by decide +kernel
theorem dX2_addDisk_25 : decode cX2_addDisk 25 = .ok (.getfield 44, 3) := by decide +kernel
theorem dX2_addDisk_28 : decode cX2_addDisk 28 = .ok (.bipush 8, 2) := by decide +kernel
theorem dX2_addDisk_30 : decode cX2_addDisk 30 = .ok (.if_icmp .lt 13, 3) := by decide +kernel
theorem dX2_addDisk_33 : decode cX2_addDisk 33 = .ok (.new 47, 3) := by decide +kernel
theorem dX2_addDisk_36 : decode cX2_addDisk 36 = .ok (.dup, 1) := by decide +kernel
theorem dX2_addDisk_37 : decode cX2_addDisk 37 = .ok (.ldc 49, 2) := by decide +kernel
theorem dX2_addDisk_39 : decode cX2_addDisk 39 = .ok (.invokespecial 51, 3) := by decide +kernel
theorem dX2_addDisk_42 : decode cX2_addDisk 42 = .ok (.athrow, 1) := by decide +kernel
theorem dX2_addDisk_43 : decode cX2_addDisk 43 = .ok (.aload_n 0, 1) := by decide +kernel
theorem dX2_addDisk_44 : decode cX2_addDisk 44 = .ok (.getfield 12, 3) := by decide +kernel
theorem dX2_addDisk_47 : decode cX2_addDisk 47 = .ok (.iload_n 1, 1) := by decide +kernel
theorem dX2_addDisk_48 : decode cX2_addDisk 48 = .ok (.invokevirtual 52, 3) := by decide +kernel
theorem dX2_addDisk_51 : decode cX2_addDisk 51 = .ok (.ireturn, 1) := by decide +kernel
theorem dX2_diskCount_0 : decode cX2_diskCount 0 = .ok (.aload_n 0, 1) := by decide +kernel
theorem dX2_diskCount_1 : decode cX2_diskCount 1 = .ok (.getfield 12, 3) := by decide +kernel
theorem dX2_diskCount_4 : decode cX2_diskCount 4 = .ok (.getfield 44, 3) := by decide +kernel
theorem dX2_diskCount_7 : decode cX2_diskCount 7 = .ok (.ireturn, 1) := by decide +kernel
theorem dX2_diskState_0 : decode cX2_diskState 0 = .ok (.aload_n 0, 1) := by decide +kernel
theorem dX2_diskState_1 : decode cX2_diskState 1 = .ok (.iload_n 1, 1) := by decide +kernel
theorem dX2_diskState_2 : decode cX2_diskState 2 = .ok (.invokevirtual 56, 3) := by decide +kernel
theorem dX2_diskState_5 : decode cX2_diskState 5 = .ok (.aload_n 0, 1) := by decide +kernel
theorem dX2_diskState_6 : decode cX2_diskState 6 = .ok (.getfield 12, 3) := by decide +kernel
theorem dX2_diskState_9 : decode cX2_diskState 9 = .ok (.getfield 60, 3) := by decide +kernel
theorem dX2_diskState_12 : decode cX2_diskState 12 = .ok (.iload_n 1, 1) := by decide +kernel
theorem dX2_diskState_13 : decode cX2_diskState 13 = .ok (.caload, 1) := by decide +kernel
theorem dX2_diskState_14 : decode cX2_diskState 14 = .ok (.ireturn, 1) := by decide +kernel
theorem dX2_usedOn_0 : decode cX2_usedOn 0 = .ok (.aload_n 0, 1) := by decide +kernel
theorem dX2_usedOn_1 : decode cX2_usedOn 1 = .ok (.iload_n 1, 1) := by decide +kernel
theorem dX2_usedOn_2 : decode cX2_usedOn 2 = .ok (.invokevirtual 56, 3) := by decide +kernel
theorem dX2_usedOn_5 : decode cX2_usedOn 5 = .ok (.aload_n 0, 1) := by decide +kernel
theorem dX2_usedOn_6 : decode cX2_usedOn 6 = .ok (.getfield 12, 3) := by decide +kernel
theorem dX2_usedOn_9 : decode cX2_usedOn 9 = .ok (.getfield 64, 3) := by decide +kernel
theorem dX2_usedOn_12 : decode cX2_usedOn 12 = .ok (.iload_n 1, 1) := by decide +kernel
theorem dX2_usedOn_13 : decode cX2_usedOn 13 = .ok (.iaload, 1) := by decide +kernel
theorem dX2_usedOn_14 : decode cX2_usedOn 14 = .ok (.ireturn, 1) := by decide +kernel
theorem dX2_addTenant_0 : decode cX2_addTenant 0 = .ok (.iload_n 1, 1) := by decide +kernel
theorem dX2_addTenant_1 : decode cX2_addTenant 1 = .ok (.iconst 1, 1) := by decide +kernel
theorem dX2_addTenant_2 : decode cX2_addTenant 2 = .ok (.if_icmp .lt 8, 3) := by decide +kernel
theorem dX2_addTenant_5 : decode cX2_addTenant 5 = .ok (.iload_n 1, 1) := by decide +kernel
theorem dX2_addTenant_6 : decode cX2_addTenant 6 = .ok (.iconst 3, 1) := by decide +kernel
theorem dX2_addTenant_7 : decode cX2_addTenant 7 = .ok (.if_icmp .le 13, 3) := by decide +kernel
theorem dX2_addTenant_10 : decode cX2_addTenant 10 = .ok (.new 37, 3) := by decide +kernel
theorem dX2_addTenant_13 : decode cX2_addTenant 13 = .ok (.dup, 1) := by decide +kernel
theorem dX2_addTenant_14 : decode cX2_addTenant 14 = .ok (.ldc 68, 2) := by decide +kernel
theorem dX2_addTenant_16 : decode cX2_addTenant 16 = .ok (.invokespecial 41, 3) := by decide +kernel
theorem dX2_addTenant_19 : decode cX2_addTenant 19 = .ok (.athrow, 1) := by decide +kernel
theorem dX2_addTenant_20 : decode cX2_addTenant 20 = .ok (.iload_n 2, 1) := by decide +kernel
theorem dX2_addTenant_21 : decode cX2_addTenant 21 = .ok (.ifCond .lt 9, 3) := by decide +kernel
theorem dX2_addTenant_24 : decode cX2_addTenant 24 = .ok (.iload_n 2, 1) := by decide +kernel
theorem dX2_addTenant_25 : decode cX2_addTenant 25 = .ok (.bipush 20, 2) := by decide +kernel
theorem dX2_addTenant_27 : decode cX2_addTenant 27 = .ok (.if_icmp .le 13, 3) := by decide +kernel
theorem dX2_addTenant_30 : decode cX2_addTenant 30 = .ok (.new 37, 3) := by decide +kernel
theorem dX2_addTenant_33 : decode cX2_addTenant 33 = .ok (.dup, 1) := by decide +kernel
theorem dX2_addTenant_34 : decode cX2_addTenant 34 = .ok (.ldc 70, 2) := by decide +kernel
theorem dX2_addTenant_36 : decode cX2_addTenant 36 = .ok (.invokespecial 41, 3) := by decide +kernel
theorem dX2_addTenant_39 : decode cX2_addTenant 39 = .ok (.athrow, 1) := by decide +kernel
theorem dX2_addTenant_40 : decode cX2_addTenant 40 = .ok (.aload_n 0, 1) := by decide +kernel
theorem dX2_addTenant_41 : decode cX2_addTenant 41 = .ok (.getfield 22, 3) := by decide +kernel
theorem dX2_addTenant_44 : decode cX2_addTenant 44 = .ok (.getfield 72, 3) := by decide +kernel
theorem dX2_addTenant_47 : decode cX2_addTenant 47 = .ok (.iconst 4, 1) := by decide +kernel
theorem dX2_addTenant_48 : decode cX2_addTenant 48 = .ok (.if_icmp .lt 13, 3) := by decide +kernel
theorem dX2_addTenant_51 : decode cX2_addTenant 51 = .ok (.new 47, 3) := by decide +kernel
theorem dX2_addTenant_54 : decode cX2_addTenant 54 = .ok (.dup, 1) := by decide +kernel
theorem dX2_addTenant_55 : decode cX2_addTenant 55 = .ok (.ldc 75, 2) := by decide +kernel
theorem dX2_addTenant_57 : decode cX2_addTenant 57 = .ok (.invokespecial 51, 3) := by decide +kernel
theorem dX2_addTenant_60 : decode cX2_addTenant 60 = .ok (.athrow, 1) := by decide +kernel
theorem dX2_addTenant_61 : decode cX2_addTenant 61 = .ok (.aload_n 0, 1) := by decide +kernel
theorem dX2_addTenant_62 : decode cX2_addTenant 62 = .ok (.getfield 22, 3) := by decide +kernel
theorem dX2_addTenant_65 : decode cX2_addTenant 65 = .ok (.iload_n 2, 1) := by decide +kernel
theorem dX2_addTenant_66 : decode cX2_addTenant 66 = .ok (.invokevirtual 77, 3) := by decide +kernel
theorem dX2_addTenant_69 : decode cX2_addTenant 69 = .ok (.istore_n 3, 1) := by decide +kernel
theorem dX2_addTenant_70 : decode cX2_addTenant 70 = .ok (.aload_n 0, 1) := by decide +kernel
theorem dX2_addTenant_71 : decode cX2_addTenant 71 = .ok (.getfield 12, 3) := by decide +kernel
theorem dX2_addTenant_74 : decode cX2_addTenant 74 = .ok (.getfield 80, 3) := by decide +kernel
theorem dX2_addTenant_77 : decode cX2_addTenant 77 = .ok (.iload_n 3, 1) := by decide +kernel
theorem dX2_addTenant_78 : decode cX2_addTenant 78 = .ok (.iload_n 1, 1) := by decide +kernel
theorem dX2_addTenant_79 : decode cX2_addTenant 79 = .ok (.iastore, 1) := by decide +kernel
theorem dX2_addTenant_80 : decode cX2_addTenant 80 = .ok (.iload_n 3, 1) := by decide +kernel
theorem dX2_addTenant_81 : decode cX2_addTenant 81 = .ok (.ireturn, 1) := by decide +kernel
theorem dX2_tenantCount_0 : decode cX2_tenantCount 0 = .ok (.aload_n 0, 1) := by decide +kernel
theorem dX2_tenantCount_1 : decode cX2_tenantCount 1 = .ok (.getfield 22, 3) := by decide +kernel
theorem dX2_tenantCount_4 : decode cX2_tenantCount 4 = .ok (.getfield 72, 3) := by decide +kernel
theorem dX2_tenantCount_7 : decode cX2_tenantCount 7 = .ok (.ireturn, 1) := by decide +kernel
theorem dX2_setHurry_0 : decode cX2_setHurry 0 = .ok (.iload_n 1, 1) := by decide +kernel
theorem dX2_setHurry_1 : decode cX2_setHurry 1 = .ok (.ifCond .lt 9, 3) := by decide +kernel
theorem dX2_setHurry_4 : decode cX2_setHurry 4 = .ok (.iload_n 1, 1) := by decide +kernel
theorem dX2_setHurry_5 : decode cX2_setHurry 5 = .ok (.bipush 20, 2) := by decide +kernel
theorem dX2_setHurry_7 : decode cX2_setHurry 7 = .ok (.if_icmp .le 13, 3) := by decide +kernel
theorem dX2_setHurry_10 : decode cX2_setHurry 10 = .ok (.new 37, 3) := by decide +kernel
theorem dX2_setHurry_13 : decode cX2_setHurry 13 = .ok (.dup, 1) := by decide +kernel
theorem dX2_setHurry_14 : decode cX2_setHurry 14 = .ok (.ldc 83, 2) := by decide +kernel
theorem dX2_setHurry_16 : decode cX2_setHurry 16 = .ok (.invokespecial 41, 3) := by decide +kernel
theorem dX2_setHurry_19 : decode cX2_setHurry 19 = .ok (.athrow, 1) := by decide +kernel
theorem dX2_setHurry_20 : decode cX2_setHurry 20 = .ok (.aload_n 0, 1) := by decide +kernel
theorem dX2_setHurry_21 : decode cX2_setHurry 21 = .ok (.getfield 33, 3) := by decide +kernel
theorem dX2_setHurry_24 : decode cX2_setHurry 24 = .ok (.istore_n 2, 1) := by decide +kernel
theorem dX2_setHurry_25 : decode cX2_setHurry 25 = .ok (.aload_n 0, 1) := by decide +kernel
theorem dX2_setHurry_26 : decode cX2_setHurry 26 = .ok (.iload_n 1, 1) := by decide +kernel
theorem dX2_setHurry_27 : decode cX2_setHurry 27 = .ok (.putfield 33, 3) := by decide +kernel
theorem dX2_setHurry_30 : decode cX2_setHurry 30 = .ok (.iload_n 2, 1) := by decide +kernel
theorem dX2_setHurry_31 : decode cX2_setHurry 31 = .ok (.ireturn, 1) := by decide +kernel
theorem dX2_read_0 : decode cX2_read 0 = .ok (.aload_n 0, 1) := by decide +kernel
theorem dX2_read_1 : decode cX2_read 1 = .ok (.iload_n 1, 1) := by decide +kernel
theorem dX2_read_2 : decode cX2_read 2 = .ok (.iload_n 2, 1) := by decide +kernel
theorem dX2_read_3 : decode cX2_read 3 = .ok (.invokevirtual 85, 3) := by decide +kernel
theorem dX2_read_6 : decode cX2_read 6 = .ok (.aload_n 0, 1) := by decide +kernel
theorem dX2_read_7 : decode cX2_read 7 = .ok (.invokevirtual 89, 3) := by decide +kernel
theorem dX2_read_10 : decode cX2_read 10 = .ok (.aload_n 0, 1) := by decide +kernel
theorem dX2_read_11 : decode cX2_read 11 = .ok (.getfield 22, 3) := by decide +kernel
theorem dX2_read_14 : decode cX2_read 14 = .ok (.iload_n 1, 1) := by decide +kernel
theorem dX2_read_15 : decode cX2_read 15 = .ok (.iload_n 1, 1) := by decide +kernel
theorem dX2_read_16 : decode cX2_read 16 = .ok (.iload_n 2, 1) := by decide +kernel
theorem dX2_read_17 : decode cX2_read 17 = .ok (.invokestatic 92, 3) := by decide +kernel
theorem dX2_read_20 : decode cX2_read 20 = .ok (.iconst 0, 1) := by decide +kernel
theorem dX2_read_21 : decode cX2_read 21 = .ok (.iconst 0, 1) := by decide +kernel
theorem dX2_read_22 : decode cX2_read 22 = .ok (.invokevirtual 96, 3) := by decide +kernel
theorem dX2_read_25 : decode cX2_read 25 = .ok (.ireturn, 1) := by decide +kernel
theorem dX2_write_0 : decode cX2_write 0 = .ok (.aload_n 0, 1) := by decide +kernel
theorem dX2_write_1 : decode cX2_write 1 = .ok (.iload_n 1, 1) := by decide +kernel
theorem dX2_write_2 : decode cX2_write 2 = .ok (.iload_n 2, 1) := by decide +kernel
theorem dX2_write_3 : decode cX2_write 3 = .ok (.invokevirtual 85, 3) := by decide +kernel
theorem dX2_write_6 : decode cX2_write 6 = .ok (.iload_n 3, 1) := by decide +kernel
theorem dX2_write_7 : decode cX2_write 7 = .ok (.ifCond .lt 10, 3) := by decide +kernel
theorem dX2_write_10 : decode cX2_write 10 = .ok (.iload_n 3, 1) := by decide +kernel
theorem dX2_write_11 : decode cX2_write 11 = .ok (.sipush 9999, 3) := by decide +kernel
theorem dX2_write_14 : decode cX2_write 14 = .ok (.if_icmp .le 13, 3) := by decide +kernel
theorem dX2_write_17 : decode cX2_write 17 = .ok (.new 37, 3) := by decide +kernel
theorem dX2_write_20 : decode cX2_write 20 = .ok (.dup, 1) := by decide +kernel
theorem dX2_write_21 : decode cX2_write 21 = .ok (.ldc 100, 2) := by decide +kernel
theorem dX2_write_23 : decode cX2_write 23 = .ok (.invokespecial 41, 3) := by decide +kernel
theorem dX2_write_26 : decode cX2_write 26 = .ok (.athrow, 1) := by decide +kernel
theorem dX2_write_27 : decode cX2_write 27 = .ok (.aload_n 0, 1) := by decide +kernel
theorem dX2_write_28 : decode cX2_write 28 = .ok (.invokevirtual 89, 3) := by decide +kernel
theorem dX2_write_31 : decode cX2_write 31 = .ok (.aload_n 0, 1) := by decide +kernel
theorem dX2_write_32 : decode cX2_write 32 = .ok (.getfield 22, 3) := by decide +kernel
theorem dX2_write_35 : decode cX2_write 35 = .ok (.iload_n 1, 1) := by decide +kernel
theorem dX2_write_36 : decode cX2_write 36 = .ok (.iload_n 1, 1) := by decide +kernel
theorem dX2_write_37 : decode cX2_write 37 = .ok (.iload_n 2, 1) := by decide +kernel
theorem dX2_write_38 : decode cX2_write 38 = .ok (.invokestatic 92, 3) := by decide +kernel
theorem dX2_write_41 : decode cX2_write 41 = .ok (.iconst 1, 1) := by decide +kernel
theorem dX2_write_42 : decode cX2_write 42 = .ok (.iload_n 3, 1) := by decide +kernel
theorem dX2_write_43 : decode cX2_write 43 = .ok (.invokevirtual 96, 3) := by decide +kernel
theorem dX2_write_46 : decode cX2_write 46 = .ok (.ireturn, 1) := by decide +kernel
theorem dX2_stateOf_0 : decode cX2_stateOf 0 = .ok (.aload_n 0, 1) := by decide +kernel
theorem dX2_stateOf_1 : decode cX2_stateOf 1 = .ok (.iload_n 1, 1) := by decide +kernel
theorem dX2_stateOf_2 : decode cX2_stateOf 2 = .ok (.invokevirtual 102, 3) := by decide +kernel
theorem dX2_stateOf_5 : decode cX2_stateOf 5 = .ok (.aload_n 0, 1) := by decide +kernel
theorem dX2_stateOf_6 : decode cX2_stateOf 6 = .ok (.getfield 22, 3) := by decide +kernel
theorem dX2_stateOf_9 : decode cX2_stateOf 9 = .ok (.getfield 105, 3) := by decide +kernel
theorem dX2_stateOf_12 : decode cX2_stateOf 12 = .ok (.iload_n 1, 1) := by decide +kernel
theorem dX2_stateOf_13 : decode cX2_stateOf 13 = .ok (.caload, 1) := by decide +kernel
theorem dX2_stateOf_14 : decode cX2_stateOf 14 = .ok (.ireturn, 1) := by decide +kernel
theorem dX2_answerTo_0 : decode cX2_answerTo 0 = .ok (.aload_n 0, 1) := by decide +kernel
theorem dX2_answerTo_1 : decode cX2_answerTo 1 = .ok (.iload_n 1, 1) := by decide +kernel
theorem dX2_answerTo_2 : decode cX2_answerTo 2 = .ok (.invokevirtual 102, 3) := by decide +kernel
theorem dX2_answerTo_5 : decode cX2_answerTo 5 = .ok (.aload_n 0, 1) := by decide +kernel
theorem dX2_answerTo_6 : decode cX2_answerTo 6 = .ok (.getfield 22, 3) := by decide +kernel
theorem dX2_answerTo_9 : decode cX2_answerTo 9 = .ok (.getfield 106, 3) := by decide +kernel
theorem dX2_answerTo_12 : decode cX2_answerTo 12 = .ok (.iload_n 1, 1) := by decide +kernel
theorem dX2_answerTo_13 : decode cX2_answerTo 13 = .ok (.baload, 1) := by decide +kernel
theorem dX2_answerTo_14 : decode cX2_answerTo 14 = .ok (.ifCond .ne 17, 3) := by decide +kernel
theorem dX2_answerTo_17 : decode cX2_answerTo 17 = .ok (.aload_n 0, 1) := by decide +kernel
theorem dX2_answerTo_18 : decode cX2_answerTo 18 = .ok (.getfield 22, 3) := by decide +kernel
theorem dX2_answerTo_21 : decode cX2_answerTo 21 = .ok (.getfield 105, 3) := by decide +kernel
theorem dX2_answerTo_24 : decode cX2_answerTo 24 = .ok (.iload_n 1, 1) := by decide +kernel
theorem dX2_answerTo_25 : decode cX2_answerTo 25 = .ok (.caload, 1) := by decide +kernel
theorem dX2_answerTo_26 : decode cX2_answerTo 26 = .ok (.bipush 100, 2) := by decide +kernel
theorem dX2_answerTo_28 : decode cX2_answerTo 28 = .ok (.if_icmp .eq 13, 3) := by decide +kernel
theorem dX2_answerTo_31 : decode cX2_answerTo 31 = .ok (.new 110, 3) := by decide +kernel
theorem dX2_answerTo_34 : decode cX2_answerTo 34 = .ok (.dup, 1) := by decide +kernel
theorem dX2_answerTo_35 : decode cX2_answerTo 35 = .ok (.ldc 112, 2) := by decide +kernel
theorem dX2_answerTo_37 : decode cX2_answerTo 37 = .ok (.invokespecial 114, 3) := by decide +kernel
theorem dX2_answerTo_40 : decode cX2_answerTo 40 = .ok (.athrow, 1) := by decide +kernel
theorem dX2_answerTo_41 : decode cX2_answerTo 41 = .ok (.aload_n 0, 1) := by decide +kernel
theorem dX2_answerTo_42 : decode cX2_answerTo 42 = .ok (.getfield 22, 3) := by decide +kernel
theorem dX2_answerTo_45 : decode cX2_answerTo 45 = .ok (.getfield 115, 3) := by decide +kernel
theorem dX2_answerTo_48 : decode cX2_answerTo 48 = .ok (.iload_n 1, 1) := by decide +kernel
theorem dX2_answerTo_49 : decode cX2_answerTo 49 = .ok (.iaload, 1) := by decide +kernel
theorem dX2_answerTo_50 : decode cX2_answerTo 50 = .ok (.ireturn, 1) := by decide +kernel
theorem dX2_waitingOf_0 : decode cX2_waitingOf 0 = .ok (.aload_n 0, 1) := by decide +kernel
theorem dX2_waitingOf_1 : decode cX2_waitingOf 1 = .ok (.iload_n 1, 1) := by decide +kernel
theorem dX2_waitingOf_2 : decode cX2_waitingOf 2 = .ok (.invokevirtual 118, 3) := by decide +kernel
theorem dX2_waitingOf_5 : decode cX2_waitingOf 5 = .ok (.aload_n 0, 1) := by decide +kernel
theorem dX2_waitingOf_6 : decode cX2_waitingOf 6 = .ok (.getfield 22, 3) := by decide +kernel
theorem dX2_waitingOf_9 : decode cX2_waitingOf 9 = .ok (.iload_n 1, 1) := by decide +kernel
theorem dX2_waitingOf_10 : decode cX2_waitingOf 10 = .ok (.invokevirtual 121, 3) := by decide +kernel
theorem dX2_waitingOf_13 : decode cX2_waitingOf 13 = .ok (.ireturn, 1) := by decide +kernel
theorem dX2_servedOf_0 : decode cX2_servedOf 0 = .ok (.aload_n 0, 1) := by decide +kernel
theorem dX2_servedOf_1 : decode cX2_servedOf 1 = .ok (.iload_n 1, 1) := by decide +kernel
theorem dX2_servedOf_2 : decode cX2_servedOf 2 = .ok (.invokevirtual 118, 3) := by decide +kernel
theorem dX2_servedOf_5 : decode cX2_servedOf 5 = .ok (.aload_n 0, 1) := by decide +kernel
theorem dX2_servedOf_6 : decode cX2_servedOf 6 = .ok (.getfield 22, 3) := by decide +kernel
theorem dX2_servedOf_9 : decode cX2_servedOf 9 = .ok (.getfield 124, 3) := by decide +kernel
theorem dX2_servedOf_12 : decode cX2_servedOf 12 = .ok (.iload_n 1, 1) := by decide +kernel
theorem dX2_servedOf_13 : decode cX2_servedOf 13 = .ok (.iaload, 1) := by decide +kernel
theorem dX2_servedOf_14 : decode cX2_servedOf 14 = .ok (.ireturn, 1) := by decide +kernel
theorem dX2_creditsOf_0 : decode cX2_creditsOf 0 = .ok (.aload_n 0, 1) := by decide +kernel
theorem dX2_creditsOf_1 : decode cX2_creditsOf 1 = .ok (.iload_n 1, 1) := by decide +kernel
theorem dX2_creditsOf_2 : decode cX2_creditsOf 2 = .ok (.invokevirtual 118, 3) := by decide +kernel
theorem dX2_creditsOf_5 : decode cX2_creditsOf 5 = .ok (.aload_n 0, 1) := by decide +kernel
theorem dX2_creditsOf_6 : decode cX2_creditsOf 6 = .ok (.getfield 22, 3) := by decide +kernel
theorem dX2_creditsOf_9 : decode cX2_creditsOf 9 = .ok (.getfield 127, 3) := by decide +kernel
theorem dX2_creditsOf_12 : decode cX2_creditsOf 12 = .ok (.iload_n 1, 1) := by decide +kernel
theorem dX2_creditsOf_13 : decode cX2_creditsOf 13 = .ok (.iaload, 1) := by decide +kernel
theorem dX2_creditsOf_14 : decode cX2_creditsOf 14 = .ok (.ireturn, 1) := by decide +kernel
theorem dX2_breachesOf_0 : decode cX2_breachesOf 0 = .ok (.aload_n 0, 1) := by decide +kernel
theorem dX2_breachesOf_1 : decode cX2_breachesOf 1 = .ok (.iload_n 1, 1) := by decide +kernel
theorem dX2_breachesOf_2 : decode cX2_breachesOf 2 = .ok (.invokevirtual 118, 3) := by decide +kernel
theorem dX2_breachesOf_5 : decode cX2_breachesOf 5 = .ok (.aload_n 0, 1) := by decide +kernel
theorem dX2_breachesOf_6 : decode cX2_breachesOf 6 = .ok (.getfield 22, 3) := by decide +kernel
theorem dX2_breachesOf_9 : decode cX2_breachesOf 9 = .ok (.getfield 130, 3) := by decide +kernel
theorem dX2_breachesOf_12 : decode cX2_breachesOf 12 = .ok (.iload_n 1, 1) := by decide +kernel
theorem dX2_breachesOf_13 : decode cX2_breachesOf 13 = .ok (.iaload, 1) := by decide +kernel
theorem dX2_breachesOf_14 : decode cX2_breachesOf 14 = .ok (.ireturn, 1) := by decide +kernel
theorem dX2_pass_0 : decode cX2_pass 0 = .ok (.iload_n 1, 1) := by decide +kernel
theorem dX2_pass_1 : decode cX2_pass 1 = .ok (.iconst 1, 1) := by decide +kernel
theorem dX2_pass_2 : decode cX2_pass 2 = .ok (.if_icmp .lt 9, 3) := by decide +kernel
theorem dX2_pass_5 : decode cX2_pass 5 = .ok (.iload_n 1, 1) := by decide +kernel
theorem dX2_pass_6 : decode cX2_pass 6 = .ok (.bipush 50, 2) := by decide +kernel
theorem dX2_pass_8 : decode cX2_pass 8 = .ok (.if_icmp .le 13, 3) := by decide +kernel
theorem dX2_pass_11 : decode cX2_pass 11 = .ok (.new 37, 3) := by decide +kernel
theorem dX2_pass_14 : decode cX2_pass 14 = .ok (.dup, 1) := by decide +kernel
theorem dX2_pass_15 : decode cX2_pass 15 = .ok (.ldc 133, 2) := by decide +kernel
theorem dX2_pass_17 : decode cX2_pass 17 = .ok (.invokespecial 41, 3) := by decide +kernel
theorem dX2_pass_20 : decode cX2_pass 20 = .ok (.athrow, 1) := by decide +kernel
theorem dX2_pass_21 : decode cX2_pass 21 = .ok (.iload_n 1, 1) := by decide +kernel
theorem dX2_pass_22 : decode cX2_pass 22 = .ok (.sipush 9999, 3) := by decide +kernel
theorem dX2_pass_25 : decode cX2_pass 25 = .ok (.aload_n 0, 1) := by decide +kernel
theorem dX2_pass_26 : decode cX2_pass 26 = .ok (.getfield 135, 3) := by decide +kernel
theorem dX2_pass_29 : decode cX2_pass 29 = .ok (.isub, 1) := by decide +kernel
theorem dX2_pass_30 : decode cX2_pass 30 = .ok (.if_icmp .le 13, 3) := by decide +kernel
theorem dX2_pass_33 : decode cX2_pass 33 = .ok (.new 47, 3) := by decide +kernel
theorem dX2_pass_36 : decode cX2_pass 36 = .ok (.dup, 1) := by decide +kernel
theorem dX2_pass_37 : decode cX2_pass 37 = .ok (.ldc 138, 2) := by decide +kernel
theorem dX2_pass_39 : decode cX2_pass 39 = .ok (.invokespecial 51, 3) := by decide +kernel
theorem dX2_pass_42 : decode cX2_pass 42 = .ok (.athrow, 1) := by decide +kernel
theorem dX2_pass_43 : decode cX2_pass 43 = .ok (.iconst 0, 1) := by decide +kernel
theorem dX2_pass_44 : decode cX2_pass 44 = .ok (.istore_n 2, 1) := by decide +kernel
theorem dX2_pass_45 : decode cX2_pass 45 = .ok (.iload_n 2, 1) := by decide +kernel
theorem dX2_pass_46 : decode cX2_pass 46 = .ok (.iload_n 1, 1) := by decide +kernel
theorem dX2_pass_47 : decode cX2_pass 47 = .ok (.if_icmp .ge 67, 3) := by decide +kernel
theorem dX2_pass_50 : decode cX2_pass 50 = .ok (.aload_n 0, 1) := by decide +kernel
theorem dX2_pass_51 : decode cX2_pass 51 = .ok (.getfield 22, 3) := by decide +kernel
theorem dX2_pass_54 : decode cX2_pass 54 = .ok (.invokevirtual 140, 3) := by decide +kernel
theorem dX2_pass_57 : decode cX2_pass 57 = .ok (.aload_n 0, 1) := by decide +kernel
theorem dX2_pass_58 : decode cX2_pass 58 = .ok (.getfield 12, 3) := by decide +kernel
theorem dX2_pass_61 : decode cX2_pass 61 = .ok (.aload_n 0, 1) := by decide +kernel
theorem dX2_pass_62 : decode cX2_pass 62 = .ok (.getfield 33, 3) := by decide +kernel
theorem dX2_pass_65 : decode cX2_pass 65 = .ok (.iconst 2, 1) := by decide +kernel
theorem dX2_pass_66 : decode cX2_pass 66 = .ok (.idiv, 1) := by decide +kernel
theorem dX2_pass_67 : decode cX2_pass 67 = .ok (.invokevirtual 143, 3) := by decide +kernel
theorem dX2_pass_70 : decode cX2_pass 70 = .ok (.istore_n 3, 1) := by decide +kernel
theorem dX2_pass_71 : decode cX2_pass 71 = .ok (.aload_n 0, 1) := by decide +kernel
theorem dX2_pass_72 : decode cX2_pass 72 = .ok (.dup, 1) := by decide +kernel
theorem dX2_pass_73 : decode cX2_pass 73 = .ok (.getfield 146, 3) := by decide +kernel
theorem dX2_pass_76 : decode cX2_pass 76 = .ok (.iload_n 3, 1) := by decide +kernel
theorem dX2_pass_77 : decode cX2_pass 77 = .ok (.iadd, 1) := by decide +kernel
theorem dX2_pass_78 : decode cX2_pass 78 = .ok (.putfield 146, 3) := by decide +kernel
theorem dX2_pass_81 : decode cX2_pass 81 = .ok (.aload_n 0, 1) := by decide +kernel
theorem dX2_pass_82 : decode cX2_pass 82 = .ok (.bipush 20, 2) := by decide +kernel
theorem dX2_pass_84 : decode cX2_pass 84 = .ok (.iload_n 3, 1) := by decide +kernel
theorem dX2_pass_85 : decode cX2_pass 85 = .ok (.iconst 2, 1) := by decide +kernel
theorem dX2_pass_86 : decode cX2_pass 86 = .ok (.imul, 1) := by decide +kernel
theorem dX2_pass_87 : decode cX2_pass 87 = .ok (.isub, 1) := by decide +kernel
theorem dX2_pass_88 : decode cX2_pass 88 = .ok (.invokevirtual 149, 3) := by decide +kernel
theorem dX2_pass_91 : decode cX2_pass 91 = .ok (.aload_n 0, 1) := by decide +kernel
theorem dX2_pass_92 : decode cX2_pass 92 = .ok (.getfield 22, 3) := by decide +kernel
theorem dX2_pass_95 : decode cX2_pass 95 = .ok (.invokevirtual 152, 3) := by decide +kernel
theorem dX2_pass_98 : decode cX2_pass 98 = .ok (.aload_n 0, 1) := by decide +kernel
theorem dX2_pass_99 : decode cX2_pass 99 = .ok (.dup, 1) := by decide +kernel
theorem dX2_pass_100 : decode cX2_pass 100 = .ok (.getfield 135, 3) := by decide +kernel
theorem dX2_pass_103 : decode cX2_pass 103 = .ok (.iconst 1, 1) := by decide +kernel
theorem dX2_pass_104 : decode cX2_pass 104 = .ok (.iadd, 1) := by decide +kernel
theorem dX2_pass_105 : decode cX2_pass 105 = .ok (.putfield 135, 3) := by decide +kernel
theorem dX2_pass_108 : decode cX2_pass 108 = .ok (.iinc 2 1, 3) := by decide +kernel
theorem dX2_pass_111 : decode cX2_pass 111 = .ok (.goto (-66), 3) := by decide +kernel
theorem dX2_pass_114 : decode cX2_pass 114 = .ok (.aload_n 0, 1) := by decide +kernel
theorem dX2_pass_115 : decode cX2_pass 115 = .ok (.getfield 135, 3) := by decide +kernel
theorem dX2_pass_118 : decode cX2_pass 118 = .ok (.ireturn, 1) := by decide +kernel
theorem dX2_clock_0 : decode cX2_clock 0 = .ok (.aload_n 0, 1) := by decide +kernel
theorem dX2_clock_1 : decode cX2_clock 1 = .ok (.getfield 135, 3) := by decide +kernel
theorem dX2_clock_4 : decode cX2_clock 4 = .ok (.ireturn, 1) := by decide +kernel
theorem dX2_blocksOf_0 : decode cX2_blocksOf 0 = .ok (.aload_n 0, 1) := by decide +kernel
theorem dX2_blocksOf_1 : decode cX2_blocksOf 1 = .ok (.iload_n 1, 1) := by decide +kernel
theorem dX2_blocksOf_2 : decode cX2_blocksOf 2 = .ok (.invokevirtual 118, 3) := by decide +kernel
theorem dX2_blocksOf_5 : decode cX2_blocksOf 5 = .ok (.aload_n 0, 1) := by decide +kernel
theorem dX2_blocksOf_6 : decode cX2_blocksOf 6 = .ok (.getfield 12, 3) := by decide +kernel
theorem dX2_blocksOf_9 : decode cX2_blocksOf 9 = .ok (.iload_n 1, 1) := by decide +kernel
theorem dX2_blocksOf_10 : decode cX2_blocksOf 10 = .ok (.invokevirtual 155, 3) := by decide +kernel
theorem dX2_blocksOf_13 : decode cX2_blocksOf 13 = .ok (.ireturn, 1) := by decide +kernel
theorem dX2_copiesOf_0 : decode cX2_copiesOf 0 = .ok (.aload_n 0, 1) := by decide +kernel
theorem dX2_copiesOf_1 : decode cX2_copiesOf 1 = .ok (.iload_n 1, 1) := by decide +kernel
theorem dX2_copiesOf_2 : decode cX2_copiesOf 2 = .ok (.iload_n 2, 1) := by decide +kernel
theorem dX2_copiesOf_3 : decode cX2_copiesOf 3 = .ok (.invokevirtual 85, 3) := by decide +kernel
theorem dX2_copiesOf_6 : decode cX2_copiesOf 6 = .ok (.aload_n 0, 1) := by decide +kernel
theorem dX2_copiesOf_7 : decode cX2_copiesOf 7 = .ok (.getfield 12, 3) := by decide +kernel
theorem dX2_copiesOf_10 : decode cX2_copiesOf 10 = .ok (.getfield 158, 3) := by decide +kernel
theorem dX2_copiesOf_13 : decode cX2_copiesOf 13 = .ok (.iload_n 1, 1) := by decide +kernel
theorem dX2_copiesOf_14 : decode cX2_copiesOf 14 = .ok (.iload_n 2, 1) := by decide +kernel
theorem dX2_copiesOf_15 : decode cX2_copiesOf 15 = .ok (.invokestatic 92, 3) := by decide +kernel
theorem dX2_copiesOf_18 : decode cX2_copiesOf 18 = .ok (.iaload, 1) := by decide +kernel
theorem dX2_copiesOf_19 : decode cX2_copiesOf 19 = .ok (.ireturn, 1) := by decide +kernel
theorem dX2_copiesByDisks_0 : decode cX2_copiesByDisks 0 = .ok (.aload_n 0, 1) := by decide +kernel
theorem dX2_copiesByDisks_1 : decode cX2_copiesByDisks 1 = .ok (.iload_n 1, 1) := by decide +kernel
theorem dX2_copiesByDisks_2 : decode cX2_copiesByDisks 2 = .ok (.iload_n 2, 1) := by decide +kernel
theorem dX2_copiesByDisks_3 : decode cX2_copiesByDisks 3 = .ok (.invokevirtual 85, 3) := by decide +kernel
theorem dX2_copiesByDisks_6 : decode cX2_copiesByDisks 6 = .ok (.aload_n 0, 1) := by decide +kernel
theorem dX2_copiesByDisks_7 : decode cX2_copiesByDisks 7 = .ok (.getfield 12, 3) := by decide +kernel
theorem dX2_copiesByDisks_10 : decode cX2_copiesByDisks 10 = .ok (.iload_n 1, 1) := by decide +kernel
theorem dX2_copiesByDisks_11 : decode cX2_copiesByDisks 11 = .ok (.iload_n 2, 1) := by decide +kernel
theorem dX2_copiesByDisks_12 : decode cX2_copiesByDisks 12 = .ok (.invokestatic 92, 3) := by decide +kernel
theorem dX2_copiesByDisks_15 : decode cX2_copiesByDisks 15 = .ok (.invokevirtual 161, 3) := by decide +kernel
theorem dX2_copiesByDisks_18 : decode cX2_copiesByDisks 18 = .ok (.ireturn, 1) := by decide +kernel
theorem dX2_diskOfCopy_0 : decode cX2_diskOfCopy 0 = .ok (.aload_n 0, 1) := by decide +kernel
theorem dX2_diskOfCopy_1 : decode cX2_diskOfCopy 1 = .ok (.iload_n 1, 1) := by decide +kernel
theorem dX2_diskOfCopy_2 : decode cX2_diskOfCopy 2 = .ok (.iload_n 2, 1) := by decide +kernel
theorem dX2_diskOfCopy_3 : decode cX2_diskOfCopy 3 = .ok (.invokevirtual 85, 3) := by decide +kernel
theorem dX2_diskOfCopy_6 : decode cX2_diskOfCopy 6 = .ok (.iload_n 1, 1) := by decide +kernel
theorem dX2_diskOfCopy_7 : decode cX2_diskOfCopy 7 = .ok (.iload_n 2, 1) := by decide +kernel
theorem dX2_diskOfCopy_8 : decode cX2_diskOfCopy 8 = .ok (.invokestatic 92, 3) := by decide +kernel
theorem dX2_diskOfCopy_11 : decode cX2_diskOfCopy 11 = .ok (.istore 4, 2) := by decide +kernel
theorem dX2_diskOfCopy_13 : decode cX2_diskOfCopy 13 = .ok (.iload_n 3, 1) := by decide +kernel
theorem dX2_diskOfCopy_14 : decode cX2_diskOfCopy 14 = .ok (.ifCond .lt 17, 3) := by decide +kernel
theorem dX2_diskOfCopy_17 : decode cX2_diskOfCopy 17 = .ok (.iload_n 3, 1) := by decide +kernel
theorem dX2_diskOfCopy_18 : decode cX2_diskOfCopy 18 = .ok (.aload_n 0, 1) := by decide +kernel
theorem dX2_diskOfCopy_19 : decode cX2_diskOfCopy 19 = .ok (.getfield 12, 3) := by decide +kernel
theorem dX2_diskOfCopy_22 : decode cX2_diskOfCopy 22 = .ok (.getfield 158, 3) := by decide +kernel
theorem dX2_diskOfCopy_25 : decode cX2_diskOfCopy 25 = .ok (.iload 4, 2) := by decide +kernel
theorem dX2_diskOfCopy_27 : decode cX2_diskOfCopy 27 = .ok (.iaload, 1) := by decide +kernel
theorem dX2_diskOfCopy_28 : decode cX2_diskOfCopy 28 = .ok (.if_icmp .lt 13, 3) := by decide +kernel
theorem dX2_diskOfCopy_31 : decode cX2_diskOfCopy 31 = .ok (.new 110, 3) := by decide +kernel
theorem dX2_diskOfCopy_34 : decode cX2_diskOfCopy 34 = .ok (.dup, 1) := by decide +kernel
theorem dX2_diskOfCopy_35 : decode cX2_diskOfCopy 35 = .ok (.ldc 164, 2) := by decide +kernel
theorem dX2_diskOfCopy_37 : decode cX2_diskOfCopy 37 = .ok (.invokespecial 114, 3) := by decide +kernel
theorem dX2_diskOfCopy_40 : decode cX2_diskOfCopy 40 = .ok (.athrow, 1) := by decide +kernel
theorem dX2_diskOfCopy_41 : decode cX2_diskOfCopy 41 = .ok (.aload_n 0, 1) := by decide +kernel
theorem dX2_diskOfCopy_42 : decode cX2_diskOfCopy 42 = .ok (.getfield 12, 3) := by decide +kernel
theorem dX2_diskOfCopy_45 : decode cX2_diskOfCopy 45 = .ok (.iload 4, 2) := by decide +kernel
theorem dX2_diskOfCopy_47 : decode cX2_diskOfCopy 47 = .ok (.iload_n 3, 1) := by decide +kernel
theorem dX2_diskOfCopy_48 : decode cX2_diskOfCopy 48 = .ok (.invokevirtual 166, 3) := by decide +kernel
theorem dX2_diskOfCopy_51 : decode cX2_diskOfCopy 51 = .ok (.bipush 32, 2) := by decide +kernel
theorem dX2_diskOfCopy_53 : decode cX2_diskOfCopy 53 = .ok (.idiv, 1) := by decide +kernel
theorem dX2_diskOfCopy_54 : decode cX2_diskOfCopy 54 = .ok (.ireturn, 1) := by decide +kernel
theorem dX2_valueOf_0 : decode cX2_valueOf 0 = .ok (.aload_n 0, 1) := by decide +kernel
theorem dX2_valueOf_1 : decode cX2_valueOf 1 = .ok (.iload_n 1, 1) := by decide +kernel
theorem dX2_valueOf_2 : decode cX2_valueOf 2 = .ok (.iload_n 2, 1) := by decide +kernel
theorem dX2_valueOf_3 : decode cX2_valueOf 3 = .ok (.invokevirtual 85, 3) := by decide +kernel
theorem dX2_valueOf_6 : decode cX2_valueOf 6 = .ok (.iload_n 1, 1) := by decide +kernel
theorem dX2_valueOf_7 : decode cX2_valueOf 7 = .ok (.iload_n 2, 1) := by decide +kernel
theorem dX2_valueOf_8 : decode cX2_valueOf 8 = .ok (.invokestatic 92, 3) := by decide +kernel
theorem dX2_valueOf_11 : decode cX2_valueOf 11 = .ok (.istore_n 3, 1) := by decide +kernel
theorem dX2_valueOf_12 : decode cX2_valueOf 12 = .ok (.aload_n 0, 1) := by decide +kernel
theorem dX2_valueOf_13 : decode cX2_valueOf 13 = .ok (.getfield 12, 3) := by decide +kernel
theorem dX2_valueOf_16 : decode cX2_valueOf 16 = .ok (.iload_n 3, 1) := by decide +kernel
theorem dX2_valueOf_17 : decode cX2_valueOf 17 = .ok (.invokevirtual 169, 3) := by decide +kernel
theorem dX2_valueOf_20 : decode cX2_valueOf 20 = .ok (.ifCond .ne 13, 3) := by decide +kernel
theorem dX2_valueOf_23 : decode cX2_valueOf 23 = .ok (.new 110, 3) := by decide +kernel
theorem dX2_valueOf_26 : decode cX2_valueOf 26 = .ok (.dup, 1) := by decide +kernel
theorem dX2_valueOf_27 : decode cX2_valueOf 27 = .ok (.ldc 172, 2) := by decide +kernel
theorem dX2_valueOf_29 : decode cX2_valueOf 29 = .ok (.invokespecial 114, 3) := by decide +kernel
theorem dX2_valueOf_32 : decode cX2_valueOf 32 = .ok (.athrow, 1) := by decide +kernel
theorem dX2_valueOf_33 : decode cX2_valueOf 33 = .ok (.aload_n 0, 1) := by decide +kernel
theorem dX2_valueOf_34 : decode cX2_valueOf 34 = .ok (.getfield 12, 3) := by decide +kernel
theorem dX2_valueOf_37 : decode cX2_valueOf 37 = .ok (.getfield 174, 3) := by decide +kernel
theorem dX2_valueOf_40 : decode cX2_valueOf 40 = .ok (.iload_n 3, 1) := by decide +kernel
theorem dX2_valueOf_41 : decode cX2_valueOf 41 = .ok (.iaload, 1) := by decide +kernel
theorem dX2_valueOf_42 : decode cX2_valueOf 42 = .ok (.ireturn, 1) := by decide +kernel
theorem dX2_isLost_0 : decode cX2_isLost 0 = .ok (.aload_n 0, 1) := by decide +kernel
theorem dX2_isLost_1 : decode cX2_isLost 1 = .ok (.iload_n 1, 1) := by decide +kernel
theorem dX2_isLost_2 : decode cX2_isLost 2 = .ok (.iload_n 2, 1) := by decide +kernel
theorem dX2_isLost_3 : decode cX2_isLost 3 = .ok (.invokevirtual 85, 3) := by decide +kernel
theorem dX2_isLost_6 : decode cX2_isLost 6 = .ok (.aload_n 0, 1) := by decide +kernel
theorem dX2_isLost_7 : decode cX2_isLost 7 = .ok (.getfield 12, 3) := by decide +kernel
theorem dX2_isLost_10 : decode cX2_isLost 10 = .ok (.iload_n 1, 1) := by decide +kernel
theorem dX2_isLost_11 : decode cX2_isLost 11 = .ok (.iload_n 2, 1) := by decide +kernel
theorem dX2_isLost_12 : decode cX2_isLost 12 = .ok (.invokestatic 92, 3) := by decide +kernel
theorem dX2_isLost_15 : decode cX2_isLost 15 = .ok (.invokevirtual 175, 3) := by decide +kernel
theorem dX2_isLost_18 : decode cX2_isLost 18 = .ok (.ireturn, 1) := by decide +kernel
theorem dX2_lostBlocks_0 : decode cX2_lostBlocks 0 = .ok (.aload_n 0, 1) := by decide +kernel
theorem dX2_lostBlocks_1 : decode cX2_lostBlocks 1 = .ok (.getfield 12, 3) := by decide +kernel
theorem dX2_lostBlocks_4 : decode cX2_lostBlocks 4 = .ok (.invokevirtual 179, 3) := by decide +kernel
theorem dX2_lostBlocks_7 : decode cX2_lostBlocks 7 = .ok (.ireturn, 1) := by decide +kernel
theorem dX2_degradedBlocks_0 : decode cX2_degradedBlocks 0 = .ok (.aload_n 0, 1) := by decide +kernel
theorem dX2_degradedBlocks_1 : decode cX2_degradedBlocks 1 = .ok (.getfield 12, 3) := by decide +kernel
theorem dX2_degradedBlocks_4 : decode cX2_degradedBlocks 4 = .ok (.invokevirtual 183, 3) := by decide +kernel
theorem dX2_degradedBlocks_7 : decode cX2_degradedBlocks 7 = .ok (.ireturn, 1) := by decide +kernel
theorem dX2_doesBear_0 : decode cX2_doesBear 0 = .ok (.iload_n 1, 1) := by decide +kernel
theorem dX2_doesBear_1 : decode cX2_doesBear 1 = .ok (.invokestatic 186, 3) := by decide +kernel
theorem dX2_doesBear_4 : decode cX2_doesBear 4 = .ok (.aload_n 0, 1) := by decide +kernel
theorem dX2_doesBear_5 : decode cX2_doesBear 5 = .ok (.getfield 12, 3) := by decide +kernel
theorem dX2_doesBear_8 : decode cX2_doesBear 8 = .ok (.iload_n 1, 1) := by decide +kernel
theorem dX2_doesBear_9 : decode cX2_doesBear 9 = .ok (.invokevirtual 189, 3) := by decide +kernel
theorem dX2_doesBear_12 : decode cX2_doesBear 12 = .ok (.ireturn, 1) := by decide +kernel
theorem dX2_doesBearByTrying_0 : decode cX2_doesBearByTrying 0 = .ok (.iload_n 1, 1) := by decide +kernel
theorem dX2_doesBearByTrying_1 : decode cX2_doesBearByTrying 1 = .ok (.invokestatic 186, 3) := by decide +kernel
theorem dX2_doesBearByTrying_4 : decode cX2_doesBearByTrying 4 = .ok (.aload_n 0, 1) := by decide +kernel
theorem dX2_doesBearByTrying_5 : decode cX2_doesBearByTrying 5 = .ok (.getfield 12, 3) := by decide +kernel
theorem dX2_doesBearByTrying_8 : decode cX2_doesBearByTrying 8 = .ok (.iload_n 1, 1) := by decide +kernel
theorem dX2_doesBearByTrying_9 : decode cX2_doesBearByTrying 9 = .ok (.invokevirtual 192, 3) := by decide +kernel
theorem dX2_doesBearByTrying_12 : decode cX2_doesBearByTrying 12 = .ok (.ireturn, 1) := by decide +kernel
theorem dX2_fail_0 : decode cX2_fail 0 = .ok (.aload_n 0, 1) := by decide +kernel
theorem dX2_fail_1 : decode cX2_fail 1 = .ok (.iload_n 1, 1) := by decide +kernel
theorem dX2_fail_2 : decode cX2_fail 2 = .ok (.invokevirtual 56, 3) := by decide +kernel
theorem dX2_fail_5 : decode cX2_fail 5 = .ok (.aload_n 0, 1) := by decide +kernel
theorem dX2_fail_6 : decode cX2_fail 6 = .ok (.iload_n 1, 1) := by decide +kernel
theorem dX2_fail_7 : decode cX2_fail 7 = .ok (.invokevirtual 195, 3) := by decide +kernel
theorem dX2_fail_10 : decode cX2_fail 10 = .ok (.aload_n 0, 1) := by decide +kernel
theorem dX2_fail_11 : decode cX2_fail 11 = .ok (.getfield 12, 3) := by decide +kernel
theorem dX2_fail_14 : decode cX2_fail 14 = .ok (.iload_n 1, 1) := by decide +kernel
theorem dX2_fail_15 : decode cX2_fail 15 = .ok (.invokevirtual 198, 3) := by decide +kernel
theorem dX2_fail_18 : decode cX2_fail 18 = .ok (.ireturn, 1) := by decide +kernel
theorem dX2_replace_0 : decode cX2_replace 0 = .ok (.aload_n 0, 1) := by decide +kernel
theorem dX2_replace_1 : decode cX2_replace 1 = .ok (.iload_n 1, 1) := by decide +kernel
theorem dX2_replace_2 : decode cX2_replace 2 = .ok (.invokevirtual 56, 3) := by decide +kernel
theorem dX2_replace_5 : decode cX2_replace 5 = .ok (.aload_n 0, 1) := by decide +kernel
theorem dX2_replace_6 : decode cX2_replace 6 = .ok (.getfield 12, 3) := by decide +kernel
theorem dX2_replace_9 : decode cX2_replace 9 = .ok (.getfield 60, 3) := by decide +kernel
theorem dX2_replace_12 : decode cX2_replace 12 = .ok (.iload_n 1, 1) := by decide +kernel
theorem dX2_replace_13 : decode cX2_replace 13 = .ok (.caload, 1) := by decide +kernel
theorem dX2_replace_14 : decode cX2_replace 14 = .ok (.bipush 102, 2) := by decide +kernel
theorem dX2_replace_16 : decode cX2_replace 16 = .ok (.if_icmp .eq 13, 3) := by decide +kernel
theorem dX2_replace_19 : decode cX2_replace 19 = .ok (.new 47, 3) := by decide +kernel
theorem dX2_replace_22 : decode cX2_replace 22 = .ok (.dup, 1) := by decide +kernel
theorem dX2_replace_23 : decode cX2_replace 23 = .ok (.ldc 201, 2) := by decide +kernel
theorem dX2_replace_25 : decode cX2_replace 25 = .ok (.invokespecial 51, 3) := by decide +kernel
theorem dX2_replace_28 : decode cX2_replace 28 = .ok (.athrow, 1) := by decide +kernel
theorem dX2_replace_29 : decode cX2_replace 29 = .ok (.aload_n 0, 1) := by decide +kernel
theorem dX2_replace_30 : decode cX2_replace 30 = .ok (.getfield 12, 3) := by decide +kernel
theorem dX2_replace_33 : decode cX2_replace 33 = .ok (.getfield 60, 3) := by decide +kernel
theorem dX2_replace_36 : decode cX2_replace 36 = .ok (.iload_n 1, 1) := by decide +kernel
theorem dX2_replace_37 : decode cX2_replace 37 = .ok (.bipush 115, 2) := by decide +kernel
theorem dX2_replace_39 : decode cX2_replace 39 = .ok (.castore, 1) := by decide +kernel
theorem dX2_replace_40 : decode cX2_replace 40 = .ok (.aload_n 0, 1) := by decide +kernel
theorem dX2_replace_41 : decode cX2_replace 41 = .ok (.getfield 12, 3) := by decide +kernel
theorem dX2_replace_44 : decode cX2_replace 44 = .ok (.bipush 115, 2) := by decide +kernel
theorem dX2_replace_46 : decode cX2_replace 46 = .ok (.invokevirtual 203, 3) := by decide +kernel
theorem dX2_replace_49 : decode cX2_replace 49 = .ok (.invokestatic 207, 3) := by decide +kernel
theorem dX2_replace_52 : decode cX2_replace 52 = .ok (.ireturn, 1) := by decide +kernel
theorem dX2_warn_0 : decode cX2_warn 0 = .ok (.aload_n 0, 1) := by decide +kernel
theorem dX2_warn_1 : decode cX2_warn 1 = .ok (.iload_n 1, 1) := by decide +kernel
theorem dX2_warn_2 : decode cX2_warn 2 = .ok (.invokevirtual 56, 3) := by decide +kernel
theorem dX2_warn_5 : decode cX2_warn 5 = .ok (.aload_n 0, 1) := by decide +kernel
theorem dX2_warn_6 : decode cX2_warn 6 = .ok (.getfield 12, 3) := by decide +kernel
theorem dX2_warn_9 : decode cX2_warn 9 = .ok (.getfield 60, 3) := by decide +kernel
theorem dX2_warn_12 : decode cX2_warn 12 = .ok (.iload_n 1, 1) := by decide +kernel
theorem dX2_warn_13 : decode cX2_warn 13 = .ok (.caload, 1) := by decide +kernel
theorem dX2_warn_14 : decode cX2_warn 14 = .ok (.bipush 115, 2) := by decide +kernel
theorem dX2_warn_16 : decode cX2_warn 16 = .ok (.if_icmp .eq 13, 3) := by decide +kernel
theorem dX2_warn_19 : decode cX2_warn 19 = .ok (.new 47, 3) := by decide +kernel
theorem dX2_warn_22 : decode cX2_warn 22 = .ok (.dup, 1) := by decide +kernel
theorem dX2_warn_23 : decode cX2_warn 23 = .ok (.ldc 212, 2) := by decide +kernel
theorem dX2_warn_25 : decode cX2_warn 25 = .ok (.invokespecial 51, 3) := by decide +kernel
theorem dX2_warn_28 : decode cX2_warn 28 = .ok (.athrow, 1) := by decide +kernel
theorem dX2_warn_29 : decode cX2_warn 29 = .ok (.aload_n 0, 1) := by decide +kernel
theorem dX2_warn_30 : decode cX2_warn 30 = .ok (.getfield 12, 3) := by decide +kernel
theorem dX2_warn_33 : decode cX2_warn 33 = .ok (.getfield 60, 3) := by decide +kernel
theorem dX2_warn_36 : decode cX2_warn 36 = .ok (.iload_n 1, 1) := by decide +kernel
theorem dX2_warn_37 : decode cX2_warn 37 = .ok (.bipush 119, 2) := by decide +kernel
theorem dX2_warn_39 : decode cX2_warn 39 = .ok (.castore, 1) := by decide +kernel
theorem dX2_warn_40 : decode cX2_warn 40 = .ok (.aload_n 0, 1) := by decide +kernel
theorem dX2_warn_41 : decode cX2_warn 41 = .ok (.getfield 12, 3) := by decide +kernel
theorem dX2_warn_44 : decode cX2_warn 44 = .ok (.getfield 64, 3) := by decide +kernel
theorem dX2_warn_47 : decode cX2_warn 47 = .ok (.iload_n 1, 1) := by decide +kernel
theorem dX2_warn_48 : decode cX2_warn 48 = .ok (.iaload, 1) := by decide +kernel
theorem dX2_warn_49 : decode cX2_warn 49 = .ok (.ireturn, 1) := by decide +kernel
theorem dX2_rot_0 : decode cX2_rot 0 = .ok (.aload_n 0, 1) := by decide +kernel
theorem dX2_rot_1 : decode cX2_rot 1 = .ok (.iload_n 1, 1) := by decide +kernel
theorem dX2_rot_2 : decode cX2_rot 2 = .ok (.invokevirtual 56, 3) := by decide +kernel
theorem dX2_rot_5 : decode cX2_rot 5 = .ok (.iload_n 2, 1) := by decide +kernel
theorem dX2_rot_6 : decode cX2_rot 6 = .ok (.ifCond .lt 16, 3) := by decide +kernel
theorem dX2_rot_9 : decode cX2_rot 9 = .ok (.iload_n 2, 1) := by decide +kernel
theorem dX2_rot_10 : decode cX2_rot 10 = .ok (.aload_n 0, 1) := by decide +kernel
theorem dX2_rot_11 : decode cX2_rot 11 = .ok (.getfield 12, 3) := by decide +kernel
theorem dX2_rot_14 : decode cX2_rot 14 = .ok (.getfield 214, 3) := by decide +kernel
theorem dX2_rot_17 : decode cX2_rot 17 = .ok (.iload_n 1, 1) := by decide +kernel
theorem dX2_rot_18 : decode cX2_rot 18 = .ok (.iaload, 1) := by decide +kernel
theorem dX2_rot_19 : decode cX2_rot 19 = .ok (.if_icmp .lt 13, 3) := by decide +kernel
theorem dX2_rot_22 : decode cX2_rot 22 = .ok (.new 217, 3) := by decide +kernel
theorem dX2_rot_25 : decode cX2_rot 25 = .ok (.dup, 1) := by decide +kernel
theorem dX2_rot_26 : decode cX2_rot 26 = .ok (.ldc 219, 2) := by decide +kernel
theorem dX2_rot_28 : decode cX2_rot 28 = .ok (.invokespecial 221, 3) := by decide +kernel
theorem dX2_rot_31 : decode cX2_rot 31 = .ok (.athrow, 1) := by decide +kernel
theorem dX2_rot_32 : decode cX2_rot 32 = .ok (.iload_n 1, 1) := by decide +kernel
theorem dX2_rot_33 : decode cX2_rot 33 = .ok (.bipush 32, 2) := by decide +kernel
theorem dX2_rot_35 : decode cX2_rot 35 = .ok (.imul, 1) := by decide +kernel
theorem dX2_rot_36 : decode cX2_rot 36 = .ok (.iload_n 2, 1) := by decide +kernel
theorem dX2_rot_37 : decode cX2_rot 37 = .ok (.iadd, 1) := by decide +kernel
theorem dX2_rot_38 : decode cX2_rot 38 = .ok (.istore_n 3, 1) := by decide +kernel
theorem dX2_rot_39 : decode cX2_rot 39 = .ok (.aload_n 0, 1) := by decide +kernel
theorem dX2_rot_40 : decode cX2_rot 40 = .ok (.getfield 12, 3) := by decide +kernel
theorem dX2_rot_43 : decode cX2_rot 43 = .ok (.getfield 222, 3) := by decide +kernel
theorem dX2_rot_46 : decode cX2_rot 46 = .ok (.iload_n 3, 1) := by decide +kernel
theorem dX2_rot_47 : decode cX2_rot 47 = .ok (.iaload, 1) := by decide +kernel
theorem dX2_rot_48 : decode cX2_rot 48 = .ok (.iconst (-1), 1) := by decide +kernel
theorem dX2_rot_49 : decode cX2_rot 49 = .ok (.if_icmp .ne 13, 3) := by decide +kernel
theorem dX2_rot_52 : decode cX2_rot 52 = .ok (.new 110, 3) := by decide +kernel
theorem dX2_rot_55 : decode cX2_rot 55 = .ok (.dup, 1) := by decide +kernel
theorem dX2_rot_56 : decode cX2_rot 56 = .ok (.ldc 225, 2) := by decide +kernel
theorem dX2_rot_58 : decode cX2_rot 58 = .ok (.invokespecial 114, 3) := by decide +kernel
theorem dX2_rot_61 : decode cX2_rot 61 = .ok (.athrow, 1) := by decide +kernel
theorem dX2_rot_62 : decode cX2_rot 62 = .ok (.aload_n 0, 1) := by decide +kernel
theorem dX2_rot_63 : decode cX2_rot 63 = .ok (.getfield 12, 3) := by decide +kernel
theorem dX2_rot_66 : decode cX2_rot 66 = .ok (.getfield 227, 3) := by decide +kernel
theorem dX2_rot_69 : decode cX2_rot 69 = .ok (.iload_n 3, 1) := by decide +kernel
theorem dX2_rot_70 : decode cX2_rot 70 = .ok (.baload, 1) := by decide +kernel
theorem dX2_rot_71 : decode cX2_rot 71 = .ok (.istore 4, 2) := by decide +kernel
theorem dX2_rot_73 : decode cX2_rot 73 = .ok (.aload_n 0, 1) := by decide +kernel
theorem dX2_rot_74 : decode cX2_rot 74 = .ok (.getfield 12, 3) := by decide +kernel
theorem dX2_rot_77 : decode cX2_rot 77 = .ok (.getfield 227, 3) := by decide +kernel
theorem dX2_rot_80 : decode cX2_rot 80 = .ok (.iload_n 3, 1) := by decide +kernel
theorem dX2_rot_81 : decode cX2_rot 81 = .ok (.iconst 1, 1) := by decide +kernel
theorem dX2_rot_82 : decode cX2_rot 82 = .ok (.bastore, 1) := by decide +kernel
theorem dX2_rot_83 : decode cX2_rot 83 = .ok (.iload 4, 2) := by decide +kernel
theorem dX2_rot_85 : decode cX2_rot 85 = .ok (.ireturn, 1) := by decide +kernel
theorem dX2_scrub_0 : decode cX2_scrub 0 = .ok (.aload_n 0, 1) := by decide +kernel
theorem dX2_scrub_1 : decode cX2_scrub 1 = .ok (.iload_n 1, 1) := by decide +kernel
theorem dX2_scrub_2 : decode cX2_scrub 2 = .ok (.invokevirtual 56, 3) := by decide +kernel
theorem dX2_scrub_5 : decode cX2_scrub 5 = .ok (.aload_n 0, 1) := by decide +kernel
theorem dX2_scrub_6 : decode cX2_scrub 6 = .ok (.iload_n 1, 1) := by decide +kernel
theorem dX2_scrub_7 : decode cX2_scrub 7 = .ok (.invokevirtual 195, 3) := by decide +kernel
theorem dX2_scrub_10 : decode cX2_scrub 10 = .ok (.aload_n 0, 1) := by decide +kernel
theorem dX2_scrub_11 : decode cX2_scrub 11 = .ok (.getfield 12, 3) := by decide +kernel
theorem dX2_scrub_14 : decode cX2_scrub 14 = .ok (.iload_n 1, 1) := by decide +kernel
theorem dX2_scrub_15 : decode cX2_scrub 15 = .ok (.invokevirtual 230, 3) := by decide +kernel
theorem dX2_scrub_18 : decode cX2_scrub 18 = .ok (.ireturn, 1) := by decide +kernel
theorem dX2_rottenOn_0 : decode cX2_rottenOn 0 = .ok (.aload_n 0, 1) := by decide +kernel
theorem dX2_rottenOn_1 : decode cX2_rottenOn 1 = .ok (.iload_n 1, 1) := by decide +kernel
theorem dX2_rottenOn_2 : decode cX2_rottenOn 2 = .ok (.invokevirtual 56, 3) := by decide +kernel
theorem dX2_rottenOn_5 : decode cX2_rottenOn 5 = .ok (.aload_n 0, 1) := by decide +kernel
theorem dX2_rottenOn_6 : decode cX2_rottenOn 6 = .ok (.getfield 12, 3) := by decide +kernel
theorem dX2_rottenOn_9 : decode cX2_rottenOn 9 = .ok (.iload_n 1, 1) := by decide +kernel
theorem dX2_rottenOn_10 : decode cX2_rottenOn 10 = .ok (.invokevirtual 233, 3) := by decide +kernel
theorem dX2_rottenOn_13 : decode cX2_rottenOn 13 = .ok (.ireturn, 1) := by decide +kernel
theorem dX2_rebuilt_0 : decode cX2_rebuilt 0 = .ok (.aload_n 0, 1) := by decide +kernel
theorem dX2_rebuilt_1 : decode cX2_rebuilt 1 = .ok (.getfield 146, 3) := by decide +kernel
theorem dX2_rebuilt_4 : decode cX2_rebuilt 4 = .ok (.ireturn, 1) := by decide +kernel
theorem dX2_openRebuilds_0 : decode cX2_openRebuilds 0 = .ok (.aload_n 0, 1) := by decide +kernel
theorem dX2_openRebuilds_1 : decode cX2_openRebuilds 1 = .ok (.getfield 16, 3) := by decide +kernel
theorem dX2_openRebuilds_4 : decode cX2_openRebuilds 4 = .ok (.aload_n 0, 1) := by decide +kernel
theorem dX2_openRebuilds_5 : decode cX2_openRebuilds 5 = .ok (.getfield 12, 3) := by decide +kernel
theorem dX2_openRebuilds_8 : decode cX2_openRebuilds 8 = .ok (.invokevirtual 236, 3) := by decide +kernel
theorem dX2_openRebuilds_11 : decode cX2_openRebuilds 11 = .ok (.aload_n 0, 1) := by decide +kernel
theorem dX2_openRebuilds_12 : decode cX2_openRebuilds 12 = .ok (.getfield 16, 3) := by decide +kernel
theorem dX2_openRebuilds_15 : decode cX2_openRebuilds 15 = .ok (.ldc 240, 2) := by decide +kernel
theorem dX2_openRebuilds_17 : decode cX2_openRebuilds 17 = .ok (.invokevirtual 143, 3) := by decide +kernel
theorem dX2_openRebuilds_20 : decode cX2_openRebuilds 20 = .ok (.ireturn, 1) := by decide +kernel
theorem dX2_meanCopies_0 : decode cX2_meanCopies 0 = .ok (.aload_n 0, 1) := by decide +kernel
theorem dX2_meanCopies_1 : decode cX2_meanCopies 1 = .ok (.getfield 12, 3) := by decide +kernel
theorem dX2_meanCopies_4 : decode cX2_meanCopies 4 = .ok (.getfield 241, 3) := by decide +kernel
theorem dX2_meanCopies_7 : decode cX2_meanCopies 7 = .ok (.ifCond .ne 13, 3) := by decide +kernel
theorem dX2_meanCopies_10 : decode cX2_meanCopies 10 = .ok (.new 244, 3) := by decide +kernel
theorem dX2_meanCopies_13 : decode cX2_meanCopies 13 = .ok (.dup, 1) := by decide +kernel
theorem dX2_meanCopies_14 : decode cX2_meanCopies 14 = .ok (.ldc 246, 2) := by decide +kernel
theorem dX2_meanCopies_16 : decode cX2_meanCopies 16 = .ok (.invokespecial 248, 3) := by decide +kernel
theorem dX2_meanCopies_19 : decode cX2_meanCopies 19 = .ok (.athrow, 1) := by decide +kernel
theorem dX2_meanCopies_20 : decode cX2_meanCopies 20 = .ok (.aload_n 0, 1) := by decide +kernel
theorem dX2_meanCopies_21 : decode cX2_meanCopies 21 = .ok (.getfield 12, 3) := by decide +kernel
theorem dX2_meanCopies_24 : decode cX2_meanCopies 24 = .ok (.invokevirtual 249, 3) := by decide +kernel
theorem dX2_meanCopies_27 : decode cX2_meanCopies 27 = .ok (.i2d, 1) := by decide +kernel
theorem dX2_meanCopies_28 : decode cX2_meanCopies 28 = .ok (.aload_n 0, 1) := by decide +kernel
theorem dX2_meanCopies_29 : decode cX2_meanCopies 29 = .ok (.getfield 12, 3) := by decide +kernel
theorem dX2_meanCopies_32 : decode cX2_meanCopies 32 = .ok (.getfield 241, 3) := by decide +kernel
theorem dX2_meanCopies_35 : decode cX2_meanCopies 35 = .ok (.i2d, 1) := by decide +kernel
theorem dX2_meanCopies_36 : decode cX2_meanCopies 36 = .ok (.ddiv, 1) := by decide +kernel
theorem dX2_meanCopies_37 : decode cX2_meanCopies 37 = .ok (.dreturn, 1) := by decide +kernel
theorem dX2_usedShare_0 : decode cX2_usedShare 0 = .ok (.aload_n 0, 1) := by decide +kernel
theorem dX2_usedShare_1 : decode cX2_usedShare 1 = .ok (.getfield 12, 3) := by decide +kernel
theorem dX2_usedShare_4 : decode cX2_usedShare 4 = .ok (.invokevirtual 252, 3) := by decide +kernel
theorem dX2_usedShare_7 : decode cX2_usedShare 7 = .ok (.istore_n 1, 1) := by decide +kernel
theorem dX2_usedShare_8 : decode cX2_usedShare 8 = .ok (.iload_n 1, 1) := by decide +kernel
theorem dX2_usedShare_9 : decode cX2_usedShare 9 = .ok (.ifCond .ne 13, 3) := by decide +kernel
theorem dX2_usedShare_12 : decode cX2_usedShare 12 = .ok (.new 244, 3) := by decide +kernel
theorem dX2_usedShare_15 : decode cX2_usedShare 15 = .ok (.dup, 1) := by decide +kernel
theorem dX2_usedShare_16 : decode cX2_usedShare 16 = .ok (.ldc 255, 2) := by decide +kernel
theorem dX2_usedShare_18 : decode cX2_usedShare 18 = .ok (.invokespecial 248, 3) := by decide +kernel
theorem dX2_usedShare_21 : decode cX2_usedShare 21 = .ok (.athrow, 1) := by decide +kernel
theorem dX2_usedShare_22 : decode cX2_usedShare 22 = .ok (.aload_n 0, 1) := by decide +kernel
theorem dX2_usedShare_23 : decode cX2_usedShare 23 = .ok (.getfield 12, 3) := by decide +kernel
theorem dX2_usedShare_26 : decode cX2_usedShare 26 = .ok (.invokevirtual 249, 3) := by decide +kernel
theorem dX2_usedShare_29 : decode cX2_usedShare 29 = .ok (.i2f, 1) := by decide +kernel
theorem dX2_usedShare_30 : decode cX2_usedShare 30 = .ok (.iload_n 1, 1) := by decide +kernel
theorem dX2_usedShare_31 : decode cX2_usedShare 31 = .ok (.i2f, 1) := by decide +kernel
theorem dX2_usedShare_32 : decode cX2_usedShare 32 = .ok (.fdiv, 1) := by decide +kernel
theorem dX2_usedShare_33 : decode cX2_usedShare 33 = .ok (.freturn, 1) := by decide +kernel
theorem dX2_isConsistent_0 : decode cX2_isConsistent 0 = .ok (.aload_n 0, 1) := by decide +kernel
theorem dX2_isConsistent_1 : decode cX2_isConsistent 1 = .ok (.getfield 12, 3) := by decide +kernel
theorem dX2_isConsistent_4 : decode cX2_isConsistent 4 = .ok (.invokevirtual 257, 3) := by decide +kernel
theorem dX2_isConsistent_7 : decode cX2_isConsistent 7 = .ok (.ireturn, 1) := by decide +kernel
theorem dX2_writeDisk_0 : decode cX2_writeDisk 0 = .ok (.aload_n 0, 1) := by decide +kernel
theorem dX2_writeDisk_1 : decode cX2_writeDisk 1 = .ok (.iload_n 1, 1) := by decide +kernel
theorem dX2_writeDisk_2 : decode cX2_writeDisk 2 = .ok (.invokevirtual 56, 3) := by decide +kernel
theorem dX2_writeDisk_5 : decode cX2_writeDisk 5 = .ok (.aload_n 0, 1) := by decide +kernel
theorem dX2_writeDisk_6 : decode cX2_writeDisk 6 = .ok (.getfield 29, 3) := by decide +kernel
theorem dX2_writeDisk_9 : decode cX2_writeDisk 9 = .ok (.iconst 0, 1) := by decide +kernel
theorem dX2_writeDisk_10 : decode cX2_writeDisk 10 = .ok (.invokevirtual 261, 3) := by decide +kernel
theorem dX2_writeDisk_13 : decode cX2_writeDisk 13 = .ok (.aload_n 0, 1) := by decide +kernel
theorem dX2_writeDisk_14 : decode cX2_writeDisk 14 = .ok (.getfield 29, 3) := by decide +kernel
theorem dX2_writeDisk_17 : decode cX2_writeDisk 17 = .ok (.aload_n 0, 1) := by decide +kernel
theorem dX2_writeDisk_18 : decode cX2_writeDisk 18 = .ok (.getfield 12, 3) := by decide +kernel
theorem dX2_writeDisk_21 : decode cX2_writeDisk 21 = .ok (.getfield 60, 3) := by decide +kernel
theorem dX2_writeDisk_24 : decode cX2_writeDisk 24 = .ok (.iload_n 1, 1) := by decide +kernel
theorem dX2_writeDisk_25 : decode cX2_writeDisk 25 = .ok (.caload, 1) := by decide +kernel
theorem dX2_writeDisk_26 : decode cX2_writeDisk 26 = .ok (.invokevirtual 264, 3) := by decide +kernel
theorem dX2_writeDisk_29 : decode cX2_writeDisk 29 = .ok (.pop, 1) := by decide +kernel
theorem dX2_writeDisk_30 : decode cX2_writeDisk 30 = .ok (.iload_n 1, 1) := by decide +kernel
theorem dX2_writeDisk_31 : decode cX2_writeDisk 31 = .ok (.bipush 32, 2) := by decide +kernel
theorem dX2_writeDisk_33 : decode cX2_writeDisk 33 = .ok (.imul, 1) := by decide +kernel
theorem dX2_writeDisk_34 : decode cX2_writeDisk 34 = .ok (.istore_n 2, 1) := by decide +kernel
theorem dX2_writeDisk_35 : decode cX2_writeDisk 35 = .ok (.iload_n 2, 1) := by decide +kernel
theorem dX2_writeDisk_36 : decode cX2_writeDisk 36 = .ok (.istore_n 3, 1) := by decide +kernel
theorem dX2_writeDisk_37 : decode cX2_writeDisk 37 = .ok (.iload_n 3, 1) := by decide +kernel
theorem dX2_writeDisk_38 : decode cX2_writeDisk 38 = .ok (.iload_n 2, 1) := by decide +kernel
theorem dX2_writeDisk_39 : decode cX2_writeDisk 39 = .ok (.aload_n 0, 1) := by decide +kernel
theorem dX2_writeDisk_40 : decode cX2_writeDisk 40 = .ok (.getfield 12, 3) := by decide +kernel
theorem dX2_writeDisk_43 : decode cX2_writeDisk 43 = .ok (.getfield 214, 3) := by decide +kernel
theorem dX2_writeDisk_46 : decode cX2_writeDisk 46 = .ok (.iload_n 1, 1) := by decide +kernel
theorem dX2_writeDisk_47 : decode cX2_writeDisk 47 = .ok (.iaload, 1) := by decide +kernel
theorem dX2_writeDisk_48 : decode cX2_writeDisk 48 = .ok (.iadd, 1) := by decide +kernel
theorem dX2_writeDisk_49 : decode cX2_writeDisk 49 = .ok (.if_icmp .ge 44, 3) := by decide +kernel
theorem dX2_writeDisk_52 : decode cX2_writeDisk 52 = .ok (.aload_n 0, 1) := by decide +kernel
theorem dX2_writeDisk_53 : decode cX2_writeDisk 53 = .ok (.getfield 12, 3) := by decide +kernel
theorem dX2_writeDisk_56 : decode cX2_writeDisk 56 = .ok (.getfield 222, 3) := by decide +kernel
theorem dX2_writeDisk_59 : decode cX2_writeDisk 59 = .ok (.iload_n 3, 1) := by decide +kernel
theorem dX2_writeDisk_60 : decode cX2_writeDisk 60 = .ok (.iaload, 1) := by decide +kernel
theorem dX2_writeDisk_61 : decode cX2_writeDisk 61 = .ok (.iconst (-1), 1) := by decide +kernel
theorem dX2_writeDisk_62 : decode cX2_writeDisk 62 = .ok (.if_icmp .eq 25, 3) := by decide +kernel
theorem dX2_writeDisk_65 : decode cX2_writeDisk 65 = .ok (.aload_n 0, 1) := by decide +kernel
theorem dX2_writeDisk_66 : decode cX2_writeDisk 66 = .ok (.aload_n 0, 1) := by decide +kernel
theorem dX2_writeDisk_67 : decode cX2_writeDisk 67 = .ok (.getfield 12, 3) := by decide +kernel
theorem dX2_writeDisk_70 : decode cX2_writeDisk 70 = .ok (.getfield 222, 3) := by decide +kernel
theorem dX2_writeDisk_73 : decode cX2_writeDisk 73 = .ok (.iload_n 3, 1) := by decide +kernel
theorem dX2_writeDisk_74 : decode cX2_writeDisk 74 = .ok (.iaload, 1) := by decide +kernel
theorem dX2_writeDisk_75 : decode cX2_writeDisk 75 = .ok (.aload_n 0, 1) := by decide +kernel
theorem dX2_writeDisk_76 : decode cX2_writeDisk 76 = .ok (.getfield 12, 3) := by decide +kernel
theorem dX2_writeDisk_79 : decode cX2_writeDisk 79 = .ok (.getfield 227, 3) := by decide +kernel
theorem dX2_writeDisk_82 : decode cX2_writeDisk 82 = .ok (.iload_n 3, 1) := by decide +kernel
theorem dX2_writeDisk_83 : decode cX2_writeDisk 83 = .ok (.baload, 1) := by decide +kernel
theorem dX2_writeDisk_84 : decode cX2_writeDisk 84 = .ok (.invokevirtual 268, 3) := by decide +kernel
theorem dX2_writeDisk_87 : decode cX2_writeDisk 87 = .ok (.iinc 3 1, 3) := by decide +kernel
theorem dX2_writeDisk_90 : decode cX2_writeDisk 90 = .ok (.goto (-53), 3) := by decide +kernel
theorem dX2_writeDisk_93 : decode cX2_writeDisk 93 = .ok (.aload_n 0, 1) := by decide +kernel
theorem dX2_writeDisk_94 : decode cX2_writeDisk 94 = .ok (.getfield 29, 3) := by decide +kernel
theorem dX2_writeDisk_97 : decode cX2_writeDisk 97 = .ok (.invokevirtual 272, 3) := by decide +kernel
theorem dX2_writeDisk_100 : decode cX2_writeDisk 100 = .ok (.ireturn, 1) := by decide +kernel
theorem dX2_lineAt_0 : decode cX2_lineAt 0 = .ok (.iload_n 1, 1) := by decide +kernel
theorem dX2_lineAt_1 : decode cX2_lineAt 1 = .ok (.ifCond .lt 14, 3) := by decide +kernel
theorem dX2_lineAt_4 : decode cX2_lineAt 4 = .ok (.iload_n 1, 1) := by decide +kernel
theorem dX2_lineAt_5 : decode cX2_lineAt 5 = .ok (.aload_n 0, 1) := by decide +kernel
theorem dX2_lineAt_6 : decode cX2_lineAt 6 = .ok (.getfield 29, 3) := by decide +kernel
theorem dX2_lineAt_9 : decode cX2_lineAt 9 = .ok (.invokevirtual 272, 3) := by decide +kernel
theorem dX2_lineAt_12 : decode cX2_lineAt 12 = .ok (.if_icmp .lt 14, 3) := by decide +kernel
theorem dX2_lineAt_15 : decode cX2_lineAt 15 = .ok (.new 217, 3) := by decide +kernel
theorem dX2_lineAt_18 : decode cX2_lineAt 18 = .ok (.dup, 1) := by decide +kernel
theorem dX2_lineAt_19 : decode cX2_lineAt 19 = .ok (.ldc_w 275, 3) := by decide +kernel
theorem dX2_lineAt_22 : decode cX2_lineAt 22 = .ok (.invokespecial 221, 3) := by decide +kernel
theorem dX2_lineAt_25 : decode cX2_lineAt 25 = .ok (.athrow, 1) := by decide +kernel
theorem dX2_lineAt_26 : decode cX2_lineAt 26 = .ok (.aload_n 0, 1) := by decide +kernel
theorem dX2_lineAt_27 : decode cX2_lineAt 27 = .ok (.getfield 29, 3) := by decide +kernel
theorem dX2_lineAt_30 : decode cX2_lineAt 30 = .ok (.iload_n 1, 1) := by decide +kernel
theorem dX2_lineAt_31 : decode cX2_lineAt 31 = .ok (.invokevirtual 277, 3) := by decide +kernel
theorem dX2_lineAt_34 : decode cX2_lineAt 34 = .ok (.ireturn, 1) := by decide +kernel
theorem dX2_checkDisk_0 : decode cX2_checkDisk 0 = .ok (.iload_n 1, 1) := by decide +kernel
theorem dX2_checkDisk_1 : decode cX2_checkDisk 1 = .ok (.ifCond .lt 14, 3) := by decide +kernel
theorem dX2_checkDisk_4 : decode cX2_checkDisk 4 = .ok (.iload_n 1, 1) := by decide +kernel
theorem dX2_checkDisk_5 : decode cX2_checkDisk 5 = .ok (.aload_n 0, 1) := by decide +kernel
theorem dX2_checkDisk_6 : decode cX2_checkDisk 6 = .ok (.getfield 12, 3) := by decide +kernel
theorem dX2_checkDisk_9 : decode cX2_checkDisk 9 = .ok (.getfield 44, 3) := by decide +kernel
theorem dX2_checkDisk_12 : decode cX2_checkDisk 12 = .ok (.if_icmp .lt 14, 3) := by decide +kernel
theorem dX2_checkDisk_15 : decode cX2_checkDisk 15 = .ok (.new 217, 3) := by decide +kernel
theorem dX2_checkDisk_18 : decode cX2_checkDisk 18 = .ok (.dup, 1) := by decide +kernel
theorem dX2_checkDisk_19 : decode cX2_checkDisk 19 = .ok (.ldc_w 281, 3) := by decide +kernel
theorem dX2_checkDisk_22 : decode cX2_checkDisk 22 = .ok (.invokespecial 221, 3) := by decide +kernel
theorem dX2_checkDisk_25 : decode cX2_checkDisk 25 = .ok (.athrow, 1) := by decide +kernel
theorem dX2_checkDisk_26 : decode cX2_checkDisk 26 = .ok (.return_, 1) := by decide +kernel
theorem dX2_checkNotFailed_0 : decode cX2_checkNotFailed 0 = .ok (.aload_n 0, 1) := by decide +kernel
theorem dX2_checkNotFailed_1 : decode cX2_checkNotFailed 1 = .ok (.getfield 12, 3) := by decide +kernel
theorem dX2_checkNotFailed_4 : decode cX2_checkNotFailed 4 = .ok (.getfield 60, 3) := by decide +kernel
theorem dX2_checkNotFailed_7 : decode cX2_checkNotFailed 7 = .ok (.iload_n 1, 1) := by decide +kernel
theorem dX2_checkNotFailed_8 : decode cX2_checkNotFailed 8 = .ok (.caload, 1) := by decide +kernel
theorem dX2_checkNotFailed_9 : decode cX2_checkNotFailed 9 = .ok (.bipush 102, 2) := by decide +kernel
theorem dX2_checkNotFailed_11 : decode cX2_checkNotFailed 11 = .ok (.if_icmp .ne 14, 3) := by decide +kernel
theorem dX2_checkNotFailed_14 : decode cX2_checkNotFailed 14 = .ok (.new 47, 3) := by decide +kernel
theorem dX2_checkNotFailed_17 : decode cX2_checkNotFailed 17 = .ok (.dup, 1) := by decide +kernel
theorem dX2_checkNotFailed_18 : decode cX2_checkNotFailed 18 = .ok (.ldc_w 283, 3) := by decide +kernel
theorem dX2_checkNotFailed_21 : decode cX2_checkNotFailed 21 = .ok (.invokespecial 51, 3) := by decide +kernel
theorem dX2_checkNotFailed_24 : decode cX2_checkNotFailed 24 = .ok (.athrow, 1) := by decide +kernel
theorem dX2_checkNotFailed_25 : decode cX2_checkNotFailed 25 = .ok (.return_, 1) := by decide +kernel
theorem dX2_checkTenant_0 : decode cX2_checkTenant 0 = .ok (.iload_n 1, 1) := by decide +kernel
theorem dX2_checkTenant_1 : decode cX2_checkTenant 1 = .ok (.ifCond .lt 14, 3) := by decide +kernel
theorem dX2_checkTenant_4 : decode cX2_checkTenant 4 = .ok (.iload_n 1, 1) := by decide +kernel
theorem dX2_checkTenant_5 : decode cX2_checkTenant 5 = .ok (.aload_n 0, 1) := by decide +kernel
theorem dX2_checkTenant_6 : decode cX2_checkTenant 6 = .ok (.getfield 22, 3) := by decide +kernel
theorem dX2_checkTenant_9 : decode cX2_checkTenant 9 = .ok (.getfield 72, 3) := by decide +kernel
theorem dX2_checkTenant_12 : decode cX2_checkTenant 12 = .ok (.if_icmp .lt 14, 3) := by decide +kernel
theorem dX2_checkTenant_15 : decode cX2_checkTenant 15 = .ok (.new 217, 3) := by decide +kernel
theorem dX2_checkTenant_18 : decode cX2_checkTenant 18 = .ok (.dup, 1) := by decide +kernel
theorem dX2_checkTenant_19 : decode cX2_checkTenant 19 = .ok (.ldc_w 285, 3) := by decide +kernel
theorem dX2_checkTenant_22 : decode cX2_checkTenant 22 = .ok (.invokespecial 221, 3) := by decide +kernel
theorem dX2_checkTenant_25 : decode cX2_checkTenant 25 = .ok (.athrow, 1) := by decide +kernel
theorem dX2_checkTenant_26 : decode cX2_checkTenant 26 = .ok (.return_, 1) := by decide +kernel
theorem dX2_checkBlock_0 : decode cX2_checkBlock 0 = .ok (.aload_n 0, 1) := by decide +kernel
theorem dX2_checkBlock_1 : decode cX2_checkBlock 1 = .ok (.iload_n 1, 1) := by decide +kernel
theorem dX2_checkBlock_2 : decode cX2_checkBlock 2 = .ok (.invokevirtual 118, 3) := by decide +kernel
theorem dX2_checkBlock_5 : decode cX2_checkBlock 5 = .ok (.iload_n 2, 1) := by decide +kernel
theorem dX2_checkBlock_6 : decode cX2_checkBlock 6 = .ok (.ifCond .lt 9, 3) := by decide +kernel
theorem dX2_checkBlock_9 : decode cX2_checkBlock 9 = .ok (.iload_n 2, 1) := by decide +kernel
theorem dX2_checkBlock_10 : decode cX2_checkBlock 10 = .ok (.bipush 100, 2) := by decide +kernel
theorem dX2_checkBlock_12 : decode cX2_checkBlock 12 = .ok (.if_icmp .lt 14, 3) := by decide +kernel
theorem dX2_checkBlock_15 : decode cX2_checkBlock 15 = .ok (.new 217, 3) := by decide +kernel
theorem dX2_checkBlock_18 : decode cX2_checkBlock 18 = .ok (.dup, 1) := by decide +kernel
theorem dX2_checkBlock_19 : decode cX2_checkBlock 19 = .ok (.ldc_w 287, 3) := by decide +kernel
theorem dX2_checkBlock_22 : decode cX2_checkBlock 22 = .ok (.invokespecial 221, 3) := by decide +kernel
theorem dX2_checkBlock_25 : decode cX2_checkBlock 25 = .ok (.athrow, 1) := by decide +kernel
theorem dX2_checkBlock_26 : decode cX2_checkBlock 26 = .ok (.return_, 1) := by decide +kernel
theorem dX2_checkRequest_0 : decode cX2_checkRequest 0 = .ok (.iload_n 1, 1) := by decide +kernel
theorem dX2_checkRequest_1 : decode cX2_checkRequest 1 = .ok (.ifCond .lt 14, 3) := by decide +kernel
theorem dX2_checkRequest_4 : decode cX2_checkRequest 4 = .ok (.iload_n 1, 1) := by decide +kernel
theorem dX2_checkRequest_5 : decode cX2_checkRequest 5 = .ok (.aload_n 0, 1) := by decide +kernel
theorem dX2_checkRequest_6 : decode cX2_checkRequest 6 = .ok (.getfield 22, 3) := by decide +kernel
theorem dX2_checkRequest_9 : decode cX2_checkRequest 9 = .ok (.getfield 289, 3) := by decide +kernel
theorem dX2_checkRequest_12 : decode cX2_checkRequest 12 = .ok (.if_icmp .lt 14, 3) := by decide +kernel
theorem dX2_checkRequest_15 : decode cX2_checkRequest 15 = .ok (.new 217, 3) := by decide +kernel
theorem dX2_checkRequest_18 : decode cX2_checkRequest 18 = .ok (.dup, 1) := by decide +kernel
theorem dX2_checkRequest_19 : decode cX2_checkRequest 19 = .ok (.ldc_w 292, 3) := by decide +kernel
theorem dX2_checkRequest_22 : decode cX2_checkRequest 22 = .ok (.invokespecial 221, 3) := by decide +kernel
theorem dX2_checkRequest_25 : decode cX2_checkRequest 25 = .ok (.athrow, 1) := by decide +kernel
theorem dX2_checkRequest_26 : decode cX2_checkRequest 26 = .ok (.return_, 1) := by decide +kernel
theorem dX2_checkRoomForRequest_0 : decode cX2_checkRoomForRequest 0 = .ok (.aload_n 0, 1) := by decide +kernel
theorem dX2_checkRoomForRequest_1 : decode cX2_checkRoomForRequest 1 = .ok (.getfield 22, 3) := by decide +kernel
theorem dX2_checkRoomForRequest_4 : decode cX2_checkRoomForRequest 4 = .ok (.getfield 294, 3) := by decide +kernel
theorem dX2_checkRoomForRequest_7 : decode cX2_checkRoomForRequest 7 = .ok (.bipush 40, 2) := by decide +kernel
theorem dX2_checkRoomForRequest_9 : decode cX2_checkRoomForRequest 9 = .ok (.if_icmp .lt 14, 3) := by decide +kernel
theorem dX2_checkRoomForRequest_12 : decode cX2_checkRoomForRequest 12 = .ok (.new 47, 3) := by decide +kernel
theorem dX2_checkRoomForRequest_15 : decode cX2_checkRoomForRequest 15 = .ok (.dup, 1) := by decide +kernel
theorem dX2_checkRoomForRequest_16 : decode cX2_checkRoomForRequest 16 = .ok (.ldc_w 297, 3) := by decide +kernel
theorem dX2_checkRoomForRequest_19 : decode cX2_checkRoomForRequest 19 = .ok (.invokespecial 51, 3) := by decide +kernel
theorem dX2_checkRoomForRequest_22 : decode cX2_checkRoomForRequest 22 = .ok (.athrow, 1) := by decide +kernel
theorem dX2_checkRoomForRequest_23 : decode cX2_checkRoomForRequest 23 = .ok (.aload_n 0, 1) := by decide +kernel
theorem dX2_checkRoomForRequest_24 : decode cX2_checkRoomForRequest 24 = .ok (.getfield 22, 3) := by decide +kernel
theorem dX2_checkRoomForRequest_27 : decode cX2_checkRoomForRequest 27 = .ok (.getfield 289, 3) := by decide +kernel
theorem dX2_checkRoomForRequest_30 : decode cX2_checkRoomForRequest 30 = .ok (.sipush 300, 3) := by decide +kernel
theorem dX2_checkRoomForRequest_33 : decode cX2_checkRoomForRequest 33 = .ok (.if_icmp .lt 14, 3) := by decide +kernel
theorem dX2_checkRoomForRequest_36 : decode cX2_checkRoomForRequest 36 = .ok (.new 47, 3) := by decide +kernel
theorem dX2_checkRoomForRequest_39 : decode cX2_checkRoomForRequest 39 = .ok (.dup, 1) := by decide +kernel
theorem dX2_checkRoomForRequest_40 : decode cX2_checkRoomForRequest 40 = .ok (.ldc_w 299, 3) := by decide +kernel
theorem dX2_checkRoomForRequest_43 : decode cX2_checkRoomForRequest 43 = .ok (.invokespecial 51, 3) := by decide +kernel
theorem dX2_checkRoomForRequest_46 : decode cX2_checkRoomForRequest 46 = .ok (.athrow, 1) := by decide +kernel
theorem dX2_checkRoomForRequest_47 : decode cX2_checkRoomForRequest 47 = .ok (.return_, 1) := by decide +kernel
theorem dX2_checkLosses_0 : decode cX2_checkLosses 0 = .ok (.iload_n 0, 1) := by decide +kernel
theorem dX2_checkLosses_1 : decode cX2_checkLosses 1 = .ok (.ifCond .lt 8, 3) := by decide +kernel
theorem dX2_checkLosses_4 : decode cX2_checkLosses 4 = .ok (.iload_n 0, 1) := by decide +kernel
theorem dX2_checkLosses_5 : decode cX2_checkLosses 5 = .ok (.iconst 3, 1) := by decide +kernel
theorem dX2_checkLosses_6 : decode cX2_checkLosses 6 = .ok (.if_icmp .le 14, 3) := by decide +kernel
theorem dX2_checkLosses_9 : decode cX2_checkLosses 9 = .ok (.new 37, 3) := by decide +kernel
theorem dX2_checkLosses_12 : decode cX2_checkLosses 12 = .ok (.dup, 1) := by decide +kernel
theorem dX2_checkLosses_13 : decode cX2_checkLosses 13 = .ok (.ldc_w 301, 3) := by decide +kernel
theorem dX2_checkLosses_16 : decode cX2_checkLosses 16 = .ok (.invokespecial 41, 3) := by decide +kernel
theorem dX2_checkLosses_19 : decode cX2_checkLosses 19 = .ok (.athrow, 1) := by decide +kernel
theorem dX2_checkLosses_20 : decode cX2_checkLosses 20 = .ok (.return_, 1) := by decide +kernel
theorem dX2_blockId_0 : decode cX2_blockId 0 = .ok (.iload_n 0, 1) := by decide +kernel
theorem dX2_blockId_1 : decode cX2_blockId 1 = .ok (.bipush 100, 2) := by decide +kernel
theorem dX2_blockId_3 : decode cX2_blockId 3 = .ok (.imul, 1) := by decide +kernel
theorem dX2_blockId_4 : decode cX2_blockId 4 = .ok (.iload_n 1, 1) := by decide +kernel
theorem dX2_blockId_5 : decode cX2_blockId 5 = .ok (.iadd, 1) := by decide +kernel
theorem dX2_blockId_6 : decode cX2_blockId 6 = .ok (.ireturn, 1) := by decide +kernel
theorem dX2_appendCopy_0 : decode cX2_appendCopy 0 = .ok (.aload_n 0, 1) := by decide +kernel
theorem dX2_appendCopy_1 : decode cX2_appendCopy 1 = .ok (.getfield 29, 3) := by decide +kernel
theorem dX2_appendCopy_4 : decode cX2_appendCopy 4 = .ok (.bipush 32, 2) := by decide +kernel
theorem dX2_appendCopy_6 : decode cX2_appendCopy 6 = .ok (.invokevirtual 264, 3) := by decide +kernel
theorem dX2_appendCopy_9 : decode cX2_appendCopy 9 = .ok (.pop, 1) := by decide +kernel
theorem dX2_appendCopy_10 : decode cX2_appendCopy 10 = .ok (.aload_n 0, 1) := by decide +kernel
theorem dX2_appendCopy_11 : decode cX2_appendCopy 11 = .ok (.getfield 29, 3) := by decide +kernel
theorem dX2_appendCopy_14 : decode cX2_appendCopy 14 = .ok (.iload_n 1, 1) := by decide +kernel
theorem dX2_appendCopy_15 : decode cX2_appendCopy 15 = .ok (.bipush 100, 2) := by decide +kernel
theorem dX2_appendCopy_17 : decode cX2_appendCopy 17 = .ok (.idiv, 1) := by decide +kernel
theorem dX2_appendCopy_18 : decode cX2_appendCopy 18 = .ok (.invokevirtual 303, 3) := by decide +kernel
theorem dX2_appendCopy_21 : decode cX2_appendCopy 21 = .ok (.pop, 1) := by decide +kernel
theorem dX2_appendCopy_22 : decode cX2_appendCopy 22 = .ok (.aload_n 0, 1) := by decide +kernel
theorem dX2_appendCopy_23 : decode cX2_appendCopy 23 = .ok (.getfield 29, 3) := by decide +kernel
theorem dX2_appendCopy_26 : decode cX2_appendCopy 26 = .ok (.bipush 46, 2) := by decide +kernel
theorem dX2_appendCopy_28 : decode cX2_appendCopy 28 = .ok (.invokevirtual 264, 3) := by decide +kernel
theorem dX2_appendCopy_31 : decode cX2_appendCopy 31 = .ok (.pop, 1) := by decide +kernel
theorem dX2_appendCopy_32 : decode cX2_appendCopy 32 = .ok (.aload_n 0, 1) := by decide +kernel
theorem dX2_appendCopy_33 : decode cX2_appendCopy 33 = .ok (.getfield 29, 3) := by decide +kernel
theorem dX2_appendCopy_36 : decode cX2_appendCopy 36 = .ok (.iload_n 1, 1) := by decide +kernel
theorem dX2_appendCopy_37 : decode cX2_appendCopy 37 = .ok (.bipush 100, 2) := by decide +kernel
theorem dX2_appendCopy_39 : decode cX2_appendCopy 39 = .ok (.irem, 1) := by decide +kernel
theorem dX2_appendCopy_40 : decode cX2_appendCopy 40 = .ok (.invokevirtual 303, 3) := by decide +kernel
theorem dX2_appendCopy_43 : decode cX2_appendCopy 43 = .ok (.pop, 1) := by decide +kernel
theorem dX2_appendCopy_44 : decode cX2_appendCopy 44 = .ok (.iload_n 2, 1) := by decide +kernel
theorem dX2_appendCopy_45 : decode cX2_appendCopy 45 = .ok (.ifCond .eq 13, 3) := by decide +kernel
theorem dX2_appendCopy_48 : decode cX2_appendCopy 48 = .ok (.aload_n 0, 1) := by decide +kernel
theorem dX2_appendCopy_49 : decode cX2_appendCopy 49 = .ok (.getfield 29, 3) := by decide +kernel
theorem dX2_appendCopy_52 : decode cX2_appendCopy 52 = .ok (.bipush 33, 2) := by decide +kernel
theorem dX2_appendCopy_54 : decode cX2_appendCopy 54 = .ok (.invokevirtual 264, 3) := by decide +kernel
theorem dX2_appendCopy_57 : decode cX2_appendCopy 57 = .ok (.pop, 1) := by decide +kernel
theorem dX2_appendCopy_58 : decode cX2_appendCopy 58 = .ok (.return_, 1) := by decide +kernel
theorem dX2_serveRounds_0 : decode cX2_serveRounds 0 = .ok (.iload_n 1, 1) := by decide +kernel
theorem dX2_serveRounds_1 : decode cX2_serveRounds 1 = .ok (.istore_n 2, 1) := by decide +kernel
theorem dX2_serveRounds_2 : decode cX2_serveRounds 2 = .ok (.iconst 0, 1) := by decide +kernel
theorem dX2_serveRounds_3 : decode cX2_serveRounds 3 = .ok (.istore_n 3, 1) := by decide +kernel
theorem dX2_serveRounds_4 : decode cX2_serveRounds 4 = .ok (.iload_n 3, 1) := by decide +kernel
theorem dX2_serveRounds_5 : decode cX2_serveRounds 5 = .ok (.bipush 20, 2) := by decide +kernel
theorem dX2_serveRounds_7 : decode cX2_serveRounds 7 = .ok (.if_icmp .gt 50, 3) := by decide +kernel
theorem dX2_serveRounds_10 : decode cX2_serveRounds 10 = .ok (.iload_n 2, 1) := by decide +kernel
theorem dX2_serveRounds_11 : decode cX2_serveRounds 11 = .ok (.istore 4, 2) := by decide +kernel
theorem dX2_serveRounds_13 : decode cX2_serveRounds 13 = .ok (.iconst 0, 1) := by decide +kernel
theorem dX2_serveRounds_14 : decode cX2_serveRounds 14 = .ok (.istore 5, 2) := by decide +kernel
theorem dX2_serveRounds_16 : decode cX2_serveRounds 16 = .ok (.iload 5, 2) := by decide +kernel
theorem dX2_serveRounds_18 : decode cX2_serveRounds 18 = .ok (.aload_n 0, 1) := by decide +kernel
theorem dX2_serveRounds_19 : decode cX2_serveRounds 19 = .ok (.getfield 22, 3) := by decide +kernel
theorem dX2_serveRounds_22 : decode cX2_serveRounds 22 = .ok (.getfield 72, 3) := by decide +kernel
theorem dX2_serveRounds_25 : decode cX2_serveRounds 25 = .ok (.if_icmp .ge 19, 3) := by decide +kernel
theorem dX2_serveRounds_28 : decode cX2_serveRounds 28 = .ok (.iload_n 2, 1) := by decide +kernel
theorem dX2_serveRounds_29 : decode cX2_serveRounds 29 = .ok (.aload_n 0, 1) := by decide +kernel
theorem dX2_serveRounds_30 : decode cX2_serveRounds 30 = .ok (.iload 5, 2) := by decide +kernel
theorem dX2_serveRounds_32 : decode cX2_serveRounds 32 = .ok (.iload_n 2, 1) := by decide +kernel
theorem dX2_serveRounds_33 : decode cX2_serveRounds 33 = .ok (.invokevirtual 306, 3) := by decide +kernel
theorem dX2_serveRounds_36 : decode cX2_serveRounds 36 = .ok (.isub, 1) := by decide +kernel
theorem dX2_serveRounds_37 : decode cX2_serveRounds 37 = .ok (.istore_n 2, 1) := by decide +kernel
theorem dX2_serveRounds_38 : decode cX2_serveRounds 38 = .ok (.iinc 5 1, 3) := by decide +kernel
theorem dX2_serveRounds_41 : decode cX2_serveRounds 41 = .ok (.goto (-25), 3) := by decide +kernel
theorem dX2_serveRounds_44 : decode cX2_serveRounds 44 = .ok (.iload_n 2, 1) := by decide +kernel
theorem dX2_serveRounds_45 : decode cX2_serveRounds 45 = .ok (.iload 4, 2) := by decide +kernel
theorem dX2_serveRounds_47 : decode cX2_serveRounds 47 = .ok (.if_icmp .ne 4, 3) := by decide +kernel
theorem dX2_serveRounds_50 : decode cX2_serveRounds 50 = .ok (.return_, 1) := by decide +kernel
theorem dX2_serveRounds_51 : decode cX2_serveRounds 51 = .ok (.iinc 3 1, 3) := by decide +kernel
theorem dX2_serveRounds_54 : decode cX2_serveRounds 54 = .ok (.goto (-50), 3) := by decide +kernel
theorem dX2_serveRounds_57 : decode cX2_serveRounds 57 = .ok (.return_, 1) := by decide +kernel
theorem dX2_serveOldest_0 : decode cX2_serveOldest 0 = .ok (.aload_n 0, 1) := by decide +kernel
theorem dX2_serveOldest_1 : decode cX2_serveOldest 1 = .ok (.getfield 22, 3) := by decide +kernel
theorem dX2_serveOldest_4 : decode cX2_serveOldest 4 = .ok (.iload_n 1, 1) := by decide +kernel
theorem dX2_serveOldest_5 : decode cX2_serveOldest 5 = .ok (.invokevirtual 121, 3) := by decide +kernel
theorem dX2_serveOldest_8 : decode cX2_serveOldest 8 = .ok (.ifCond .ne 5, 3) := by decide +kernel
theorem dX2_serveOldest_11 : decode cX2_serveOldest 11 = .ok (.iconst 0, 1) := by decide +kernel
theorem dX2_serveOldest_12 : decode cX2_serveOldest 12 = .ok (.ireturn, 1) := by decide +kernel
theorem dX2_serveOldest_13 : decode cX2_serveOldest 13 = .ok (.aload_n 0, 1) := by decide +kernel
theorem dX2_serveOldest_14 : decode cX2_serveOldest 14 = .ok (.getfield 22, 3) := by decide +kernel
theorem dX2_serveOldest_17 : decode cX2_serveOldest 17 = .ok (.iload_n 1, 1) := by decide +kernel
theorem dX2_serveOldest_18 : decode cX2_serveOldest 18 = .ok (.invokevirtual 309, 3) := by decide +kernel
theorem dX2_serveOldest_21 : decode cX2_serveOldest 21 = .ok (.istore_n 3, 1) := by decide +kernel
theorem dX2_serveOldest_22 : decode cX2_serveOldest 22 = .ok (.aload_n 0, 1) := by decide +kernel
theorem dX2_serveOldest_23 : decode cX2_serveOldest 23 = .ok (.getfield 22, 3) := by decide +kernel
theorem dX2_serveOldest_26 : decode cX2_serveOldest 26 = .ok (.getfield 106, 3) := by decide +kernel
theorem dX2_serveOldest_29 : decode cX2_serveOldest 29 = .ok (.iload_n 3, 1) := by decide +kernel
theorem dX2_serveOldest_30 : decode cX2_serveOldest 30 = .ok (.baload, 1) := by decide +kernel
theorem dX2_serveOldest_31 : decode cX2_serveOldest 31 = .ok (.ifCond .eq 15, 3) := by decide +kernel
theorem dX2_serveOldest_34 : decode cX2_serveOldest 34 = .ok (.aload_n 0, 1) := by decide +kernel
theorem dX2_serveOldest_35 : decode cX2_serveOldest 35 = .ok (.getfield 12, 3) := by decide +kernel
theorem dX2_serveOldest_38 : decode cX2_serveOldest 38 = .ok (.getfield 80, 3) := by decide +kernel
theorem dX2_serveOldest_41 : decode cX2_serveOldest 41 = .ok (.iload_n 1, 1) := by decide +kernel
theorem dX2_serveOldest_42 : decode cX2_serveOldest 42 = .ok (.iaload, 1) := by decide +kernel
theorem dX2_serveOldest_43 : decode cX2_serveOldest 43 = .ok (.goto 4, 3) := by decide +kernel
theorem dX2_serveOldest_46 : decode cX2_serveOldest 46 = .ok (.iconst 1, 1) := by decide +kernel
theorem dX2_serveOldest_47 : decode cX2_serveOldest 47 = .ok (.istore 4, 2) := by decide +kernel
theorem dX2_serveOldest_49 : decode cX2_serveOldest 49 = .ok (.iload 4, 2) := by decide +kernel
theorem dX2_serveOldest_51 : decode cX2_serveOldest 51 = .ok (.iload_n 2, 1) := by decide +kernel
theorem dX2_serveOldest_52 : decode cX2_serveOldest 52 = .ok (.if_icmp .le 5, 3) := by decide +kernel
theorem dX2_serveOldest_55 : decode cX2_serveOldest 55 = .ok (.iconst 0, 1) := by decide +kernel
theorem dX2_serveOldest_56 : decode cX2_serveOldest 56 = .ok (.ireturn, 1) := by decide +kernel
theorem dX2_serveOldest_57 : decode cX2_serveOldest 57 = .ok (.aload_n 0, 1) := by decide +kernel
theorem dX2_serveOldest_58 : decode cX2_serveOldest 58 = .ok (.getfield 22, 3) := by decide +kernel
theorem dX2_serveOldest_61 : decode cX2_serveOldest 61 = .ok (.getfield 106, 3) := by decide +kernel
theorem dX2_serveOldest_64 : decode cX2_serveOldest 64 = .ok (.iload_n 3, 1) := by decide +kernel
theorem dX2_serveOldest_65 : decode cX2_serveOldest 65 = .ok (.baload, 1) := by decide +kernel
theorem dX2_serveOldest_66 : decode cX2_serveOldest 66 = .ok (.ifCond .eq 31, 3) := by decide +kernel
theorem dX2_serveOldest_69 : decode cX2_serveOldest 69 = .ok (.aload_n 0, 1) := by decide +kernel
theorem dX2_serveOldest_70 : decode cX2_serveOldest 70 = .ok (.getfield 12, 3) := by decide +kernel
theorem dX2_serveOldest_73 : decode cX2_serveOldest 73 = .ok (.aload_n 0, 1) := by decide +kernel
theorem dX2_serveOldest_74 : decode cX2_serveOldest 74 = .ok (.getfield 22, 3) := by decide +kernel
theorem dX2_serveOldest_77 : decode cX2_serveOldest 77 = .ok (.getfield 312, 3) := by decide +kernel
theorem dX2_serveOldest_80 : decode cX2_serveOldest 80 = .ok (.iload_n 3, 1) := by decide +kernel
theorem dX2_serveOldest_81 : decode cX2_serveOldest 81 = .ok (.iaload, 1) := by decide +kernel
theorem dX2_serveOldest_82 : decode cX2_serveOldest 82 = .ok (.aload_n 0, 1) := by decide +kernel
theorem dX2_serveOldest_83 : decode cX2_serveOldest 83 = .ok (.getfield 22, 3) := by decide +kernel
theorem dX2_serveOldest_86 : decode cX2_serveOldest 86 = .ok (.getfield 115, 3) := by decide +kernel
theorem dX2_serveOldest_89 : decode cX2_serveOldest 89 = .ok (.iload_n 3, 1) := by decide +kernel
theorem dX2_serveOldest_90 : decode cX2_serveOldest 90 = .ok (.iaload, 1) := by decide +kernel
theorem dX2_serveOldest_91 : decode cX2_serveOldest 91 = .ok (.invokevirtual 315, 3) := by decide +kernel
theorem dX2_serveOldest_94 : decode cX2_serveOldest 94 = .ok (.goto 8, 3) := by decide +kernel
theorem dX2_serveOldest_97 : decode cX2_serveOldest 97 = .ok (.aload_n 0, 1) := by decide +kernel
theorem dX2_serveOldest_98 : decode cX2_serveOldest 98 = .ok (.iload_n 3, 1) := by decide +kernel
theorem dX2_serveOldest_99 : decode cX2_serveOldest 99 = .ok (.invokevirtual 319, 3) := by decide +kernel
theorem dX2_serveOldest_102 : decode cX2_serveOldest 102 = .ok (.istore 5, 2) := by decide +kernel
theorem dX2_serveOldest_104 : decode cX2_serveOldest 104 = .ok (.aload_n 0, 1) := by decide +kernel
theorem dX2_serveOldest_105 : decode cX2_serveOldest 105 = .ok (.getfield 22, 3) := by decide +kernel
theorem dX2_serveOldest_108 : decode cX2_serveOldest 108 = .ok (.iload_n 1, 1) := by decide +kernel
theorem dX2_serveOldest_109 : decode cX2_serveOldest 109 = .ok (.iload_n 3, 1) := by decide +kernel
theorem dX2_serveOldest_110 : decode cX2_serveOldest 110 = .ok (.iload 5, 2) := by decide +kernel
theorem dX2_serveOldest_112 : decode cX2_serveOldest 112 = .ok (.invokevirtual 322, 3) := by decide +kernel
theorem dX2_serveOldest_115 : decode cX2_serveOldest 115 = .ok (.iload 4, 2) := by decide +kernel
theorem dX2_serveOldest_117 : decode cX2_serveOldest 117 = .ok (.ireturn, 1) := by decide +kernel
theorem dX2_serveRead_0 : decode cX2_serveRead 0 = .ok (.aload_n 0, 1) := by decide +kernel
theorem dX2_serveRead_1 : decode cX2_serveRead 1 = .ok (.getfield 22, 3) := by decide +kernel
theorem dX2_serveRead_4 : decode cX2_serveRead 4 = .ok (.getfield 312, 3) := by decide +kernel
theorem dX2_serveRead_7 : decode cX2_serveRead 7 = .ok (.iload_n 1, 1) := by decide +kernel
theorem dX2_serveRead_8 : decode cX2_serveRead 8 = .ok (.iaload, 1) := by decide +kernel
theorem dX2_serveRead_9 : decode cX2_serveRead 9 = .ok (.istore_n 2, 1) := by decide +kernel
theorem dX2_serveRead_10 : decode cX2_serveRead 10 = .ok (.aload_n 0, 1) := by decide +kernel
theorem dX2_serveRead_11 : decode cX2_serveRead 11 = .ok (.getfield 12, 3) := by decide +kernel
theorem dX2_serveRead_14 : decode cX2_serveRead 14 = .ok (.iload_n 2, 1) := by decide +kernel
theorem dX2_serveRead_15 : decode cX2_serveRead 15 = .ok (.invokevirtual 169, 3) := by decide +kernel
theorem dX2_serveRead_18 : decode cX2_serveRead 18 = .ok (.ifCond .ne 5, 3) := by decide +kernel
theorem dX2_serveRead_21 : decode cX2_serveRead 21 = .ok (.iconst 0, 1) := by decide +kernel
theorem dX2_serveRead_22 : decode cX2_serveRead 22 = .ok (.ireturn, 1) := by decide +kernel
theorem dX2_serveRead_23 : decode cX2_serveRead 23 = .ok (.aload_n 0, 1) := by decide +kernel
theorem dX2_serveRead_24 : decode cX2_serveRead 24 = .ok (.getfield 22, 3) := by decide +kernel
theorem dX2_serveRead_27 : decode cX2_serveRead 27 = .ok (.getfield 115, 3) := by decide +kernel
theorem dX2_serveRead_30 : decode cX2_serveRead 30 = .ok (.iload_n 1, 1) := by decide +kernel
theorem dX2_serveRead_31 : decode cX2_serveRead 31 = .ok (.aload_n 0, 1) := by decide +kernel
theorem dX2_serveRead_32 : decode cX2_serveRead 32 = .ok (.getfield 12, 3) := by decide +kernel
theorem dX2_serveRead_35 : decode cX2_serveRead 35 = .ok (.getfield 174, 3) := by decide +kernel
theorem dX2_serveRead_38 : decode cX2_serveRead 38 = .ok (.iload_n 2, 1) := by decide +kernel
theorem dX2_serveRead_39 : decode cX2_serveRead 39 = .ok (.iaload, 1) := by decide +kernel
theorem dX2_serveRead_40 : decode cX2_serveRead 40 = .ok (.iastore, 1) := by decide +kernel
theorem dX2_serveRead_41 : decode cX2_serveRead 41 = .ok (.iconst 1, 1) := by decide +kernel
theorem dX2_serveRead_42 : decode cX2_serveRead 42 = .ok (.ireturn, 1) := by decide +kernel
