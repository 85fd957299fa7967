theorem dX3_init_13 : decode cX3_init 13 = .ok (.bipush 33, 2) := by decide +kernel
theorem dX3_init_15 : decode cX3_init 15 = .ok (.newarray .int, 2) := by decide +kernel
theorem dX3_init_17 : decode cX3_init 17 = .ok (.putfield 15, 3) := by decide +kernel
theorem dX3_init_20 : decode cX3_init 20 = .ok (.aload_n 0, 1) := by decide +kernel
theorem dX3_init_21 : decode cX3_init 21 = .ok (.bipush 33, 2) := by decide +kernel
theorem dX3_init_23 : decode cX3_init 23 = .ok (.newarray .int, 2) := by decide +kernel
theorem dX3_init_25 : decode cX3_init 25 = .ok (.putfield 18, 3) := by decide +kernel
theorem dX3_init_28 : decode cX3_init 28 = .ok (.aload_n 0, 1) := by decide +kernel
theorem dX3_init_29 : decode cX3_init 29 = .ok (.bipush 100, 2) := by decide +kernel
theorem dX3_init_31 : decode cX3_init 31 = .ok (.newarray .int, 2) := by decide +kernel
theorem dX3_init_33 : decode cX3_init 33 = .ok (.putfield 21, 3) := by decide +kernel
theorem dX3_init_36 : decode cX3_init 36 = .ok (.return_, 1) := by decide +kernel
theorem dX4_init_0 : decode cX4_init 0 = .ok (.aload_n 0, 1) := by decide +kernel
theorem dX4_init_1 : decode cX4_init 1 = .ok (.invokespecial 3, 3) := by decide +kernel
theorem dX4_init_4 : decode cX4_init 4 = .ok (.new 9, 3) := by decide +kernel
theorem dX4_init_7 : decode cX4_init 7 = .ok (.dup, 1) := by decide +kernel
theorem dX4_init_8 : decode cX4_init 8 = .ok (.iconst 3, 1) := by decide +kernel
theorem dX4_init_9 : decode cX4_init 9 = .ok (.iconst 4, 1) := by decide +kernel
theorem dX4_init_10 : decode cX4_init 10 = .ok (.iconst 2, 1) := by decide +kernel
theorem dX4_init_11 : decode cX4_init 11 = .ok (.iconst 2, 1) := by decide +kernel
theorem dX4_init_12 : decode cX4_init 12 = .ok (.invokespecial 11, 3) := by decide +kernel
theorem dX4_init_15 : decode cX4_init 15 = .ok (.astore_n 1, 1) := by decide +kernel
theorem dX4_init_16 : decode cX4_init 16 = .ok (.aload_n 0, 1) := by decide +kernel
theorem dX4_init_17 : decode cX4_init 17 = .ok (.new 14, 3) := by decide +kernel
theorem dX4_init_20 : decode cX4_init 20 = .ok (.dup, 1) := by decide +kernel
theorem dX4_init_21 : decode cX4_init 21 = .ok (.aload_n 1, 1) := by decide +kernel
theorem dX4_init_22 : decode cX4_init 22 = .ok (.invokespecial 16, 3) := by decide +kernel
theorem dX4_init_25 : decode cX4_init 25 = .ok (.putfield 19, 3) := by decide +kernel
theorem dX4_init_28 : decode cX4_init 28 = .ok (.aload_n 0, 1) := by decide +kernel
theorem dX4_init_29 : decode cX4_init 29 = .ok (.new 23, 3) := by decide +kernel
theorem dX4_init_32 : decode cX4_init 32 = .ok (.dup, 1) := by decide +kernel
theorem dX4_init_33 : decode cX4_init 33 = .ok (.aload_n 1, 1) := by decide +kernel
theorem dX4_init_34 : decode cX4_init 34 = .ok (.invokespecial 25, 3) := by decide +kernel
theorem dX4_init_37 : decode cX4_init 37 = .ok (.putfield 26, 3) := by decide +kernel
theorem dX4_init_40 : decode cX4_init 40 = .ok (.aload_n 0, 1) := by decide +kernel
theorem dX4_init_41 : decode cX4_init 41 = .ok (.iconst 2, 1) := by decide +kernel
theorem dX4_init_42 : decode cX4_init 42 = .ok (.anewarray 14, 3) := by decide +kernel
theorem dX4_init_45 : decode cX4_init 45 = .ok (.putfield 30, 3) := by decide +kernel
theorem dX4_init_48 : decode cX4_init 48 = .ok (.aload_n 0, 1) := by decide +kernel
theorem dX4_init_49 : decode cX4_init 49 = .ok (.new 34, 3) := by decide +kernel
theorem dX4_init_52 : decode cX4_init 52 = .ok (.dup, 1) := by decide +kernel
theorem dX4_init_53 : decode cX4_init 53 = .ok (.invokespecial 36, 3) := by decide +kernel
theorem dX4_init_56 : decode cX4_init 56 = .ok (.putfield 37, 3) := by decide +kernel
theorem dX4_init_59 : decode cX4_init 59 = .ok (.return_, 1) := by decide +kernel
theorem dX4_configure_0 : decode cX4_configure 0 = .ok (.iload_n 1, 1) := by decide +kernel
theorem dX4_configure_1 : decode cX4_configure 1 = .ok (.iconst 1, 1) := by decide +kernel
theorem dX4_configure_2 : decode cX4_configure 2 = .ok (.iconst 5, 1) := by decide +kernel
theorem dX4_configure_3 : decode cX4_configure 3 = .ok (.invokestatic 41, 3) := by decide +kernel
theorem dX4_configure_6 : decode cX4_configure 6 = .ok (.ifCond .eq 35, 3) := by decide +kernel
theorem dX4_configure_9 : decode cX4_configure 9 = .ok (.iload_n 2, 1) := by decide +kernel
theorem dX4_configure_10 : decode cX4_configure 10 = .ok (.iconst 1, 1) := by decide +kernel
theorem dX4_configure_11 : decode cX4_configure 11 = .ok (.iconst 5, 1) := by decide +kernel
theorem dX4_configure_12 : decode cX4_configure 12 = .ok (.invokestatic 41, 3) := by decide +kernel
theorem dX4_configure_15 : decode cX4_configure 15 = .ok (.ifCond .eq 26, 3) := by decide +kernel
theorem dX4_configure_18 : decode cX4_configure 18 = .ok (.iload_n 3, 1) := by decide +kernel
theorem dX4_configure_19 : decode cX4_configure 19 = .ok (.iconst 2, 1) := by decide +kernel
theorem dX4_configure_20 : decode cX4_configure 20 = .ok (.iconst 3, 1) := by decide +kernel
theorem dX4_configure_21 : decode cX4_configure 21 = .ok (.invokestatic 41, 3) := by decide +kernel
theorem dX4_configure_24 : decode cX4_configure 24 = .ok (.ifCond .eq 17, 3) := by decide +kernel
theorem dX4_configure_27 : decode cX4_configure 27 = .ok (.iload 4, 2) := by decide +kernel
theorem dX4_configure_29 : decode cX4_configure 29 = .ok (.iconst 1, 1) := by decide +kernel
theorem dX4_configure_30 : decode cX4_configure 30 = .ok (.iconst 4, 1) := by decide +kernel
theorem dX4_configure_31 : decode cX4_configure 31 = .ok (.invokestatic 41, 3) := by decide +kernel
theorem dX4_configure_34 : decode cX4_configure 34 = .ok (.ifCond .eq 7, 3) := by decide +kernel
theorem dX4_configure_37 : decode cX4_configure 37 = .ok (.iconst 1, 1) := by decide +kernel
theorem dX4_configure_38 : decode cX4_configure 38 = .ok (.goto 4, 3) := by decide +kernel
theorem dX4_configure_41 : decode cX4_configure 41 = .ok (.iconst 0, 1) := by decide +kernel
theorem dX4_configure_42 : decode cX4_configure 42 = .ok (.istore 5, 2) := by decide +kernel
theorem dX4_configure_44 : decode cX4_configure 44 = .ok (.iload 5, 2) := by decide +kernel
theorem dX4_configure_46 : decode cX4_configure 46 = .ok (.ifCond .ne 5, 3) := by decide +kernel
theorem dX4_configure_49 : decode cX4_configure 49 = .ok (.iconst (-1), 1) := by decide +kernel
theorem dX4_configure_50 : decode cX4_configure 50 = .ok (.ireturn, 1) := by decide +kernel
theorem dX4_configure_51 : decode cX4_configure 51 = .ok (.aload_n 0, 1) := by decide +kernel
theorem dX4_configure_52 : decode cX4_configure 52 = .ok (.getfield 26, 3) := by decide +kernel
theorem dX4_configure_55 : decode cX4_configure 55 = .ok (.aload_n 0, 1) := by decide +kernel
theorem dX4_configure_56 : decode cX4_configure 56 = .ok (.getfield 19, 3) := by decide +kernel
theorem dX4_configure_59 : decode cX4_configure 59 = .ok (.invokevirtual 45, 3) := by decide +kernel
theorem dX4_configure_62 : decode cX4_configure 62 = .ok (.aload_n 0, 1) := by decide +kernel
theorem dX4_configure_63 : decode cX4_configure 63 = .ok (.getfield 19, 3) := by decide +kernel
theorem dX4_configure_66 : decode cX4_configure 66 = .ok (.new 9, 3) := by decide +kernel
theorem dX4_configure_69 : decode cX4_configure 69 = .ok (.dup, 1) := by decide +kernel
theorem dX4_configure_70 : decode cX4_configure 70 = .ok (.iload_n 1, 1) := by decide +kernel
theorem dX4_configure_71 : decode cX4_configure 71 = .ok (.iload_n 2, 1) := by decide +kernel
theorem dX4_configure_72 : decode cX4_configure 72 = .ok (.iload_n 3, 1) := by decide +kernel
theorem dX4_configure_73 : decode cX4_configure 73 = .ok (.iload 4, 2) := by decide +kernel
theorem dX4_configure_75 : decode cX4_configure 75 = .ok (.invokespecial 11, 3) := by decide +kernel
theorem dX4_configure_78 : decode cX4_configure 78 = .ok (.invokevirtual 49, 3) := by decide +kernel
theorem dX4_configure_81 : decode cX4_configure 81 = .ok (.aload_n 0, 1) := by decide +kernel
theorem dX4_configure_82 : decode cX4_configure 82 = .ok (.getfield 19, 3) := by decide +kernel
theorem dX4_configure_85 : decode cX4_configure 85 = .ok (.getfield 52, 3) := by decide +kernel
theorem dX4_configure_88 : decode cX4_configure 88 = .ok (.getfield 56, 3) := by decide +kernel
theorem dX4_configure_91 : decode cX4_configure 91 = .ok (.ireturn, 1) := by decide +kernel
theorem dX4_setStrategy_0 : decode cX4_setStrategy 0 = .ok (.iload_n 1, 1) := by decide +kernel
theorem dX4_setStrategy_1 : decode cX4_setStrategy 1 = .ok (.iconst 0, 1) := by decide +kernel
theorem dX4_setStrategy_2 : decode cX4_setStrategy 2 = .ok (.iconst 2, 1) := by decide +kernel
theorem dX4_setStrategy_3 : decode cX4_setStrategy 3 = .ok (.invokestatic 41, 3) := by decide +kernel
theorem dX4_setStrategy_6 : decode cX4_setStrategy 6 = .ok (.ifCond .ne 5, 3) := by decide +kernel
theorem dX4_setStrategy_9 : decode cX4_setStrategy 9 = .ok (.iconst (-1), 1) := by decide +kernel
theorem dX4_setStrategy_10 : decode cX4_setStrategy 10 = .ok (.ireturn, 1) := by decide +kernel
theorem dX4_setStrategy_11 : decode cX4_setStrategy 11 = .ok (.aload_n 0, 1) := by decide +kernel
theorem dX4_setStrategy_12 : decode cX4_setStrategy 12 = .ok (.getfield 26, 3) := by decide +kernel
theorem dX4_setStrategy_15 : decode cX4_setStrategy 15 = .ok (.aload_n 0, 1) := by decide +kernel
theorem dX4_setStrategy_16 : decode cX4_setStrategy 16 = .ok (.getfield 19, 3) := by decide +kernel
theorem dX4_setStrategy_19 : decode cX4_setStrategy 19 = .ok (.invokevirtual 45, 3) := by decide +kernel
theorem dX4_setStrategy_22 : decode cX4_setStrategy 22 = .ok (.aload_n 0, 1) := by decide +kernel
theorem dX4_setStrategy_23 : decode cX4_setStrategy 23 = .ok (.getfield 19, 3) := by decide +kernel
theorem dX4_setStrategy_26 : decode cX4_setStrategy 26 = .ok (.getfield 60, 3) := by decide +kernel
theorem dX4_setStrategy_29 : decode cX4_setStrategy 29 = .ok (.istore_n 2, 1) := by decide +kernel
theorem dX4_setStrategy_30 : decode cX4_setStrategy 30 = .ok (.aload_n 0, 1) := by decide +kernel
theorem dX4_setStrategy_31 : decode cX4_setStrategy 31 = .ok (.getfield 19, 3) := by decide +kernel
theorem dX4_setStrategy_34 : decode cX4_setStrategy 34 = .ok (.iload_n 1, 1) := by decide +kernel
theorem dX4_setStrategy_35 : decode cX4_setStrategy 35 = .ok (.putfield 60, 3) := by decide +kernel
theorem dX4_setStrategy_38 : decode cX4_setStrategy 38 = .ok (.iload_n 2, 1) := by decide +kernel
theorem dX4_setStrategy_39 : decode cX4_setStrategy 39 = .ok (.ireturn, 1) := by decide +kernel
theorem dX4_setReserve_0 : decode cX4_setReserve 0 = .ok (.iload_n 1, 1) := by decide +kernel
theorem dX4_setReserve_1 : decode cX4_setReserve 1 = .ok (.iconst 0, 1) := by decide +kernel
theorem dX4_setReserve_2 : decode cX4_setReserve 2 = .ok (.iconst 3, 1) := by decide +kernel
theorem dX4_setReserve_3 : decode cX4_setReserve 3 = .ok (.invokestatic 41, 3) := by decide +kernel
theorem dX4_setReserve_6 : decode cX4_setReserve 6 = .ok (.ifCond .ne 5, 3) := by decide +kernel
theorem dX4_setReserve_9 : decode cX4_setReserve 9 = .ok (.iconst (-1), 1) := by decide +kernel
theorem dX4_setReserve_10 : decode cX4_setReserve 10 = .ok (.ireturn, 1) := by decide +kernel
theorem dX4_setReserve_11 : decode cX4_setReserve 11 = .ok (.aload_n 0, 1) := by decide +kernel
theorem dX4_setReserve_12 : decode cX4_setReserve 12 = .ok (.getfield 26, 3) := by decide +kernel
theorem dX4_setReserve_15 : decode cX4_setReserve 15 = .ok (.aload_n 0, 1) := by decide +kernel
theorem dX4_setReserve_16 : decode cX4_setReserve 16 = .ok (.getfield 19, 3) := by decide +kernel
theorem dX4_setReserve_19 : decode cX4_setReserve 19 = .ok (.invokevirtual 45, 3) := by decide +kernel
theorem dX4_setReserve_22 : decode cX4_setReserve 22 = .ok (.aload_n 0, 1) := by decide +kernel
theorem dX4_setReserve_23 : decode cX4_setReserve 23 = .ok (.getfield 19, 3) := by decide +kernel
theorem dX4_setReserve_26 : decode cX4_setReserve 26 = .ok (.getfield 63, 3) := by decide +kernel
theorem dX4_setReserve_29 : decode cX4_setReserve 29 = .ok (.istore_n 2, 1) := by decide +kernel
theorem dX4_setReserve_30 : decode cX4_setReserve 30 = .ok (.aload_n 0, 1) := by decide +kernel
theorem dX4_setReserve_31 : decode cX4_setReserve 31 = .ok (.getfield 19, 3) := by decide +kernel
theorem dX4_setReserve_34 : decode cX4_setReserve 34 = .ok (.iload_n 1, 1) := by decide +kernel
theorem dX4_setReserve_35 : decode cX4_setReserve 35 = .ok (.putfield 63, 3) := by decide +kernel
theorem dX4_setReserve_38 : decode cX4_setReserve 38 = .ok (.iload_n 2, 1) := by decide +kernel
theorem dX4_setReserve_39 : decode cX4_setReserve 39 = .ok (.ireturn, 1) := by decide +kernel
theorem dX4_setReturning_0 : decode cX4_setReturning 0 = .ok (.iload_n 1, 1) := by decide +kernel
theorem dX4_setReturning_1 : decode cX4_setReturning 1 = .ok (.iconst 0, 1) := by decide +kernel
theorem dX4_setReturning_2 : decode cX4_setReturning 2 = .ok (.iconst 1, 1) := by decide +kernel
theorem dX4_setReturning_3 : decode cX4_setReturning 3 = .ok (.invokestatic 41, 3) := by decide +kernel
theorem dX4_setReturning_6 : decode cX4_setReturning 6 = .ok (.ifCond .ne 5, 3) := by decide +kernel
theorem dX4_setReturning_9 : decode cX4_setReturning 9 = .ok (.iconst (-1), 1) := by decide +kernel
theorem dX4_setReturning_10 : decode cX4_setReturning 10 = .ok (.ireturn, 1) := by decide +kernel
theorem dX4_setReturning_11 : decode cX4_setReturning 11 = .ok (.aload_n 0, 1) := by decide +kernel
theorem dX4_setReturning_12 : decode cX4_setReturning 12 = .ok (.getfield 26, 3) := by decide +kernel
theorem dX4_setReturning_15 : decode cX4_setReturning 15 = .ok (.aload_n 0, 1) := by decide +kernel
theorem dX4_setReturning_16 : decode cX4_setReturning 16 = .ok (.getfield 19, 3) := by decide +kernel
theorem dX4_setReturning_19 : decode cX4_setReturning 19 = .ok (.invokevirtual 45, 3) := by decide +kernel
theorem dX4_setReturning_22 : decode cX4_setReturning 22 = .ok (.aload_n 0, 1) := by decide +kernel
theorem dX4_setReturning_23 : decode cX4_setReturning 23 = .ok (.getfield 19, 3) := by decide +kernel
theorem dX4_setReturning_26 : decode cX4_setReturning 26 = .ok (.iload_n 1, 1) := by decide +kernel
theorem dX4_setReturning_27 : decode cX4_setReturning 27 = .ok (.iconst 1, 1) := by decide +kernel
theorem dX4_setReturning_28 : decode cX4_setReturning 28 = .ok (.if_icmp .ne 7, 3) := by decide +kernel
theorem dX4_setReturning_31 : decode cX4_setReturning 31 = .ok (.iconst 1, 1) := by decide +kernel
theorem dX4_setReturning_32 : decode cX4_setReturning 32 = .ok (.goto 4, 3) := by decide +kernel
theorem dX4_setReturning_35 : decode cX4_setReturning 35 = .ok (.iconst 0, 1) := by decide +kernel
theorem dX4_setReturning_36 : decode cX4_setReturning 36 = .ok (.putfield 66, 3) := by decide +kernel
theorem dX4_setReturning_39 : decode cX4_setReturning 39 = .ok (.aload_n 0, 1) := by decide +kernel
theorem dX4_setReturning_40 : decode cX4_setReturning 40 = .ok (.getfield 19, 3) := by decide +kernel
theorem dX4_setReturning_43 : decode cX4_setReturning 43 = .ok (.invokevirtual 70, 3) := by decide +kernel
theorem dX4_setReturning_46 : decode cX4_setReturning 46 = .ok (.ireturn, 1) := by decide +kernel
theorem dX4_cellCount_0 : decode cX4_cellCount 0 = .ok (.aload_n 0, 1) := by decide +kernel
theorem dX4_cellCount_1 : decode cX4_cellCount 1 = .ok (.getfield 19, 3) := by decide +kernel
theorem dX4_cellCount_4 : decode cX4_cellCount 4 = .ok (.getfield 52, 3) := by decide +kernel
theorem dX4_cellCount_7 : decode cX4_cellCount 7 = .ok (.getfield 74, 3) := by decide +kernel
theorem dX4_cellCount_10 : decode cX4_cellCount 10 = .ok (.ireturn, 1) := by decide +kernel
theorem dX4_channelCount_0 : decode cX4_channelCount 0 = .ok (.aload_n 0, 1) := by decide +kernel
theorem dX4_channelCount_1 : decode cX4_channelCount 1 = .ok (.getfield 19, 3) := by decide +kernel
theorem dX4_channelCount_4 : decode cX4_channelCount 4 = .ok (.getfield 52, 3) := by decide +kernel
theorem dX4_channelCount_7 : decode cX4_channelCount 7 = .ok (.getfield 56, 3) := by decide +kernel
theorem dX4_channelCount_10 : decode cX4_channelCount 10 = .ok (.ireturn, 1) := by decide +kernel
theorem dX4_groupOf_0 : decode cX4_groupOf 0 = .ok (.aload_n 0, 1) := by decide +kernel
theorem dX4_groupOf_1 : decode cX4_groupOf 1 = .ok (.iload_n 1, 1) := by decide +kernel
theorem dX4_groupOf_2 : decode cX4_groupOf 2 = .ok (.invokevirtual 77, 3) := by decide +kernel
theorem dX4_groupOf_5 : decode cX4_groupOf 5 = .ok (.ifCond .eq 17, 3) := by decide +kernel
theorem dX4_groupOf_8 : decode cX4_groupOf 8 = .ok (.aload_n 0, 1) := by decide +kernel
theorem dX4_groupOf_9 : decode cX4_groupOf 9 = .ok (.getfield 19, 3) := by decide +kernel
theorem dX4_groupOf_12 : decode cX4_groupOf 12 = .ok (.getfield 52, 3) := by decide +kernel
theorem dX4_groupOf_15 : decode cX4_groupOf 15 = .ok (.iload_n 1, 1) := by decide +kernel
theorem dX4_groupOf_16 : decode cX4_groupOf 16 = .ok (.invokevirtual 81, 3) := by decide +kernel
theorem dX4_groupOf_19 : decode cX4_groupOf 19 = .ok (.goto 4, 3) := by decide +kernel
theorem dX4_groupOf_22 : decode cX4_groupOf 22 = .ok (.iconst (-1), 1) := by decide +kernel
theorem dX4_groupOf_23 : decode cX4_groupOf 23 = .ok (.ireturn, 1) := by decide +kernel
theorem dX4_distance_0 : decode cX4_distance 0 = .ok (.aload_n 0, 1) := by decide +kernel
theorem dX4_distance_1 : decode cX4_distance 1 = .ok (.iload_n 1, 1) := by decide +kernel
theorem dX4_distance_2 : decode cX4_distance 2 = .ok (.invokevirtual 77, 3) := by decide +kernel
theorem dX4_distance_5 : decode cX4_distance 5 = .ok (.ifCond .eq 26, 3) := by decide +kernel
theorem dX4_distance_8 : decode cX4_distance 8 = .ok (.aload_n 0, 1) := by decide +kernel
theorem dX4_distance_9 : decode cX4_distance 9 = .ok (.iload_n 2, 1) := by decide +kernel
theorem dX4_distance_10 : decode cX4_distance 10 = .ok (.invokevirtual 77, 3) := by decide +kernel
theorem dX4_distance_13 : decode cX4_distance 13 = .ok (.ifCond .eq 18, 3) := by decide +kernel
theorem dX4_distance_16 : decode cX4_distance 16 = .ok (.aload_n 0, 1) := by decide +kernel
theorem dX4_distance_17 : decode cX4_distance 17 = .ok (.getfield 19, 3) := by decide +kernel
theorem dX4_distance_20 : decode cX4_distance 20 = .ok (.getfield 52, 3) := by decide +kernel
theorem dX4_distance_23 : decode cX4_distance 23 = .ok (.iload_n 1, 1) := by decide +kernel
theorem dX4_distance_24 : decode cX4_distance 24 = .ok (.iload_n 2, 1) := by decide +kernel
theorem dX4_distance_25 : decode cX4_distance 25 = .ok (.invokevirtual 85, 3) := by decide +kernel
theorem dX4_distance_28 : decode cX4_distance 28 = .ok (.goto 4, 3) := by decide +kernel
theorem dX4_distance_31 : decode cX4_distance 31 = .ok (.iconst (-1), 1) := by decide +kernel
theorem dX4_distance_32 : decode cX4_distance 32 = .ok (.ireturn, 1) := by decide +kernel
theorem dX4_startCall_0 : decode cX4_startCall 0 = .ok (.aload_n 0, 1) := by decide +kernel
theorem dX4_startCall_1 : decode cX4_startCall 1 = .ok (.getfield 19, 3) := by decide +kernel
theorem dX4_startCall_4 : decode cX4_startCall 4 = .ok (.iload_n 1, 1) := by decide +kernel
theorem dX4_startCall_5 : decode cX4_startCall 5 = .ok (.invokevirtual 89, 3) := by decide +kernel
theorem dX4_startCall_8 : decode cX4_startCall 8 = .ok (.istore_n 2, 1) := by decide +kernel
theorem dX4_startCall_9 : decode cX4_startCall 9 = .ok (.iload_n 2, 1) := by decide +kernel
theorem dX4_startCall_10 : decode cX4_startCall 10 = .ok (.ifCond .eq 5, 3) := by decide +kernel
theorem dX4_startCall_13 : decode cX4_startCall 13 = .ok (.iload_n 2, 1) := by decide +kernel
theorem dX4_startCall_14 : decode cX4_startCall 14 = .ok (.ireturn, 1) := by decide +kernel
theorem dX4_startCall_15 : decode cX4_startCall 15 = .ok (.aload_n 0, 1) := by decide +kernel
theorem dX4_startCall_16 : decode cX4_startCall 16 = .ok (.getfield 26, 3) := by decide +kernel
theorem dX4_startCall_19 : decode cX4_startCall 19 = .ok (.aload_n 0, 1) := by decide +kernel
theorem dX4_startCall_20 : decode cX4_startCall 20 = .ok (.getfield 19, 3) := by decide +kernel
theorem dX4_startCall_23 : decode cX4_startCall 23 = .ok (.invokevirtual 45, 3) := by decide +kernel
theorem dX4_startCall_26 : decode cX4_startCall 26 = .ok (.aload_n 0, 1) := by decide +kernel
theorem dX4_startCall_27 : decode cX4_startCall 27 = .ok (.getfield 19, 3) := by decide +kernel
theorem dX4_startCall_30 : decode cX4_startCall 30 = .ok (.iload_n 1, 1) := by decide +kernel
theorem dX4_startCall_31 : decode cX4_startCall 31 = .ok (.invokevirtual 92, 3) := by decide +kernel
theorem dX4_startCall_34 : decode cX4_startCall 34 = .ok (.ireturn, 1) := by decide +kernel
theorem dX4_endCall_0 : decode cX4_endCall 0 = .ok (.aload_n 0, 1) := by decide +kernel
theorem dX4_endCall_1 : decode cX4_endCall 1 = .ok (.getfield 19, 3) := by decide +kernel
theorem dX4_endCall_4 : decode cX4_endCall 4 = .ok (.iload_n 1, 1) := by decide +kernel
theorem dX4_endCall_5 : decode cX4_endCall 5 = .ok (.invokevirtual 95, 3) := by decide +kernel
theorem dX4_endCall_8 : decode cX4_endCall 8 = .ok (.ifCond .ne 6, 3) := by decide +kernel
theorem dX4_endCall_11 : decode cX4_endCall 11 = .ok (.bipush (-4), 2) := by decide +kernel
theorem dX4_endCall_13 : decode cX4_endCall 13 = .ok (.ireturn, 1) := by decide +kernel
theorem dX4_endCall_14 : decode cX4_endCall 14 = .ok (.aload_n 0, 1) := by decide +kernel
theorem dX4_endCall_15 : decode cX4_endCall 15 = .ok (.getfield 26, 3) := by decide +kernel
theorem dX4_endCall_18 : decode cX4_endCall 18 = .ok (.aload_n 0, 1) := by decide +kernel
theorem dX4_endCall_19 : decode cX4_endCall 19 = .ok (.getfield 19, 3) := by decide +kernel
theorem dX4_endCall_22 : decode cX4_endCall 22 = .ok (.invokevirtual 45, 3) := by decide +kernel
theorem dX4_endCall_25 : decode cX4_endCall 25 = .ok (.aload_n 0, 1) := by decide +kernel
theorem dX4_endCall_26 : decode cX4_endCall 26 = .ok (.getfield 19, 3) := by decide +kernel
theorem dX4_endCall_29 : decode cX4_endCall 29 = .ok (.iload_n 1, 1) := by decide +kernel
theorem dX4_endCall_30 : decode cX4_endCall 30 = .ok (.invokevirtual 98, 3) := by decide +kernel
theorem dX4_endCall_33 : decode cX4_endCall 33 = .ok (.ireturn, 1) := by decide +kernel
theorem dX4_handOver_0 : decode cX4_handOver 0 = .ok (.aload_n 0, 1) := by decide +kernel
theorem dX4_handOver_1 : decode cX4_handOver 1 = .ok (.getfield 19, 3) := by decide +kernel
theorem dX4_handOver_4 : decode cX4_handOver 4 = .ok (.iload_n 1, 1) := by decide +kernel
theorem dX4_handOver_5 : decode cX4_handOver 5 = .ok (.iload_n 2, 1) := by decide +kernel
theorem dX4_handOver_6 : decode cX4_handOver 6 = .ok (.invokevirtual 101, 3) := by decide +kernel
theorem dX4_handOver_9 : decode cX4_handOver 9 = .ok (.istore_n 3, 1) := by decide +kernel
theorem dX4_handOver_10 : decode cX4_handOver 10 = .ok (.iload_n 3, 1) := by decide +kernel
theorem dX4_handOver_11 : decode cX4_handOver 11 = .ok (.ifCond .eq 5, 3) := by decide +kernel
theorem dX4_handOver_14 : decode cX4_handOver 14 = .ok (.iload_n 3, 1) := by decide +kernel
theorem dX4_handOver_15 : decode cX4_handOver 15 = .ok (.ireturn, 1) := by decide +kernel
theorem dX4_handOver_16 : decode cX4_handOver 16 = .ok (.aload_n 0, 1) := by decide +kernel
theorem dX4_handOver_17 : decode cX4_handOver 17 = .ok (.getfield 26, 3) := by decide +kernel
theorem dX4_handOver_20 : decode cX4_handOver 20 = .ok (.aload_n 0, 1) := by decide +kernel
theorem dX4_handOver_21 : decode cX4_handOver 21 = .ok (.getfield 19, 3) := by decide +kernel
theorem dX4_handOver_24 : decode cX4_handOver 24 = .ok (.invokevirtual 45, 3) := by decide +kernel
theorem dX4_handOver_27 : decode cX4_handOver 27 = .ok (.aload_n 0, 1) := by decide +kernel
theorem dX4_handOver_28 : decode cX4_handOver 28 = .ok (.getfield 19, 3) := by decide +kernel
theorem dX4_handOver_31 : decode cX4_handOver 31 = .ok (.iload_n 1, 1) := by decide +kernel
theorem dX4_handOver_32 : decode cX4_handOver 32 = .ok (.iload_n 2, 1) := by decide +kernel
theorem dX4_handOver_33 : decode cX4_handOver 33 = .ok (.invokevirtual 104, 3) := by decide +kernel
theorem dX4_handOver_36 : decode cX4_handOver 36 = .ok (.ireturn, 1) := by decide +kernel
theorem dX4_cellOf_0 : decode cX4_cellOf 0 = .ok (.aload_n 0, 1) := by decide +kernel
theorem dX4_cellOf_1 : decode cX4_cellOf 1 = .ok (.getfield 19, 3) := by decide +kernel
theorem dX4_cellOf_4 : decode cX4_cellOf 4 = .ok (.iload_n 1, 1) := by decide +kernel
theorem dX4_cellOf_5 : decode cX4_cellOf 5 = .ok (.invokevirtual 95, 3) := by decide +kernel
theorem dX4_cellOf_8 : decode cX4_cellOf 8 = .ok (.ifCond .eq 14, 3) := by decide +kernel
theorem dX4_cellOf_11 : decode cX4_cellOf 11 = .ok (.aload_n 0, 1) := by decide +kernel
theorem dX4_cellOf_12 : decode cX4_cellOf 12 = .ok (.getfield 19, 3) := by decide +kernel
theorem dX4_cellOf_15 : decode cX4_cellOf 15 = .ok (.iload_n 1, 1) := by decide +kernel
theorem dX4_cellOf_16 : decode cX4_cellOf 16 = .ok (.invokevirtual 107, 3) := by decide +kernel
theorem dX4_cellOf_19 : decode cX4_cellOf 19 = .ok (.goto 5, 3) := by decide +kernel
theorem dX4_cellOf_22 : decode cX4_cellOf 22 = .ok (.bipush (-4), 2) := by decide +kernel
theorem dX4_cellOf_24 : decode cX4_cellOf 24 = .ok (.ireturn, 1) := by decide +kernel
theorem dX4_channelOf_0 : decode cX4_channelOf 0 = .ok (.aload_n 0, 1) := by decide +kernel
theorem dX4_channelOf_1 : decode cX4_channelOf 1 = .ok (.getfield 19, 3) := by decide +kernel
theorem dX4_channelOf_4 : decode cX4_channelOf 4 = .ok (.iload_n 1, 1) := by decide +kernel
theorem dX4_channelOf_5 : decode cX4_channelOf 5 = .ok (.invokevirtual 95, 3) := by decide +kernel
theorem dX4_channelOf_8 : decode cX4_channelOf 8 = .ok (.ifCond .eq 14, 3) := by decide +kernel
theorem dX4_channelOf_11 : decode cX4_channelOf 11 = .ok (.aload_n 0, 1) := by decide +kernel
theorem dX4_channelOf_12 : decode cX4_channelOf 12 = .ok (.getfield 19, 3) := by decide +kernel
theorem dX4_channelOf_15 : decode cX4_channelOf 15 = .ok (.iload_n 1, 1) := by decide +kernel
theorem dX4_channelOf_16 : decode cX4_channelOf 16 = .ok (.invokevirtual 110, 3) := by decide +kernel
theorem dX4_channelOf_19 : decode cX4_channelOf 19 = .ok (.goto 5, 3) := by decide +kernel
theorem dX4_channelOf_22 : decode cX4_channelOf 22 = .ok (.bipush (-4), 2) := by decide +kernel
theorem dX4_channelOf_24 : decode cX4_channelOf 24 = .ok (.ireturn, 1) := by decide +kernel
theorem dX4_isInFixedScheme_0 : decode cX4_isInFixedScheme 0 = .ok (.aload_n 0, 1) := by decide +kernel
theorem dX4_isInFixedScheme_1 : decode cX4_isInFixedScheme 1 = .ok (.getfield 19, 3) := by decide +kernel
theorem dX4_isInFixedScheme_4 : decode cX4_isInFixedScheme 4 = .ok (.iload_n 1, 1) := by decide +kernel
theorem dX4_isInFixedScheme_5 : decode cX4_isInFixedScheme 5 = .ok (.invokevirtual 95, 3) := by decide +kernel
theorem dX4_isInFixedScheme_8 : decode cX4_isInFixedScheme 8 = .ok (.ifCond .eq 17, 3) := by decide +kernel
theorem dX4_isInFixedScheme_11 : decode cX4_isInFixedScheme 11 = .ok (.aload_n 0, 1) := by decide +kernel
theorem dX4_isInFixedScheme_12 : decode cX4_isInFixedScheme 12 = .ok (.getfield 19, 3) := by decide +kernel
theorem dX4_isInFixedScheme_15 : decode cX4_isInFixedScheme 15 = .ok (.iload_n 1, 1) := by decide +kernel
theorem dX4_isInFixedScheme_16 : decode cX4_isInFixedScheme 16 = .ok (.invokevirtual 120, 3) := by decide +kernel
theorem dX4_isInFixedScheme_19 : decode cX4_isInFixedScheme 19 = .ok (.invokestatic 116, 3) := by decide +kernel
theorem dX4_isInFixedScheme_22 : decode cX4_isInFixedScheme 22 = .ok (.goto 5, 3) := by decide +kernel
theorem dX4_isInFixedScheme_25 : decode cX4_isInFixedScheme 25 = .ok (.bipush (-4), 2) := by decide +kernel
theorem dX4_isInFixedScheme_27 : decode cX4_isInFixedScheme 27 = .ok (.ireturn, 1) := by decide +kernel
theorem dX4_isAvailable_0 : decode cX4_isAvailable 0 = .ok (.aload_n 0, 1) := by decide +kernel
theorem dX4_isAvailable_1 : decode cX4_isAvailable 1 = .ok (.iload_n 1, 1) := by decide +kernel
theorem dX4_isAvailable_2 : decode cX4_isAvailable 2 = .ok (.invokevirtual 77, 3) := by decide +kernel
theorem dX4_isAvailable_5 : decode cX4_isAvailable 5 = .ok (.ifCond .eq 11, 3) := by decide +kernel
theorem dX4_isAvailable_8 : decode cX4_isAvailable 8 = .ok (.aload_n 0, 1) := by decide +kernel
theorem dX4_isAvailable_9 : decode cX4_isAvailable 9 = .ok (.iload_n 2, 1) := by decide +kernel
theorem dX4_isAvailable_10 : decode cX4_isAvailable 10 = .ok (.invokevirtual 123, 3) := by decide +kernel
theorem dX4_isAvailable_13 : decode cX4_isAvailable 13 = .ok (.ifCond .ne 5, 3) := by decide +kernel
theorem dX4_isAvailable_16 : decode cX4_isAvailable 16 = .ok (.iconst (-1), 1) := by decide +kernel
theorem dX4_isAvailable_17 : decode cX4_isAvailable 17 = .ok (.ireturn, 1) := by decide +kernel
theorem dX4_isAvailable_18 : decode cX4_isAvailable 18 = .ok (.aload_n 0, 1) := by decide +kernel
theorem dX4_isAvailable_19 : decode cX4_isAvailable 19 = .ok (.getfield 19, 3) := by decide +kernel
theorem dX4_isAvailable_22 : decode cX4_isAvailable 22 = .ok (.iload_n 1, 1) := by decide +kernel
theorem dX4_isAvailable_23 : decode cX4_isAvailable 23 = .ok (.invokevirtual 126, 3) := by decide +kernel
theorem dX4_isAvailable_26 : decode cX4_isAvailable 26 = .ok (.iload_n 2, 1) := by decide +kernel
theorem dX4_isAvailable_27 : decode cX4_isAvailable 27 = .ok (.invokestatic 129, 3) := by decide +kernel
theorem dX4_isAvailable_30 : decode cX4_isAvailable 30 = .ok (.invokestatic 116, 3) := by decide +kernel
theorem dX4_isAvailable_33 : decode cX4_isAvailable 33 = .ok (.ireturn, 1) := by decide +kernel
theorem dX4_availableCount_0 : decode cX4_availableCount 0 = .ok (.aload_n 0, 1) := by decide +kernel
theorem dX4_availableCount_1 : decode cX4_availableCount 1 = .ok (.iload_n 1, 1) := by decide +kernel
theorem dX4_availableCount_2 : decode cX4_availableCount 2 = .ok (.invokevirtual 77, 3) := by decide +kernel
theorem dX4_availableCount_5 : decode cX4_availableCount 5 = .ok (.ifCond .eq 17, 3) := by decide +kernel
theorem dX4_availableCount_8 : decode cX4_availableCount 8 = .ok (.aload_n 0, 1) := by decide +kernel
theorem dX4_availableCount_9 : decode cX4_availableCount 9 = .ok (.getfield 19, 3) := by decide +kernel
theorem dX4_availableCount_12 : decode cX4_availableCount 12 = .ok (.iload_n 1, 1) := by decide +kernel
theorem dX4_availableCount_13 : decode cX4_availableCount 13 = .ok (.invokevirtual 139, 3) := by decide +kernel
theorem dX4_availableCount_16 : decode cX4_availableCount 16 = .ok (.invokestatic 142, 3) := by decide +kernel
theorem dX4_availableCount_19 : decode cX4_availableCount 19 = .ok (.goto 4, 3) := by decide +kernel
theorem dX4_availableCount_22 : decode cX4_availableCount 22 = .ok (.iconst (-1), 1) := by decide +kernel
theorem dX4_availableCount_23 : decode cX4_availableCount 23 = .ok (.ireturn, 1) := by decide +kernel
theorem dX4_usedCount_0 : decode cX4_usedCount 0 = .ok (.aload_n 0, 1) := by decide +kernel
theorem dX4_usedCount_1 : decode cX4_usedCount 1 = .ok (.iload_n 1, 1) := by decide +kernel
theorem dX4_usedCount_2 : decode cX4_usedCount 2 = .ok (.invokevirtual 77, 3) := by decide +kernel
theorem dX4_usedCount_5 : decode cX4_usedCount 5 = .ok (.ifCond .eq 17, 3) := by decide +kernel
theorem dX4_usedCount_8 : decode cX4_usedCount 8 = .ok (.aload_n 0, 1) := by decide +kernel
theorem dX4_usedCount_9 : decode cX4_usedCount 9 = .ok (.getfield 19, 3) := by decide +kernel
theorem dX4_usedCount_12 : decode cX4_usedCount 12 = .ok (.iload_n 1, 1) := by decide +kernel
theorem dX4_usedCount_13 : decode cX4_usedCount 13 = .ok (.invokevirtual 147, 3) := by decide +kernel
theorem dX4_usedCount_16 : decode cX4_usedCount 16 = .ok (.invokestatic 142, 3) := by decide +kernel
theorem dX4_usedCount_19 : decode cX4_usedCount 19 = .ok (.goto 4, 3) := by decide +kernel
theorem dX4_usedCount_22 : decode cX4_usedCount 22 = .ok (.iconst (-1), 1) := by decide +kernel
theorem dX4_usedCount_23 : decode cX4_usedCount 23 = .ok (.ireturn, 1) := by decide +kernel
theorem dX4_lockedCount_0 : decode cX4_lockedCount 0 = .ok (.aload_n 0, 1) := by decide +kernel
theorem dX4_lockedCount_1 : decode cX4_lockedCount 1 = .ok (.iload_n 1, 1) := by decide +kernel
theorem dX4_lockedCount_2 : decode cX4_lockedCount 2 = .ok (.invokevirtual 77, 3) := by decide +kernel
theorem dX4_lockedCount_5 : decode cX4_lockedCount 5 = .ok (.ifCond .ne 5, 3) := by decide +kernel
theorem dX4_lockedCount_8 : decode cX4_lockedCount 8 = .ok (.iconst (-1), 1) := by decide +kernel
theorem dX4_lockedCount_9 : decode cX4_lockedCount 9 = .ok (.ireturn, 1) := by decide +kernel
theorem dX4_lockedCount_10 : decode cX4_lockedCount 10 = .ok (.aload_n 0, 1) := by decide +kernel
theorem dX4_lockedCount_11 : decode cX4_lockedCount 11 = .ok (.getfield 19, 3) := by decide +kernel
theorem dX4_lockedCount_14 : decode cX4_lockedCount 14 = .ok (.iload_n 1, 1) := by decide +kernel
theorem dX4_lockedCount_15 : decode cX4_lockedCount 15 = .ok (.invokevirtual 147, 3) := by decide +kernel
theorem dX4_lockedCount_18 : decode cX4_lockedCount 18 = .ok (.aload_n 0, 1) := by decide +kernel
theorem dX4_lockedCount_19 : decode cX4_lockedCount 19 = .ok (.getfield 19, 3) := by decide +kernel
theorem dX4_lockedCount_22 : decode cX4_lockedCount 22 = .ok (.iload_n 1, 1) := by decide +kernel
theorem dX4_lockedCount_23 : decode cX4_lockedCount 23 = .ok (.invokevirtual 126, 3) := by decide +kernel
theorem dX4_lockedCount_26 : decode cX4_lockedCount 26 = .ok (.ior, 1) := by decide +kernel
theorem dX4_lockedCount_27 : decode cX4_lockedCount 27 = .ok (.istore_n 2, 1) := by decide +kernel
theorem dX4_lockedCount_28 : decode cX4_lockedCount 28 = .ok (.aload_n 0, 1) := by decide +kernel
theorem dX4_lockedCount_29 : decode cX4_lockedCount 29 = .ok (.getfield 19, 3) := by decide +kernel
theorem dX4_lockedCount_32 : decode cX4_lockedCount 32 = .ok (.getfield 52, 3) := by decide +kernel
theorem dX4_lockedCount_35 : decode cX4_lockedCount 35 = .ok (.iload_n 1, 1) := by decide +kernel
theorem dX4_lockedCount_36 : decode cX4_lockedCount 36 = .ok (.invokevirtual 150, 3) := by decide +kernel
theorem dX4_lockedCount_39 : decode cX4_lockedCount 39 = .ok (.iload_n 2, 1) := by decide +kernel
theorem dX4_lockedCount_40 : decode cX4_lockedCount 40 = .ok (.iconst (-1), 1) := by decide +kernel
theorem dX4_lockedCount_41 : decode cX4_lockedCount 41 = .ok (.ixor, 1) := by decide +kernel
theorem dX4_lockedCount_42 : decode cX4_lockedCount 42 = .ok (.iand, 1) := by decide +kernel
theorem dX4_lockedCount_43 : decode cX4_lockedCount 43 = .ok (.invokestatic 142, 3) := by decide +kernel
theorem dX4_lockedCount_46 : decode cX4_lockedCount 46 = .ok (.ireturn, 1) := by decide +kernel
theorem dX4_nextChannel_0 : decode cX4_nextChannel 0 = .ok (.aload_n 0, 1) := by decide +kernel
theorem dX4_nextChannel_1 : decode cX4_nextChannel 1 = .ok (.iload_n 1, 1) := by decide +kernel
theorem dX4_nextChannel_2 : decode cX4_nextChannel 2 = .ok (.invokevirtual 77, 3) := by decide +kernel
theorem dX4_nextChannel_5 : decode cX4_nextChannel 5 = .ok (.ifCond .eq 14, 3) := by decide +kernel
theorem dX4_nextChannel_8 : decode cX4_nextChannel 8 = .ok (.aload_n 0, 1) := by decide +kernel
theorem dX4_nextChannel_9 : decode cX4_nextChannel 9 = .ok (.getfield 19, 3) := by decide +kernel
theorem dX4_nextChannel_12 : decode cX4_nextChannel 12 = .ok (.iload_n 1, 1) := by decide +kernel
theorem dX4_nextChannel_13 : decode cX4_nextChannel 13 = .ok (.invokevirtual 153, 3) := by decide +kernel
theorem dX4_nextChannel_16 : decode cX4_nextChannel 16 = .ok (.goto 4, 3) := by decide +kernel
theorem dX4_nextChannel_19 : decode cX4_nextChannel 19 = .ok (.iconst (-1), 1) := by decide +kernel
theorem dX4_nextChannel_20 : decode cX4_nextChannel 20 = .ok (.ireturn, 1) := by decide +kernel
theorem dX4_nextDonor_0 : decode cX4_nextDonor 0 = .ok (.aload_n 0, 1) := by decide +kernel
theorem dX4_nextDonor_1 : decode cX4_nextDonor 1 = .ok (.iload_n 1, 1) := by decide +kernel
theorem dX4_nextDonor_2 : decode cX4_nextDonor 2 = .ok (.invokevirtual 77, 3) := by decide +kernel
theorem dX4_nextDonor_5 : decode cX4_nextDonor 5 = .ok (.ifCond .eq 14, 3) := by decide +kernel
theorem dX4_nextDonor_8 : decode cX4_nextDonor 8 = .ok (.aload_n 0, 1) := by decide +kernel
theorem dX4_nextDonor_9 : decode cX4_nextDonor 9 = .ok (.getfield 19, 3) := by decide +kernel
theorem dX4_nextDonor_12 : decode cX4_nextDonor 12 = .ok (.iload_n 1, 1) := by decide +kernel
theorem dX4_nextDonor_13 : decode cX4_nextDonor 13 = .ok (.invokevirtual 156, 3) := by decide +kernel
theorem dX4_nextDonor_16 : decode cX4_nextDonor 16 = .ok (.goto 4, 3) := by decide +kernel
theorem dX4_nextDonor_19 : decode cX4_nextDonor 19 = .ok (.iconst (-1), 1) := by decide +kernel
theorem dX4_nextDonor_20 : decode cX4_nextDonor 20 = .ok (.ireturn, 1) := by decide +kernel
theorem dX4_blockingCells_0 : decode cX4_blockingCells 0 = .ok (.iconst 0, 1) := by decide +kernel
theorem dX4_blockingCells_1 : decode cX4_blockingCells 1 = .ok (.istore_n 1, 1) := by decide +kernel
theorem dX4_blockingCells_2 : decode cX4_blockingCells 2 = .ok (.iconst 0, 1) := by decide +kernel
theorem dX4_blockingCells_3 : decode cX4_blockingCells 3 = .ok (.istore_n 2, 1) := by decide +kernel
theorem dX4_blockingCells_4 : decode cX4_blockingCells 4 = .ok (.iload_n 2, 1) := by decide +kernel
theorem dX4_blockingCells_5 : decode cX4_blockingCells 5 = .ok (.aload_n 0, 1) := by decide +kernel
theorem dX4_blockingCells_6 : decode cX4_blockingCells 6 = .ok (.getfield 19, 3) := by decide +kernel
theorem dX4_blockingCells_9 : decode cX4_blockingCells 9 = .ok (.getfield 52, 3) := by decide +kernel
theorem dX4_blockingCells_12 : decode cX4_blockingCells 12 = .ok (.getfield 74, 3) := by decide +kernel
theorem dX4_blockingCells_15 : decode cX4_blockingCells 15 = .ok (.if_icmp .ge 25, 3) := by decide +kernel
theorem dX4_blockingCells_18 : decode cX4_blockingCells 18 = .ok (.aload_n 0, 1) := by decide +kernel
theorem dX4_blockingCells_19 : decode cX4_blockingCells 19 = .ok (.getfield 19, 3) := by decide +kernel
theorem dX4_blockingCells_22 : decode cX4_blockingCells 22 = .ok (.iload_n 2, 1) := by decide +kernel
theorem dX4_blockingCells_23 : decode cX4_blockingCells 23 = .ok (.invokevirtual 153, 3) := by decide +kernel
theorem dX4_blockingCells_26 : decode cX4_blockingCells 26 = .ok (.bipush (-9), 2) := by decide +kernel
theorem dX4_blockingCells_28 : decode cX4_blockingCells 28 = .ok (.if_icmp .ne 6, 3) := by decide +kernel
theorem dX4_blockingCells_31 : decode cX4_blockingCells 31 = .ok (.iinc 1 1, 3) := by decide +kernel
theorem dX4_blockingCells_34 : decode cX4_blockingCells 34 = .ok (.iinc 2 1, 3) := by decide +kernel
theorem dX4_blockingCells_37 : decode cX4_blockingCells 37 = .ok (.goto (-33), 3) := by decide +kernel
theorem dX4_blockingCells_40 : decode cX4_blockingCells 40 = .ok (.iload_n 1, 1) := by decide +kernel
theorem dX4_blockingCells_41 : decode cX4_blockingCells 41 = .ok (.ireturn, 1) := by decide +kernel
theorem dX4_callCount_0 : decode cX4_callCount 0 = .ok (.aload_n 0, 1) := by decide +kernel
theorem dX4_callCount_1 : decode cX4_callCount 1 = .ok (.getfield 19, 3) := by decide +kernel
theorem dX4_callCount_4 : decode cX4_callCount 4 = .ok (.invokevirtual 159, 3) := by decide +kernel
theorem dX4_callCount_7 : decode cX4_callCount 7 = .ok (.ireturn, 1) := by decide +kernel
theorem dX4_attempts_0 : decode cX4_attempts 0 = .ok (.aload_n 0, 1) := by decide +kernel
theorem dX4_attempts_1 : decode cX4_attempts 1 = .ok (.getfield 19, 3) := by decide +kernel
theorem dX4_attempts_4 : decode cX4_attempts 4 = .ok (.getfield 162, 3) := by decide +kernel
theorem dX4_attempts_7 : decode cX4_attempts 7 = .ok (.ireturn, 1) := by decide +kernel
theorem dX4_blocked_0 : decode cX4_blocked 0 = .ok (.aload_n 0, 1) := by decide +kernel
theorem dX4_blocked_1 : decode cX4_blocked 1 = .ok (.getfield 19, 3) := by decide +kernel
theorem dX4_blocked_4 : decode cX4_blocked 4 = .ok (.getfield 165, 3) := by decide +kernel
theorem dX4_blocked_7 : decode cX4_blocked 7 = .ok (.ireturn, 1) := by decide +kernel
theorem dX4_blockedInFixedScheme_0 : decode cX4_blockedInFixedScheme 0 = .ok (.aload_n 0, 1) := by decide +kernel
theorem dX4_blockedInFixedScheme_1 : decode cX4_blockedInFixedScheme 1 = .ok (.getfield 19, 3) := by decide +kernel
theorem dX4_blockedInFixedScheme_4 : decode cX4_blockedInFixedScheme 4 = .ok (.getfield 168, 3) := by decide +kernel
theorem dX4_blockedInFixedScheme_7 : decode cX4_blockedInFixedScheme 7 = .ok (.ireturn, 1) := by decide +kernel
theorem dX4_dropped_0 : decode cX4_dropped 0 = .ok (.aload_n 0, 1) := by decide +kernel
theorem dX4_dropped_1 : decode cX4_dropped 1 = .ok (.getfield 19, 3) := by decide +kernel
theorem dX4_dropped_4 : decode cX4_dropped 4 = .ok (.getfield 171, 3) := by decide +kernel
theorem dX4_dropped_7 : decode cX4_dropped 7 = .ok (.ireturn, 1) := by decide +kernel
theorem dX4_droppedInFixedScheme_0 : decode cX4_droppedInFixedScheme 0 = .ok (.aload_n 0, 1) := by decide +kernel
theorem dX4_droppedInFixedScheme_1 : decode cX4_droppedInFixedScheme 1 = .ok (.getfield 19, 3) := by decide +kernel
theorem dX4_droppedInFixedScheme_4 : decode cX4_droppedInFixedScheme 4 = .ok (.getfield 174, 3) := by decide +kernel
theorem dX4_droppedInFixedScheme_7 : decode cX4_droppedInFixedScheme 7 = .ok (.ireturn, 1) := by decide +kernel
theorem dX4_borrowings_0 : decode cX4_borrowings 0 = .ok (.aload_n 0, 1) := by decide +kernel
theorem dX4_borrowings_1 : decode cX4_borrowings 1 = .ok (.getfield 19, 3) := by decide +kernel
theorem dX4_borrowings_4 : decode cX4_borrowings 4 = .ok (.getfield 177, 3) := by decide +kernel
theorem dX4_borrowings_7 : decode cX4_borrowings 7 = .ok (.ireturn, 1) := by decide +kernel
theorem dX4_returns_0 : decode cX4_returns 0 = .ok (.aload_n 0, 1) := by decide +kernel
theorem dX4_returns_1 : decode cX4_returns 1 = .ok (.getfield 19, 3) := by decide +kernel
theorem dX4_returns_4 : decode cX4_returns 4 = .ok (.getfield 180, 3) := by decide +kernel
theorem dX4_returns_7 : decode cX4_returns 7 = .ok (.ireturn, 1) := by decide +kernel
theorem dX4_undo_0 : decode cX4_undo 0 = .ok (.aload_n 0, 1) := by decide +kernel
theorem dX4_undo_1 : decode cX4_undo 1 = .ok (.getfield 26, 3) := by decide +kernel
theorem dX4_undo_4 : decode cX4_undo 4 = .ok (.aload_n 0, 1) := by decide +kernel
theorem dX4_undo_5 : decode cX4_undo 5 = .ok (.getfield 19, 3) := by decide +kernel
theorem dX4_undo_8 : decode cX4_undo 8 = .ok (.invokevirtual 213, 3) := by decide +kernel
theorem dX4_undo_11 : decode cX4_undo 11 = .ok (.ifCond .eq 13, 3) := by decide +kernel
theorem dX4_undo_14 : decode cX4_undo 14 = .ok (.aload_n 0, 1) := by decide +kernel
theorem dX4_undo_15 : decode cX4_undo 15 = .ok (.getfield 26, 3) := by decide +kernel
theorem dX4_undo_18 : decode cX4_undo 18 = .ok (.getfield 217, 3) := by decide +kernel
theorem dX4_undo_21 : decode cX4_undo 21 = .ok (.goto 5, 3) := by decide +kernel
theorem dX4_undo_24 : decode cX4_undo 24 = .ok (.bipush (-2), 2) := by decide +kernel
theorem dX4_undo_26 : decode cX4_undo 26 = .ok (.ireturn, 1) := by decide +kernel
theorem dX4_save_0 : decode cX4_save 0 = .ok (.iload_n 1, 1) := by decide +kernel
theorem dX4_save_1 : decode cX4_save 1 = .ok (.iconst 0, 1) := by decide +kernel
theorem dX4_save_2 : decode cX4_save 2 = .ok (.iconst 1, 1) := by decide +kernel
theorem dX4_save_3 : decode cX4_save 3 = .ok (.invokestatic 41, 3) := by decide +kernel
theorem dX4_save_6 : decode cX4_save 6 = .ok (.ifCond .ne 5, 3) := by decide +kernel
theorem dX4_save_9 : decode cX4_save 9 = .ok (.iconst (-1), 1) := by decide +kernel
theorem dX4_save_10 : decode cX4_save 10 = .ok (.ireturn, 1) := by decide +kernel
theorem dX4_save_11 : decode cX4_save 11 = .ok (.aload_n 0, 1) := by decide +kernel
theorem dX4_save_12 : decode cX4_save 12 = .ok (.getfield 30, 3) := by decide +kernel
theorem dX4_save_15 : decode cX4_save 15 = .ok (.iload_n 1, 1) := by decide +kernel
theorem dX4_save_16 : decode cX4_save 16 = .ok (.aaload, 1) := by decide +kernel
theorem dX4_save_17 : decode cX4_save 17 = .ok (.astore_n 2, 1) := by decide +kernel
theorem dX4_save_18 : decode cX4_save 18 = .ok (.aload_n 2, 1) := by decide +kernel
theorem dX4_save_19 : decode cX4_save 19 = .ok (.ifnonnull 25, 3) := by decide +kernel
theorem dX4_save_22 : decode cX4_save 22 = .ok (.new 14, 3) := by decide +kernel
theorem dX4_save_25 : decode cX4_save 25 = .ok (.dup, 1) := by decide +kernel
theorem dX4_save_26 : decode cX4_save 26 = .ok (.aload_n 0, 1) := by decide +kernel
theorem dX4_save_27 : decode cX4_save 27 = .ok (.getfield 19, 3) := by decide +kernel
theorem dX4_save_30 : decode cX4_save 30 = .ok (.getfield 52, 3) := by decide +kernel
theorem dX4_save_33 : decode cX4_save 33 = .ok (.invokespecial 16, 3) := by decide +kernel
theorem dX4_save_36 : decode cX4_save 36 = .ok (.astore_n 2, 1) := by decide +kernel
theorem dX4_save_37 : decode cX4_save 37 = .ok (.aload_n 0, 1) := by decide +kernel
theorem dX4_save_38 : decode cX4_save 38 = .ok (.getfield 30, 3) := by decide +kernel
theorem dX4_save_41 : decode cX4_save 41 = .ok (.iload_n 1, 1) := by decide +kernel
theorem dX4_save_42 : decode cX4_save 42 = .ok (.aload_n 2, 1) := by decide +kernel
theorem dX4_save_43 : decode cX4_save 43 = .ok (.aastore, 1) := by decide +kernel
theorem dX4_save_44 : decode cX4_save 44 = .ok (.aload_n 2, 1) := by decide +kernel
theorem dX4_save_45 : decode cX4_save 45 = .ok (.aload_n 0, 1) := by decide +kernel
theorem dX4_save_46 : decode cX4_save 46 = .ok (.getfield 19, 3) := by decide +kernel
theorem dX4_save_49 : decode cX4_save 49 = .ok (.invokevirtual 220, 3) := by decide +kernel
theorem dX4_save_52 : decode cX4_save 52 = .ok (.aload_n 0, 1) := by decide +kernel
theorem dX4_save_53 : decode cX4_save 53 = .ok (.getfield 19, 3) := by decide +kernel
theorem dX4_save_56 : decode cX4_save 56 = .ok (.invokevirtual 159, 3) := by decide +kernel
theorem dX4_save_59 : decode cX4_save 59 = .ok (.ireturn, 1) := by decide +kernel
theorem dX4_restore_0 : decode cX4_restore 0 = .ok (.iload_n 1, 1) := by decide +kernel
theorem dX4_restore_1 : decode cX4_restore 1 = .ok (.iconst 0, 1) := by decide +kernel
theorem dX4_restore_2 : decode cX4_restore 2 = .ok (.iconst 1, 1) := by decide +kernel
theorem dX4_restore_3 : decode cX4_restore 3 = .ok (.invokestatic 41, 3) := by decide +kernel
theorem dX4_restore_6 : decode cX4_restore 6 = .ok (.ifCond .ne 5, 3) := by decide +kernel
theorem dX4_restore_9 : decode cX4_restore 9 = .ok (.iconst (-1), 1) := by decide +kernel
theorem dX4_restore_10 : decode cX4_restore 10 = .ok (.ireturn, 1) := by decide +kernel
theorem dX4_restore_11 : decode cX4_restore 11 = .ok (.aload_n 0, 1) := by decide +kernel
theorem dX4_restore_12 : decode cX4_restore 12 = .ok (.getfield 30, 3) := by decide +kernel
theorem dX4_restore_15 : decode cX4_restore 15 = .ok (.iload_n 1, 1) := by decide +kernel
theorem dX4_restore_16 : decode cX4_restore 16 = .ok (.aaload, 1) := by decide +kernel
theorem dX4_restore_17 : decode cX4_restore 17 = .ok (.astore_n 2, 1) := by decide +kernel
theorem dX4_restore_18 : decode cX4_restore 18 = .ok (.aload_n 2, 1) := by decide +kernel
theorem dX4_restore_19 : decode cX4_restore 19 = .ok (.ifnonnull 6, 3) := by decide +kernel
theorem dX4_restore_22 : decode cX4_restore 22 = .ok (.bipush (-2), 2) := by decide +kernel
theorem dX4_restore_24 : decode cX4_restore 24 = .ok (.ireturn, 1) := by decide +kernel
theorem dX4_restore_25 : decode cX4_restore 25 = .ok (.aload_n 0, 1) := by decide +kernel
theorem dX4_restore_26 : decode cX4_restore 26 = .ok (.getfield 19, 3) := by decide +kernel
theorem dX4_restore_29 : decode cX4_restore 29 = .ok (.aload_n 2, 1) := by decide +kernel
theorem dX4_restore_30 : decode cX4_restore 30 = .ok (.invokevirtual 220, 3) := by decide +kernel
theorem dX4_restore_33 : decode cX4_restore 33 = .ok (.aload_n 0, 1) := by decide +kernel
theorem dX4_restore_34 : decode cX4_restore 34 = .ok (.getfield 26, 3) := by decide +kernel
theorem dX4_restore_37 : decode cX4_restore 37 = .ok (.iconst 0, 1) := by decide +kernel
theorem dX4_restore_38 : decode cX4_restore 38 = .ok (.putfield 217, 3) := by decide +kernel
theorem dX4_restore_41 : decode cX4_restore 41 = .ok (.aload_n 0, 1) := by decide +kernel
theorem dX4_restore_42 : decode cX4_restore 42 = .ok (.getfield 19, 3) := by decide +kernel
theorem dX4_restore_45 : decode cX4_restore 45 = .ok (.invokevirtual 159, 3) := by decide +kernel
theorem dX4_restore_48 : decode cX4_restore 48 = .ok (.ireturn, 1) := by decide +kernel
theorem dX4_isCell_0 : decode cX4_isCell 0 = .ok (.aload_n 0, 1) := by decide +kernel
theorem dX4_isCell_1 : decode cX4_isCell 1 = .ok (.getfield 19, 3) := by decide +kernel
theorem dX4_isCell_4 : decode cX4_isCell 4 = .ok (.getfield 52, 3) := by decide +kernel
theorem dX4_isCell_7 : decode cX4_isCell 7 = .ok (.iload_n 1, 1) := by decide +kernel
theorem dX4_isCell_8 : decode cX4_isCell 8 = .ok (.invokevirtual 223, 3) := by decide +kernel
theorem dX4_isCell_11 : decode cX4_isCell 11 = .ok (.ireturn, 1) := by decide +kernel
theorem dX4_isChannel_0 : decode cX4_isChannel 0 = .ok (.iload_n 1, 1) := by decide +kernel
theorem dX4_isChannel_1 : decode cX4_isChannel 1 = .ok (.iconst 0, 1) := by decide +kernel
theorem dX4_isChannel_2 : decode cX4_isChannel 2 = .ok (.aload_n 0, 1) := by decide +kernel
theorem dX4_isChannel_3 : decode cX4_isChannel 3 = .ok (.getfield 19, 3) := by decide +kernel
theorem dX4_isChannel_6 : decode cX4_isChannel 6 = .ok (.getfield 52, 3) := by decide +kernel
theorem dX4_isChannel_9 : decode cX4_isChannel 9 = .ok (.getfield 56, 3) := by decide +kernel
theorem dX4_isChannel_12 : decode cX4_isChannel 12 = .ok (.iconst 1, 1) := by decide +kernel
theorem dX4_isChannel_13 : decode cX4_isChannel 13 = .ok (.isub, 1) := by decide +kernel
theorem dX4_isChannel_14 : decode cX4_isChannel 14 = .ok (.invokestatic 41, 3) := by decide +kernel
theorem dX4_isChannel_17 : decode cX4_isChannel 17 = .ok (.ireturn, 1) := by decide +kernel
theorem dX4_isBetween_0 : decode cX4_isBetween 0 = .ok (.iload_n 0, 1) := by decide +kernel
theorem dX4_isBetween_1 : decode cX4_isBetween 1 = .ok (.iload_n 1, 1) := by decide +kernel
theorem dX4_isBetween_2 : decode cX4_isBetween 2 = .ok (.if_icmp .lt 12, 3) := by decide +kernel
theorem dX4_isBetween_5 : decode cX4_isBetween 5 = .ok (.iload_n 0, 1) := by decide +kernel
theorem dX4_isBetween_6 : decode cX4_isBetween 6 = .ok (.iload_n 2, 1) := by decide +kernel
theorem dX4_isBetween_7 : decode cX4_isBetween 7 = .ok (.if_icmp .gt 7, 3) := by decide +kernel
theorem dX4_isBetween_10 : decode cX4_isBetween 10 = .ok (.iconst 1, 1) := by decide +kernel
theorem dX4_isBetween_11 : decode cX4_isBetween 11 = .ok (.goto 4, 3) := by decide +kernel
theorem dX4_isBetween_14 : decode cX4_isBetween 14 = .ok (.iconst 0, 1) := by decide +kernel
theorem dX4_isBetween_15 : decode cX4_isBetween 15 = .ok (.ireturn, 1) := by decide +kernel
theorem dX4_asNumber_0 : decode cX4_asNumber 0 = .ok (.iload_n 0, 1) := by decide +kernel
theorem dX4_asNumber_1 : decode cX4_asNumber 1 = .ok (.ifCond .eq 7, 3) := by decide +kernel
theorem dX4_asNumber_4 : decode cX4_asNumber 4 = .ok (.iconst 1, 1) := by decide +kernel
theorem dX4_asNumber_5 : decode cX4_asNumber 5 = .ok (.goto 4, 3) := by decide +kernel
theorem dX4_asNumber_8 : decode cX4_asNumber 8 = .ok (.iconst 0, 1) := by decide +kernel
theorem dX4_asNumber_9 : decode cX4_asNumber 9 = .ok (.ireturn, 1) := by decide +kernel
theorem dX4_contains_0 : decode cX4_contains 0 = .ok (.iload_n 0, 1) := by decide +kernel
theorem dX4_contains_1 : decode cX4_contains 1 = .ok (.iload_n 1, 1) := by decide +kernel
theorem dX4_contains_2 : decode cX4_contains 2 = .ok (.ishr, 1) := by decide +kernel
theorem dX4_contains_3 : decode cX4_contains 3 = .ok (.iconst 1, 1) := by decide +kernel
theorem dX4_contains_4 : decode cX4_contains 4 = .ok (.iand, 1) := by decide +kernel
theorem dX4_contains_5 : decode cX4_contains 5 = .ok (.ifCond .eq 7, 3) := by decide +kernel
theorem dX4_contains_8 : decode cX4_contains 8 = .ok (.iconst 1, 1) := by decide +kernel
theorem dX4_contains_9 : decode cX4_contains 9 = .ok (.goto 4, 3) := by decide +kernel
theorem dX4_contains_12 : decode cX4_contains 12 = .ok (.iconst 0, 1) := by decide +kernel
theorem dX4_contains_13 : decode cX4_contains 13 = .ok (.ireturn, 1) := by decide +kernel
theorem dJ6_bitCount_0f7a4_0 : decode cJ6_bitCount_0f7a4 0 = .ok (.iload_n 0, 1) := by decide +kernel
theorem dJ6_bitCount_0f7a4_1 : decode cJ6_bitCount_0f7a4 1 = .ok (.iload_n 0, 1) := by decide +kernel
theorem dJ6_bitCount_0f7a4_2 : decode cJ6_bitCount_0f7a4 2 = .ok (.iconst 1, 1) := by decide +kernel
theorem dJ6_bitCount_0f7a4_3 : decode cJ6_bitCount_0f7a4 3 = .ok (.iushr, 1) := by decide +kernel
theorem dJ6_bitCount_0f7a4_4 : decode cJ6_bitCount_0f7a4 4 = .ok (.ldc_w 265, 3) := by decide +kernel
theorem dJ6_bitCount_0f7a4_7 : decode cJ6_bitCount_0f7a4 7 = .ok (.iand, 1) := by decide +kernel
theorem dJ6_bitCount_0f7a4_8 : decode cJ6_bitCount_0f7a4 8 = .ok (.isub, 1) := by decide +kernel
theorem dJ6_bitCount_0f7a4_9 : decode cJ6_bitCount_0f7a4 9 = .ok (.istore_n 0, 1) := by decide +kernel
theorem dJ6_bitCount_0f7a4_10 : decode cJ6_bitCount_0f7a4 10 = .ok (.iload_n 0, 1) := by decide +kernel
theorem dJ6_bitCount_0f7a4_11 : decode cJ6_bitCount_0f7a4 11 = .ok (.ldc_w 266, 3) := by decide +kernel
theorem dJ6_bitCount_0f7a4_14 : decode cJ6_bitCount_0f7a4 14 = .ok (.iand, 1) := by decide +kernel
theorem dJ6_bitCount_0f7a4_15 : decode cJ6_bitCount_0f7a4 15 = .ok (.iload_n 0, 1) := by decide +kernel
theorem dJ6_bitCount_0f7a4_16 : decode cJ6_bitCount_0f7a4 16 = .ok (.iconst 2, 1) := by decide +kernel
theorem dJ6_bitCount_0f7a4_17 : decode cJ6_bitCount_0f7a4 17 = .ok (.iushr, 1) := by decide +kernel
theorem dJ6_bitCount_0f7a4_18 : decode cJ6_bitCount_0f7a4 18 = .ok (.ldc_w 266, 3) := by decide +kernel
theorem dJ6_bitCount_0f7a4_21 : decode cJ6_bitCount_0f7a4 21 = .ok (.iand, 1) := by decide +kernel
theorem dJ6_bitCount_0f7a4_22 : decode cJ6_bitCount_0f7a4 22 = .ok (.iadd, 1) := by decide +kernel
theorem dJ6_bitCount_0f7a4_23 : decode cJ6_bitCount_0f7a4 23 = .ok (.istore_n 0, 1) := by decide +kernel
theorem dJ6_bitCount_0f7a4_24 : decode cJ6_bitCount_0f7a4 24 = .ok (.iload_n 0, 1) := by decide +kernel
theorem dJ6_bitCount_0f7a4_25 : decode cJ6_bitCount_0f7a4 25 = .ok (.iload_n 0, 1) := by decide +kernel
theorem dJ6_bitCount_0f7a4_26 : decode cJ6_bitCount_0f7a4 26 = .ok (.iconst 4, 1) := by decide +kernel
theorem dJ6_bitCount_0f7a4_27 : decode cJ6_bitCount_0f7a4 27 = .ok (.iushr, 1) := by decide +kernel
theorem dJ6_bitCount_0f7a4_28 : decode cJ6_bitCount_0f7a4 28 = .ok (.iadd, 1) := by decide +kernel
theorem dJ6_bitCount_0f7a4_29 : decode cJ6_bitCount_0f7a4 29 = .ok (.ldc_w 267, 3) := by decide +kernel
theorem dJ6_bitCount_0f7a4_32 : decode cJ6_bitCount_0f7a4 32 = .ok (.iand, 1) := by decide +kernel
theorem dJ6_bitCount_0f7a4_33 : decode cJ6_bitCount_0f7a4 33 = .ok (.istore_n 0, 1) := by decide +kernel
theorem dJ6_bitCount_0f7a4_34 : decode cJ6_bitCount_0f7a4 34 = .ok (.iload_n 0, 1) := by decide +kernel
theorem dJ6_bitCount_0f7a4_35 : decode cJ6_bitCount_0f7a4 35 = .ok (.iload_n 0, 1) := by decide +kernel
theorem dJ6_bitCount_0f7a4_36 : decode cJ6_bitCount_0f7a4 36 = .ok (.bipush 8, 2) := by decide +kernel
theorem dJ6_bitCount_0f7a4_38 : decode cJ6_bitCount_0f7a4 38 = .ok (.iushr, 1) := by decide +kernel
theorem dJ6_bitCount_0f7a4_39 : decode cJ6_bitCount_0f7a4 39 = .ok (.iadd, 1) := by decide +kernel
theorem dJ6_bitCount_0f7a4_40 : decode cJ6_bitCount_0f7a4 40 = .ok (.istore_n 0, 1) := by decide +kernel
theorem dJ6_bitCount_0f7a4_41 : decode cJ6_bitCount_0f7a4 41 = .ok (.iload_n 0, 1) := by decide +kernel
theorem dJ6_bitCount_0f7a4_42 : decode cJ6_bitCount_0f7a4 42 = .ok (.iload_n 0, 1) := by decide +kernel
theorem dJ6_bitCount_0f7a4_43 : decode cJ6_bitCount_0f7a4 43 = .ok (.bipush 16, 2) := by decide +kernel
theorem dJ6_bitCount_0f7a4_45 : decode cJ6_bitCount_0f7a4 45 = .ok (.iushr, 1) := by decide +kernel
theorem dJ6_bitCount_0f7a4_46 : decode cJ6_bitCount_0f7a4 46 = .ok (.iadd, 1) := by decide +kernel
theorem dJ6_bitCount_0f7a4_47 : decode cJ6_bitCount_0f7a4 47 = .ok (.istore_n 0, 1) := by decide +kernel
theorem dJ6_bitCount_0f7a4_48 : decode cJ6_bitCount_0f7a4 48 = .ok (.iload_n 0, 1) := by decide +kernel
theorem dJ6_bitCount_0f7a4_49 : decode cJ6_bitCount_0f7a4 49 = .ok (.bipush 63, 2) := by decide +kernel
theorem dJ6_bitCount_0f7a4_51 : decode cJ6_bitCount_0f7a4 51 = .ok (.iand, 1) := by decide +kernel
theorem dJ6_bitCount_0f7a4_52 : decode cJ6_bitCount_0f7a4 52 = .ok (.ireturn, 1) := by decide +kernel
theorem dJ9_abs_0f7a4_0 : decode cJ9_abs_0f7a4 0 = .ok (.iload_n 0, 1) := by decide +kernel
theorem dJ9_abs_0f7a4_1 : decode cJ9_abs_0f7a4 1 = .ok (.ifCond .ge 8, 3) := by decide +kernel
theorem dJ9_abs_0f7a4_4 : decode cJ9_abs_0f7a4 4 = .ok (.iload_n 0, 1) := by decide +kernel
theorem dJ9_abs_0f7a4_5 : decode cJ9_abs_0f7a4 5 = .ok (.ineg, 1) := by decide +kernel
theorem dJ9_abs_0f7a4_6 : decode cJ9_abs_0f7a4 6 = .ok (.goto 4, 3) := by decide +kernel
theorem dJ9_abs_0f7a4_9 : decode cJ9_abs_0f7a4 9 = .ok (.iload_n 0, 1) := by decide +kernel
theorem dJ9_abs_0f7a4_10 : decode cJ9_abs_0f7a4 10 = .ok (.ireturn, 1) := by decide +kernel
theorem dJ9_max_7cf53_0 : decode cJ9_max_7cf53 0 = .ok (.iload_n 0, 1) := by decide +kernel
theorem dJ9_max_7cf53_1 : decode cJ9_max_7cf53 1 = .ok (.iload_n 1, 1) := by decide +kernel
theorem dJ9_max_7cf53_2 : decode cJ9_max_7cf53 2 = .ok (.if_icmp .lt 7, 3) := by decide +kernel
theorem dJ9_max_7cf53_5 : decode cJ9_max_7cf53 5 = .ok (.iload_n 0, 1) := by decide +kernel
theorem dJ9_max_7cf53_6 : decode cJ9_max_7cf53 6 = .ok (.goto 4, 3) := by decide +kernel
theorem dJ9_max_7cf53_9 : decode cJ9_max_7cf53 9 = .ok (.iload_n 1, 1) := by decide +kernel
theorem dJ9_max_7cf53_10 : decode cJ9_max_7cf53 10 = .ok (.ireturn, 1) := by decide +kernel
theorem dJ9_min_7cf53_0 : decode cJ9_min_7cf53 0 = .ok (.iload_n 0, 1) := by decide +kernel
theorem dJ9_min_7cf53_1 : decode cJ9_min_7cf53 1 = .ok (.iload_n 1, 1) := by decide +kernel
theorem dJ9_min_7cf53_2 : decode cJ9_min_7cf53 2 = .ok (.if_icmp .gt 7, 3) := by decide +kernel
theorem dJ9_min_7cf53_5 : decode cJ9_min_7cf53 5 = .ok (.iload_n 0, 1) := by decide +kernel
theorem dJ9_min_7cf53_6 : decode cJ9_min_7cf53 6 = .ok (.goto 4, 3) := by decide +kernel
theorem dJ9_min_7cf53_9 : decode cJ9_min_7cf53 9 = .ok (.iload_n 1, 1) := by decide +kernel
theorem dJ9_min_7cf53_10 : decode cJ9_min_7cf53 10 = .ok (.ireturn, 1) := by decide +kernel
theorem dJ7_fill_53178_0 : decode cJ7_fill_53178 0 = .ok (.iconst 0, 1) := by decide +kernel
theorem dJ7_fill_53178_1 : decode cJ7_fill_53178 1 = .ok (.istore_n 2, 1) := by decide +kernel
theorem dJ7_fill_53178_2 : decode cJ7_fill_53178 2 = .ok (.aload_n 0, 1) := by decide +kernel
theorem dJ7_fill_53178_3 : decode cJ7_fill_53178 3 = .ok (.arraylength, 1) := by decide +kernel
theorem dJ7_fill_53178_4 : decode cJ7_fill_53178 4 = .ok (.istore_n 3, 1) := by decide +kernel
theorem dJ7_fill_53178_5 : decode cJ7_fill_53178 5 = .ok (.iload_n 2, 1) := by decide +kernel
theorem dJ7_fill_53178_6 : decode cJ7_fill_53178 6 = .ok (.iload_n 3, 1) := by decide +kernel
theorem dJ7_fill_53178_7 : decode cJ7_fill_53178 7 = .ok (.if_icmp .ge 13, 3) := by decide +kernel
theorem dJ7_fill_53178_10 : decode cJ7_fill_53178 10 = .ok (.aload_n 0, 1) := by decide +kernel
theorem dJ7_fill_53178_11 : decode cJ7_fill_53178 11 = .ok (.iload_n 2, 1) := by decide +kernel
theorem dJ7_fill_53178_12 : decode cJ7_fill_53178 12 = .ok (.iload_n 1, 1) := by decide +kernel
theorem dJ7_fill_53178_13 : decode cJ7_fill_53178 13 = .ok (.iastore, 1) := by decide +kernel
theorem dJ7_fill_53178_14 : decode cJ7_fill_53178 14 = .ok (.iinc 2 1, 3) := by decide +kernel
theorem dJ7_fill_53178_17 : decode cJ7_fill_53178 17 = .ok (.goto (-12), 3) := by decide +kernel
theorem dJ7_fill_53178_20 : decode cJ7_fill_53178 20 = .ok (.return_, 1) := by decide +kernel
theorem dL_cell_0 : decode cL_cell 0 = .ok (.iload_n 1, 1) := by decide +kernel
theorem dL_cell_1 : decode cL_cell 1 = .ok (.aload_n 0, 1) := by decide +kernel
theorem dL_cell_2 : decode cL_cell 2 = .ok (.arraylength, 1) := by decide +kernel
theorem dL_cell_3 : decode cL_cell 3 = .ok (.if_icmp .ge 9, 3) := by decide +kernel
theorem dL_cell_6 : decode cL_cell 6 = .ok (.aload_n 0, 1) := by decide +kernel
theorem dL_cell_7 : decode cL_cell 7 = .ok (.iload_n 1, 1) := by decide +kernel
theorem dL_cell_8 : decode cL_cell 8 = .ok (.iaload, 1) := by decide +kernel
theorem dL_cell_9 : decode cL_cell 9 = .ok (.goto 15, 3) := by decide +kernel
theorem dL_cell_12 : decode cL_cell 12 = .ok (.sipush 7919, 3) := by decide +kernel
theorem dL_cell_15 : decode cL_cell 15 = .ok (.iload_n 1, 1) := by decide +kernel
theorem dL_cell_16 : decode cL_cell 16 = .ok (.iconst 3, 1) := by decide +kernel
theorem dL_cell_17 : decode cL_cell 17 = .ok (.iadd, 1) := by decide +kernel
theorem dL_cell_18 : decode cL_cell 18 = .ok (.imul, 1) := by decide +kernel
theorem dL_cell_19 : decode cL_cell 19 = .ok (.iload_n 1, 1) := by decide +kernel
theorem dL_cell_20 : decode cL_cell 20 = .ok (.bipush 11, 2) := by decide +kernel
theorem dL_cell_22 : decode cL_cell 22 = .ok (.iadd, 1) := by decide +kernel
theorem dL_cell_23 : decode cL_cell 23 = .ok (.imul, 1) := by decide +kernel
theorem dL_cell_24 : decode cL_cell 24 = .ok (.ireturn, 1) := by decide +kernel
theorem dL_low_0 : decode cL_low 0 = .ok (.iload_n 0, 1) := by decide +kernel
theorem dL_low_1 : decode cL_low 1 = .ok (.ldc 7, 2) := by decide +kernel
theorem dL_low_3 : decode cL_low 3 = .ok (.iand, 1) := by decide +kernel
theorem dL_low_4 : decode cL_low 4 = .ok (.iload_n 1, 1) := by decide +kernel
theorem dL_low_5 : decode cL_low 5 = .ok (.irem, 1) := by decide +kernel
theorem dL_low_6 : decode cL_low 6 = .ok (.ireturn, 1) := by decide +kernel
theorem dL_tale_0 : decode cL_tale 0 = .ok (.aload_n 0, 1) := by decide +kernel
theorem dL_tale_1 : decode cL_tale 1 = .ok (.invokevirtual 8, 3) := by decide +kernel
theorem dL_tale_4 : decode cL_tale 4 = .ok (.i2l, 1) := by decide +kernel
theorem dL_tale_5 : decode cL_tale 5 = .ok (.ldc2_w 14, 3) := by decide +kernel
theorem dL_tale_8 : decode cL_tale 8 = .ok (.lmul, 1) := by decide +kernel
theorem dL_tale_9 : decode cL_tale 9 = .ok (.aload_n 0, 1) := by decide +kernel
theorem dL_tale_10 : decode cL_tale 10 = .ok (.invokevirtual 16, 3) := by decide +kernel
theorem dL_tale_13 : decode cL_tale 13 = .ok (.i2l, 1) := by decide +kernel
theorem dL_tale_14 : decode cL_tale 14 = .ok (.ladd, 1) := by decide +kernel
theorem dL_tale_15 : decode cL_tale 15 = .ok (.lstore_n 1, 1) := by decide +kernel
theorem dL_tale_16 : decode cL_tale 16 = .ok (.lload_n 1, 1) := by decide +kernel
theorem dL_tale_17 : decode cL_tale 17 = .ok (.ldc2_w 14, 3) := by decide +kernel
theorem dL_tale_20 : decode cL_tale 20 = .ok (.lmul, 1) := by decide +kernel
theorem dL_tale_21 : decode cL_tale 21 = .ok (.aload_n 0, 1) := by decide +kernel
theorem dL_tale_22 : decode cL_tale 22 = .ok (.invokevirtual 19, 3) := by decide +kernel
theorem dL_tale_25 : decode cL_tale 25 = .ok (.i2l, 1) := by decide +kernel
theorem dL_tale_26 : decode cL_tale 26 = .ok (.ldc2_w 22, 3) := by decide +kernel
theorem dL_tale_29 : decode cL_tale 29 = .ok (.lmul, 1) := by decide +kernel
theorem dL_tale_30 : decode cL_tale 30 = .ok (.ladd, 1) := by decide +kernel
theorem dL_tale_31 : decode cL_tale 31 = .ok (.aload_n 0, 1) := by decide +kernel
theorem dL_tale_32 : decode cL_tale 32 = .ok (.invokevirtual 24, 3) := by decide +kernel
theorem dL_tale_35 : decode cL_tale 35 = .ok (.i2l, 1) := by decide +kernel
theorem dL_tale_36 : decode cL_tale 36 = .ok (.ldc2_w 27, 3) := by decide +kernel
theorem dL_tale_39 : decode cL_tale 39 = .ok (.lmul, 1) := by decide +kernel
theorem dL_tale_40 : decode cL_tale 40 = .ok (.ladd, 1) := by decide +kernel
theorem dL_tale_41 : decode cL_tale 41 = .ok (.aload_n 0, 1) := by decide +kernel
theorem dL_tale_42 : decode cL_tale 42 = .ok (.invokevirtual 29, 3) := by decide +kernel
theorem dL_tale_45 : decode cL_tale 45 = .ok (.i2l, 1) := by decide +kernel
theorem dL_tale_46 : decode cL_tale 46 = .ok (.ldc2_w 32, 3) := by decide +kernel
theorem dL_tale_49 : decode cL_tale 49 = .ok (.lmul, 1) := by decide +kernel
theorem dL_tale_50 : decode cL_tale 50 = .ok (.ladd, 1) := by decide +kernel
theorem dL_tale_51 : decode cL_tale 51 = .ok (.aload_n 0, 1) := by decide +kernel
theorem dL_tale_52 : decode cL_tale 52 = .ok (.invokevirtual 34, 3) := by decide +kernel
theorem dL_tale_55 : decode cL_tale 55 = .ok (.i2l, 1) := by decide +kernel
theorem dL_tale_56 : decode cL_tale 56 = .ok (.ldc2_w 37, 3) := by decide +kernel
theorem dL_tale_59 : decode cL_tale 59 = .ok (.lmul, 1) := by decide +kernel
theorem dL_tale_60 : decode cL_tale 60 = .ok (.ladd, 1) := by decide +kernel
theorem dL_tale_61 : decode cL_tale 61 = .ok (.lstore_n 1, 1) := by decide +kernel
theorem dL_tale_62 : decode cL_tale 62 = .ok (.lload_n 1, 1) := by decide +kernel
theorem dL_tale_63 : decode cL_tale 63 = .ok (.ldc2_w 14, 3) := by decide +kernel
theorem dL_tale_66 : decode cL_tale 66 = .ok (.lmul, 1) := by decide +kernel
theorem dL_tale_67 : decode cL_tale 67 = .ok (.aload_n 0, 1) := by decide +kernel
theorem dL_tale_68 : decode cL_tale 68 = .ok (.invokevirtual 39, 3) := by decide +kernel
theorem dL_tale_71 : decode cL_tale 71 = .ok (.i2l, 1) := by decide +kernel
theorem dL_tale_72 : decode cL_tale 72 = .ok (.ldc2_w 22, 3) := by decide +kernel
theorem dL_tale_75 : decode cL_tale 75 = .ok (.lmul, 1) := by decide +kernel
theorem dL_tale_76 : decode cL_tale 76 = .ok (.ladd, 1) := by decide +kernel
theorem dL_tale_77 : decode cL_tale 77 = .ok (.aload_n 0, 1) := by decide +kernel
theorem dL_tale_78 : decode cL_tale 78 = .ok (.invokevirtual 42, 3) := by decide +kernel
theorem dL_tale_81 : decode cL_tale 81 = .ok (.i2l, 1) := by decide +kernel
theorem dL_tale_82 : decode cL_tale 82 = .ok (.ldc2_w 27, 3) := by decide +kernel
theorem dL_tale_85 : decode cL_tale 85 = .ok (.lmul, 1) := by decide +kernel
theorem dL_tale_86 : decode cL_tale 86 = .ok (.ladd, 1) := by decide +kernel
theorem dL_tale_87 : decode cL_tale 87 = .ok (.aload_n 0, 1) := by decide +kernel
theorem dL_tale_88 : decode cL_tale 88 = .ok (.invokevirtual 45, 3) := by decide +kernel
theorem dL_tale_91 : decode cL_tale 91 = .ok (.i2l, 1) := by decide +kernel
theorem dL_tale_92 : decode cL_tale 92 = .ok (.ldc2_w 32, 3) := by decide +kernel
theorem dL_tale_95 : decode cL_tale 95 = .ok (.lmul, 1) := by decide +kernel
theorem dL_tale_96 : decode cL_tale 96 = .ok (.ladd, 1) := by decide +kernel
theorem dL_tale_97 : decode cL_tale 97 = .ok (.aload_n 0, 1) := by decide +kernel
theorem dL_tale_98 : decode cL_tale 98 = .ok (.invokevirtual 48, 3) := by decide +kernel
theorem dL_tale_101 : decode cL_tale 101 = .ok (.i2l, 1) := by decide +kernel
theorem dL_tale_102 : decode cL_tale 102 = .ok (.ldc2_w 37, 3) := by decide +kernel
theorem dL_tale_105 : decode cL_tale 105 = .ok (.lmul, 1) := by decide +kernel
theorem dL_tale_106 : decode cL_tale 106 = .ok (.ladd, 1) := by decide +kernel
theorem dL_tale_107 : decode cL_tale 107 = .ok (.lstore_n 1, 1) := by decide +kernel
theorem dL_tale_108 : decode cL_tale 108 = .ok (.iconst 0, 1) := by decide +kernel
theorem dL_tale_109 : decode cL_tale 109 = .ok (.istore_n 3, 1) := by decide +kernel
theorem dL_tale_110 : decode cL_tale 110 = .ok (.iload_n 3, 1) := by decide +kernel
theorem dL_tale_111 : decode cL_tale 111 = .ok (.bipush 60, 2) := by decide +kernel
theorem dL_tale_113 : decode cL_tale 113 = .ok (.if_icmp .ge 44, 3) := by decide +kernel
theorem dL_tale_116 : decode cL_tale 116 = .ok (.lload_n 1, 1) := by decide +kernel
theorem dL_tale_117 : decode cL_tale 117 = .ok (.ldc2_w 51, 3) := by decide +kernel
theorem dL_tale_120 : decode cL_tale 120 = .ok (.lmul, 1) := by decide +kernel
theorem dL_tale_121 : decode cL_tale 121 = .ok (.aload_n 0, 1) := by decide +kernel
theorem dL_tale_122 : decode cL_tale 122 = .ok (.iload_n 3, 1) := by decide +kernel
theorem dL_tale_123 : decode cL_tale 123 = .ok (.invokevirtual 53, 3) := by decide +kernel
theorem dL_tale_126 : decode cL_tale 126 = .ok (.i2l, 1) := by decide +kernel
theorem dL_tale_127 : decode cL_tale 127 = .ok (.ldc2_w 57, 3) := by decide +kernel
theorem dL_tale_130 : decode cL_tale 130 = .ok (.lmul, 1) := by decide +kernel
theorem dL_tale_131 : decode cL_tale 131 = .ok (.ladd, 1) := by decide +kernel
theorem dL_tale_132 : decode cL_tale 132 = .ok (.aload_n 0, 1) := by decide +kernel
theorem dL_tale_133 : decode cL_tale 133 = .ok (.iload_n 3, 1) := by decide +kernel
theorem dL_tale_134 : decode cL_tale 134 = .ok (.invokevirtual 59, 3) := by decide +kernel
theorem dL_tale_137 : decode cL_tale 137 = .ok (.i2l, 1) := by decide +kernel
theorem dL_tale_138 : decode cL_tale 138 = .ok (.ldc2_w 22, 3) := by decide +kernel
theorem dL_tale_141 : decode cL_tale 141 = .ok (.lmul, 1) := by decide +kernel
theorem dL_tale_142 : decode cL_tale 142 = .ok (.ladd, 1) := by decide +kernel
theorem dL_tale_143 : decode cL_tale 143 = .ok (.aload_n 0, 1) := by decide +kernel
theorem dL_tale_144 : decode cL_tale 144 = .ok (.iload_n 3, 1) := by decide +kernel
theorem dL_tale_145 : decode cL_tale 145 = .ok (.invokevirtual 62, 3) := by decide +kernel
theorem dL_tale_148 : decode cL_tale 148 = .ok (.i2l, 1) := by decide +kernel
theorem dL_tale_149 : decode cL_tale 149 = .ok (.ladd, 1) := by decide +kernel
theorem dL_tale_150 : decode cL_tale 150 = .ok (.lstore_n 1, 1) := by decide +kernel
theorem dL_tale_151 : decode cL_tale 151 = .ok (.iinc 3 1, 3) := by decide +kernel
theorem dL_tale_154 : decode cL_tale 154 = .ok (.goto (-44), 3) := by decide +kernel
theorem dL_tale_157 : decode cL_tale 157 = .ok (.iconst 0, 1) := by decide +kernel
theorem dL_tale_158 : decode cL_tale 158 = .ok (.istore_n 3, 1) := by decide +kernel
theorem dL_tale_159 : decode cL_tale 159 = .ok (.iload_n 3, 1) := by decide +kernel
theorem dL_tale_160 : decode cL_tale 160 = .ok (.aload_n 0, 1) := by decide +kernel
theorem dL_tale_161 : decode cL_tale 161 = .ok (.invokevirtual 8, 3) := by decide +kernel
theorem dL_tale_164 : decode cL_tale 164 = .ok (.if_icmp .ge 66, 3) := by decide +kernel
theorem dL_tale_167 : decode cL_tale 167 = .ok (.lload_n 1, 1) := by decide +kernel
theorem dL_tale_168 : decode cL_tale 168 = .ok (.ldc2_w 65, 3) := by decide +kernel
theorem dL_tale_171 : decode cL_tale 171 = .ok (.lmul, 1) := by decide +kernel
theorem dL_tale_172 : decode cL_tale 172 = .ok (.aload_n 0, 1) := by decide +kernel
theorem dL_tale_173 : decode cL_tale 173 = .ok (.iload_n 3, 1) := by decide +kernel
theorem dL_tale_174 : decode cL_tale 174 = .ok (.invokevirtual 67, 3) := by decide +kernel
theorem dL_tale_177 : decode cL_tale 177 = .ok (.i2l, 1) := by decide +kernel
theorem dL_tale_178 : decode cL_tale 178 = .ok (.ldc2_w 22, 3) := by decide +kernel
theorem dL_tale_181 : decode cL_tale 181 = .ok (.lmul, 1) := by decide +kernel
theorem dL_tale_182 : decode cL_tale 182 = .ok (.ladd, 1) := by decide +kernel
theorem dL_tale_183 : decode cL_tale 183 = .ok (.aload_n 0, 1) := by decide +kernel
theorem dL_tale_184 : decode cL_tale 184 = .ok (.iload_n 3, 1) := by decide +kernel
theorem dL_tale_185 : decode cL_tale 185 = .ok (.invokevirtual 70, 3) := by decide +kernel
theorem dL_tale_188 : decode cL_tale 188 = .ok (.i2l, 1) := by decide +kernel
theorem dL_tale_189 : decode cL_tale 189 = .ok (.ldc2_w 27, 3) := by decide +kernel
theorem dL_tale_192 : decode cL_tale 192 = .ok (.lmul, 1) := by decide +kernel
theorem dL_tale_193 : decode cL_tale 193 = .ok (.ladd, 1) := by decide +kernel
theorem dL_tale_194 : decode cL_tale 194 = .ok (.aload_n 0, 1) := by decide +kernel
theorem dL_tale_195 : decode cL_tale 195 = .ok (.iload_n 3, 1) := by decide +kernel
theorem dL_tale_196 : decode cL_tale 196 = .ok (.invokevirtual 73, 3) := by decide +kernel
theorem dL_tale_199 : decode cL_tale 199 = .ok (.i2l, 1) := by decide +kernel
theorem dL_tale_200 : decode cL_tale 200 = .ok (.ldc2_w 32, 3) := by decide +kernel
theorem dL_tale_203 : decode cL_tale 203 = .ok (.lmul, 1) := by decide +kernel
theorem dL_tale_204 : decode cL_tale 204 = .ok (.ladd, 1) := by decide +kernel
theorem dL_tale_205 : decode cL_tale 205 = .ok (.aload_n 0, 1) := by decide +kernel
theorem dL_tale_206 : decode cL_tale 206 = .ok (.iload_n 3, 1) := by decide +kernel
theorem dL_tale_207 : decode cL_tale 207 = .ok (.invokevirtual 76, 3) := by decide +kernel
theorem dL_tale_210 : decode cL_tale 210 = .ok (.i2l, 1) := by decide +kernel
theorem dL_tale_211 : decode cL_tale 211 = .ok (.ladd, 1) := by decide +kernel
theorem dL_tale_212 : decode cL_tale 212 = .ok (.aload_n 0, 1) := by decide +kernel
theorem dL_tale_213 : decode cL_tale 213 = .ok (.iload_n 3, 1) := by decide +kernel
theorem dL_tale_214 : decode cL_tale 214 = .ok (.invokevirtual 79, 3) := by decide +kernel
theorem dL_tale_217 : decode cL_tale 217 = .ok (.i2l, 1) := by decide +kernel
theorem dL_tale_218 : decode cL_tale 218 = .ok (.ldc2_w 82, 3) := by decide +kernel
theorem dL_tale_221 : decode cL_tale 221 = .ok (.lmul, 1) := by decide +kernel
theorem dL_tale_222 : decode cL_tale 222 = .ok (.ladd, 1) := by decide +kernel
theorem dL_tale_223 : decode cL_tale 223 = .ok (.lstore_n 1, 1) := by decide +kernel
theorem dL_tale_224 : decode cL_tale 224 = .ok (.iinc 3 1, 3) := by decide +kernel
theorem dL_tale_227 : decode cL_tale 227 = .ok (.goto (-68), 3) := by decide +kernel
theorem dL_tale_230 : decode cL_tale 230 = .ok (.lload_n 1, 1) := by decide +kernel
theorem dL_tale_231 : decode cL_tale 231 = .ok (.lreturn, 1) := by decide +kernel
theorem dL_does_0 : decode cL_does 0 = .ok (.aload_n 0, 1) := by decide +kernel
theorem dL_does_1 : decode cL_does 1 = .ok (.invokevirtual 8, 3) := by decide +kernel
theorem dL_does_4 : decode cL_does 4 = .ok (.istore_n 2, 1) := by decide +kernel
theorem dL_does_5 : decode cL_does 5 = .ok (.iload_n 1, 1) := by decide +kernel
theorem dL_does_6 : decode cL_does 6 = .ok (.bipush 15, 2) := by decide +kernel
theorem dL_does_8 : decode cL_does 8 = .ok (.iand, 1) := by decide +kernel
theorem dL_does_9 : decode cL_does 9 = .ok (.tableswitch 172 0 7 #[47, 112, 124, 136, 136, 149, 149, 149], 47) := by decide +kernel
theorem dL_does_56 : decode cL_does 56 = .ok (.iload_n 1, 1) := by decide +kernel
theorem dL_does_57 : decode cL_does 57 = .ok (.iconst 4, 1) := by decide +kernel
theorem dL_does_58 : decode cL_does 58 = .ok (.ishr, 1) := by decide +kernel
theorem dL_does_59 : decode cL_does 59 = .ok (.iconst 3, 1) := by decide +kernel
theorem dL_does_60 : decode cL_does 60 = .ok (.iand, 1) := by decide +kernel
theorem dL_does_61 : decode cL_does 61 = .ok (.ifCond .ne 47, 3) := by decide +kernel
theorem dL_does_64 : decode cL_does 64 = .ok (.aload_n 0, 1) := by decide +kernel
theorem dL_does_65 : decode cL_does 65 = .ok (.iload_n 1, 1) := by decide +kernel
theorem dL_does_66 : decode cL_does 66 = .ok (.bipush 6, 2) := by decide +kernel
theorem dL_does_68 : decode cL_does 68 = .ok (.ishr, 1) := by decide +kernel
theorem dL_does_69 : decode cL_does 69 = .ok (.bipush 6, 2) := by decide +kernel
theorem dL_does_71 : decode cL_does 71 = .ok (.invokestatic 84, 3) := by decide +kernel
theorem dL_does_74 : decode cL_does 74 = .ok (.iconst 1, 1) := by decide +kernel
theorem dL_does_75 : decode cL_does 75 = .ok (.iload_n 1, 1) := by decide +kernel
theorem dL_does_76 : decode cL_does 76 = .ok (.bipush 9, 2) := by decide +kernel
theorem dL_does_78 : decode cL_does 78 = .ok (.ishr, 1) := by decide +kernel
theorem dL_does_79 : decode cL_does 79 = .ok (.iconst 5, 1) := by decide +kernel
theorem dL_does_80 : decode cL_does 80 = .ok (.invokestatic 84, 3) := by decide +kernel
theorem dL_does_83 : decode cL_does 83 = .ok (.iadd, 1) := by decide +kernel
theorem dL_does_84 : decode cL_does 84 = .ok (.iconst 2, 1) := by decide +kernel
theorem dL_does_85 : decode cL_does 85 = .ok (.iload_n 1, 1) := by decide +kernel
theorem dL_does_86 : decode cL_does 86 = .ok (.bipush 12, 2) := by decide +kernel
theorem dL_does_88 : decode cL_does 88 = .ok (.ishr, 1) := by decide +kernel
theorem dL_does_89 : decode cL_does 89 = .ok (.iconst 1, 1) := by decide +kernel
theorem dL_does_90 : decode cL_does 90 = .ok (.iand, 1) := by decide +kernel
theorem dL_does_91 : decode cL_does 91 = .ok (.iadd, 1) := by decide +kernel
theorem dL_does_92 : decode cL_does 92 = .ok (.iconst 1, 1) := by decide +kernel
theorem dL_does_93 : decode cL_does 93 = .ok (.iload_n 1, 1) := by decide +kernel
theorem dL_does_94 : decode cL_does 94 = .ok (.bipush 13, 2) := by decide +kernel
theorem dL_does_96 : decode cL_does 96 = .ok (.ishr, 1) := by decide +kernel
theorem dL_does_97 : decode cL_does 97 = .ok (.iconst 4, 1) := by decide +kernel
theorem dL_does_98 : decode cL_does 98 = .ok (.invokestatic 84, 3) := by decide +kernel
theorem dL_does_101 : decode cL_does 101 = .ok (.iadd, 1) := by decide +kernel
theorem dL_does_102 : decode cL_does 102 = .ok (.invokevirtual 90, 3) := by decide +kernel
theorem dL_does_105 : decode cL_does 105 = .ok (.goto 15, 3) := by decide +kernel
theorem dL_does_108 : decode cL_does 108 = .ok (.aload_n 0, 1) := by decide +kernel
theorem dL_does_109 : decode cL_does 109 = .ok (.iload_n 1, 1) := by decide +kernel
theorem dL_does_110 : decode cL_does 110 = .ok (.bipush 6, 2) := by decide +kernel
theorem dL_does_112 : decode cL_does 112 = .ok (.ishr, 1) := by decide +kernel
theorem dL_does_113 : decode cL_does 113 = .ok (.iconst 4, 1) := by decide +kernel
theorem dL_does_114 : decode cL_does 114 = .ok (.invokestatic 84, 3) := by decide +kernel
theorem dL_does_117 : decode cL_does 117 = .ok (.invokevirtual 94, 3) := by decide +kernel
theorem dL_does_120 : decode cL_does 120 = .ok (.ireturn, 1) := by decide +kernel
theorem dL_does_121 : decode cL_does 121 = .ok (.aload_n 0, 1) := by decide +kernel
theorem dL_does_122 : decode cL_does 122 = .ok (.iload_n 1, 1) := by decide +kernel
theorem dL_does_123 : decode cL_does 123 = .ok (.iconst 4, 1) := by decide +kernel
theorem dL_does_124 : decode cL_does 124 = .ok (.ishr, 1) := by decide +kernel
theorem dL_does_125 : decode cL_does 125 = .ok (.iconst 5, 1) := by decide +kernel
theorem dL_does_126 : decode cL_does 126 = .ok (.invokestatic 84, 3) := by decide +kernel
theorem dL_does_129 : decode cL_does 129 = .ok (.invokevirtual 97, 3) := by decide +kernel
theorem dL_does_132 : decode cL_does 132 = .ok (.ireturn, 1) := by decide +kernel
theorem dL_does_133 : decode cL_does 133 = .ok (.aload_n 0, 1) := by decide +kernel
theorem dL_does_134 : decode cL_does 134 = .ok (.iload_n 1, 1) := by decide +kernel
theorem dL_does_135 : decode cL_does 135 = .ok (.iconst 4, 1) := by decide +kernel
theorem dL_does_136 : decode cL_does 136 = .ok (.ishr, 1) := by decide +kernel
theorem dL_does_137 : decode cL_does 137 = .ok (.iconst 3, 1) := by decide +kernel
theorem dL_does_138 : decode cL_does 138 = .ok (.invokestatic 84, 3) := by decide +kernel
theorem dL_does_141 : decode cL_does 141 = .ok (.invokevirtual 100, 3) := by decide +kernel
theorem dL_does_144 : decode cL_does 144 = .ok (.ireturn, 1) := by decide +kernel
theorem dL_does_145 : decode cL_does 145 = .ok (.aload_n 0, 1) := by decide +kernel
theorem dL_does_146 : decode cL_does 146 = .ok (.iload_n 1, 1) := by decide +kernel
theorem dL_does_147 : decode cL_does 147 = .ok (.iconst 4, 1) := by decide +kernel
theorem dL_does_148 : decode cL_does 148 = .ok (.ishr, 1) := by decide +kernel
theorem dL_does_149 : decode cL_does 149 = .ok (.bipush 24, 2) := by decide +kernel
theorem dL_does_151 : decode cL_does 151 = .ok (.invokestatic 84, 3) := by decide +kernel
theorem dL_does_154 : decode cL_does 154 = .ok (.invokevirtual 103, 3) := by decide +kernel
theorem dL_does_157 : decode cL_does 157 = .ok (.ireturn, 1) := by decide +kernel
theorem dL_does_158 : decode cL_does 158 = .ok (.aload_n 0, 1) := by decide +kernel
theorem dL_does_159 : decode cL_does 159 = .ok (.iload_n 1, 1) := by decide +kernel
theorem dL_does_160 : decode cL_does 160 = .ok (.iconst 4, 1) := by decide +kernel
theorem dL_does_161 : decode cL_does 161 = .ok (.ishr, 1) := by decide +kernel
theorem dL_does_162 : decode cL_does 162 = .ok (.bipush 24, 2) := by decide +kernel
theorem dL_does_164 : decode cL_does 164 = .ok (.invokestatic 84, 3) := by decide +kernel
theorem dL_does_167 : decode cL_does 167 = .ok (.iload_n 1, 1) := by decide +kernel
theorem dL_does_168 : decode cL_does 168 = .ok (.bipush 9, 2) := by decide +kernel
theorem dL_does_170 : decode cL_does 170 = .ok (.ishr, 1) := by decide +kernel
theorem dL_does_171 : decode cL_does 171 = .ok (.iload_n 2, 1) := by decide +kernel
theorem dL_does_172 : decode cL_does 172 = .ok (.iconst 1, 1) := by decide +kernel
theorem dL_does_173 : decode cL_does 173 = .ok (.iadd, 1) := by decide +kernel
theorem dL_does_174 : decode cL_does 174 = .ok (.invokestatic 84, 3) := by decide +kernel
theorem dL_does_177 : decode cL_does 177 = .ok (.invokevirtual 106, 3) := by decide +kernel
theorem dL_does_180 : decode cL_does 180 = .ok (.ireturn, 1) := by decide +kernel
theorem dL_does_181 : decode cL_does 181 = .ok (.aload_n 0, 1) := by decide +kernel
theorem dL_does_182 : decode cL_does 182 = .ok (.iload_n 1, 1) := by decide +kernel
theorem dL_does_183 : decode cL_does 183 = .ok (.iconst 4, 1) := by decide +kernel
theorem dL_does_184 : decode cL_does 184 = .ok (.ishr, 1) := by decide +kernel
theorem dL_does_185 : decode cL_does 185 = .ok (.iload_n 2, 1) := by decide +kernel
theorem dL_does_186 : decode cL_does 186 = .ok (.iconst 1, 1) := by decide +kernel
theorem dL_does_187 : decode cL_does 187 = .ok (.iadd, 1) := by decide +kernel
theorem dL_does_188 : decode cL_does 188 = .ok (.invokestatic 84, 3) := by decide +kernel
theorem dL_does_191 : decode cL_does 191 = .ok (.invokevirtual 109, 3) := by decide +kernel
theorem dL_does_194 : decode cL_does 194 = .ok (.ireturn, 1) := by decide +kernel
theorem dL_holds_0 : decode cL_holds 0 = .ok (.iconst 0, 1) := by decide +kernel
theorem dL_holds_1 : decode cL_holds 1 = .ok (.istore_n 2, 1) := by decide +kernel
theorem dL_holds_2 : decode cL_holds 2 = .ok (.iconst 0, 1) := by decide +kernel
theorem dL_holds_3 : decode cL_holds 3 = .ok (.istore_n 3, 1) := by decide +kernel
theorem dL_holds_4 : decode cL_holds 4 = .ok (.iconst 0, 1) := by decide +kernel
theorem dL_holds_5 : decode cL_holds 5 = .ok (.istore 4, 2) := by decide +kernel
theorem dL_holds_7 : decode cL_holds 7 = .ok (.iload 4, 2) := by decide +kernel
theorem dL_holds_9 : decode cL_holds 9 = .ok (.bipush 60, 2) := by decide +kernel
theorem dL_holds_11 : decode cL_holds 11 = .ok (.if_icmp .ge 225, 3) := by decide +kernel
theorem dL_holds_14 : decode cL_holds 14 = .ok (.aload_n 0, 1) := by decide +kernel
theorem dL_holds_15 : decode cL_holds 15 = .ok (.iload 4, 2) := by decide +kernel
theorem dL_holds_17 : decode cL_holds 17 = .ok (.invokevirtual 53, 3) := by decide +kernel
theorem dL_holds_20 : decode cL_holds 20 = .ok (.istore 5, 2) := by decide +kernel
theorem dL_holds_22 : decode cL_holds 22 = .ok (.iload 5, 2) := by decide +kernel
theorem dL_holds_24 : decode cL_holds 24 = .ok (.ifCond .ge 8, 3) := by decide +kernel
theorem dL_holds_27 : decode cL_holds 27 = .ok (.bipush (-9), 2) := by decide +kernel
theorem dL_holds_29 : decode cL_holds 29 = .ok (.goto 9, 3) := by decide +kernel
theorem dL_holds_32 : decode cL_holds 32 = .ok (.aload_n 0, 1) := by decide +kernel
theorem dL_holds_33 : decode cL_holds 33 = .ok (.iload 4, 2) := by decide +kernel
theorem dL_holds_35 : decode cL_holds 35 = .ok (.invokevirtual 59, 3) := by decide +kernel
theorem dL_holds_38 : decode cL_holds 38 = .ok (.istore 6, 2) := by decide +kernel
theorem dL_holds_40 : decode cL_holds 40 = .ok (.iload_n 2, 1) := by decide +kernel
theorem dL_holds_41 : decode cL_holds 41 = .ok (.iload 6, 2) := by decide +kernel
theorem dL_holds_43 : decode cL_holds 43 = .ok (.ifCond .lt 7, 3) := by decide +kernel
theorem dL_holds_46 : decode cL_holds 46 = .ok (.iconst 1, 1) := by decide +kernel
theorem dL_holds_47 : decode cL_holds 47 = .ok (.goto 4, 3) := by decide +kernel
theorem dL_holds_50 : decode cL_holds 50 = .ok (.iconst 0, 1) := by decide +kernel
theorem dL_holds_51 : decode cL_holds 51 = .ok (.iadd, 1) := by decide +kernel
theorem dL_holds_52 : decode cL_holds 52 = .ok (.istore_n 2, 1) := by decide +kernel
theorem dL_holds_53 : decode cL_holds 53 = .ok (.iload 5, 2) := by decide +kernel
theorem dL_holds_55 : decode cL_holds 55 = .ok (.ifCond .lt 20, 3) := by decide +kernel
theorem dL_holds_58 : decode cL_holds 58 = .ok (.iload 6, 2) := by decide +kernel
theorem dL_holds_60 : decode cL_holds 60 = .ok (.ifCond .ge 15, 3) := by decide +kernel
theorem dL_holds_63 : decode cL_holds 63 = .ok (.aload_n 0, 1) := by decide +kernel
theorem dL_holds_64 : decode cL_holds 64 = .ok (.iload 4, 2) := by decide +kernel
theorem dL_holds_66 : decode cL_holds 66 = .ok (.invokevirtual 62, 3) := by decide +kernel
theorem dL_holds_69 : decode cL_holds 69 = .ok (.iconst 1, 1) := by decide +kernel
theorem dL_holds_70 : decode cL_holds 70 = .ok (.if_icmp .eq 5, 3) := by decide +kernel
theorem dL_holds_73 : decode cL_holds 73 = .ok (.iconst 0, 1) := by decide +kernel
theorem dL_holds_74 : decode cL_holds 74 = .ok (.ireturn, 1) := by decide +kernel
theorem dL_holds_75 : decode cL_holds 75 = .ok (.iconst 0, 1) := by decide +kernel
theorem dL_holds_76 : decode cL_holds 76 = .ok (.istore 7, 2) := by decide +kernel
theorem dL_holds_78 : decode cL_holds 78 = .ok (.iload 7, 2) := by decide +kernel
theorem dL_holds_80 : decode cL_holds 80 = .ok (.iload 4, 2) := by decide +kernel
theorem dL_holds_82 : decode cL_holds 82 = .ok (.if_icmp .ge 52, 3) := by decide +kernel
theorem dL_holds_85 : decode cL_holds 85 = .ok (.iload 6, 2) := by decide +kernel
theorem dL_holds_87 : decode cL_holds 87 = .ok (.ifCond .lt 47, 3) := by decide +kernel
theorem dL_holds_90 : decode cL_holds 90 = .ok (.aload_n 0, 1) := by decide +kernel
theorem dL_holds_91 : decode cL_holds 91 = .ok (.iload 7, 2) := by decide +kernel
theorem dL_holds_93 : decode cL_holds 93 = .ok (.invokevirtual 53, 3) := by decide +kernel
theorem dL_holds_96 : decode cL_holds 96 = .ok (.ifCond .lt 32, 3) := by decide +kernel
theorem dL_holds_99 : decode cL_holds 99 = .ok (.aload_n 0, 1) := by decide +kernel
theorem dL_holds_100 : decode cL_holds 100 = .ok (.iload 7, 2) := by decide +kernel
theorem dL_holds_102 : decode cL_holds 102 = .ok (.invokevirtual 59, 3) := by decide +kernel
theorem dL_holds_105 : decode cL_holds 105 = .ok (.iload 6, 2) := by decide +kernel
theorem dL_holds_107 : decode cL_holds 107 = .ok (.if_icmp .ne 21, 3) := by decide +kernel
theorem dL_holds_110 : decode cL_holds 110 = .ok (.aload_n 0, 1) := by decide +kernel
theorem dL_holds_111 : decode cL_holds 111 = .ok (.iload 5, 2) := by decide +kernel
theorem dL_holds_113 : decode cL_holds 113 = .ok (.aload_n 0, 1) := by decide +kernel
theorem dL_holds_114 : decode cL_holds 114 = .ok (.iload 7, 2) := by decide +kernel
theorem dL_holds_116 : decode cL_holds 116 = .ok (.invokevirtual 53, 3) := by decide +kernel
theorem dL_holds_119 : decode cL_holds 119 = .ok (.invokevirtual 112, 3) := by decide +kernel
theorem dL_holds_122 : decode cL_holds 122 = .ok (.iload_n 1, 1) := by decide +kernel
theorem dL_holds_123 : decode cL_holds 123 = .ok (.if_icmp .ge 5, 3) := by decide +kernel
theorem dL_holds_126 : decode cL_holds 126 = .ok (.iconst 0, 1) := by decide +kernel
theorem dL_holds_127 : decode cL_holds 127 = .ok (.ireturn, 1) := by decide +kernel
theorem dL_holds_128 : decode cL_holds 128 = .ok (.iinc 7 1, 3) := by decide +kernel
theorem dL_holds_131 : decode cL_holds 131 = .ok (.goto (-53), 3) := by decide +kernel
theorem dL_holds_134 : decode cL_holds 134 = .ok (.iconst 0, 1) := by decide +kernel
theorem dL_holds_135 : decode cL_holds 135 = .ok (.istore 7, 2) := by decide +kernel
theorem dL_holds_137 : decode cL_holds 137 = .ok (.iconst 0, 1) := by decide +kernel
theorem dL_holds_138 : decode cL_holds 138 = .ok (.istore 8, 2) := by decide +kernel
theorem dL_holds_140 : decode cL_holds 140 = .ok (.iload 8, 2) := by decide +kernel
theorem dL_holds_142 : decode cL_holds 142 = .ok (.aload_n 0, 1) := by decide +kernel
theorem dL_holds_143 : decode cL_holds 143 = .ok (.invokevirtual 8, 3) := by decide +kernel
theorem dL_holds_146 : decode cL_holds 146 = .ok (.if_icmp .ge 61, 3) := by decide +kernel
theorem dL_holds_149 : decode cL_holds 149 = .ok (.iload 6, 2) := by decide +kernel
theorem dL_holds_151 : decode cL_holds 151 = .ok (.ifCond .lt 56, 3) := by decide +kernel
theorem dL_holds_154 : decode cL_holds 154 = .ok (.iload 7, 2) := by decide +kernel
theorem dL_holds_156 : decode cL_holds 156 = .ok (.ifCond .ne 38, 3) := by decide +kernel
theorem dL_holds_159 : decode cL_holds 159 = .ok (.aload_n 0, 1) := by decide +kernel
theorem dL_holds_160 : decode cL_holds 160 = .ok (.iload 8, 2) := by decide +kernel
theorem dL_holds_162 : decode cL_holds 162 = .ok (.iload 5, 2) := by decide +kernel
theorem dL_holds_164 : decode cL_holds 164 = .ok (.invokevirtual 112, 3) := by decide +kernel
theorem dL_holds_167 : decode cL_holds 167 = .ok (.iconst 2, 1) := by decide +kernel
theorem dL_holds_168 : decode cL_holds 168 = .ok (.if_icmp .ge 30, 3) := by decide +kernel
theorem dL_holds_171 : decode cL_holds 171 = .ok (.iload 6, 2) := by decide +kernel
theorem dL_holds_173 : decode cL_holds 173 = .ok (.iload_n 1, 1) := by decide +kernel
theorem dL_holds_174 : decode cL_holds 174 = .ok (.iconst 2, 1) := by decide +kernel
theorem dL_holds_175 : decode cL_holds 175 = .ok (.if_icmp .ne 7, 3) := by decide +kernel
theorem dL_holds_178 : decode cL_holds 178 = .ok (.iconst 3, 1) := by decide +kernel
theorem dL_holds_179 : decode cL_holds 179 = .ok (.goto 5, 3) := by decide +kernel
theorem dL_holds_182 : decode cL_holds 182 = .ok (.bipush 7, 2) := by decide +kernel
theorem dL_holds_184 : decode cL_holds 184 = .ok (.irem, 1) := by decide +kernel
theorem dL_holds_185 : decode cL_holds 185 = .ok (.aload_n 0, 1) := by decide +kernel
theorem dL_holds_186 : decode cL_holds 186 = .ok (.iload 8, 2) := by decide +kernel
theorem dL_holds_188 : decode cL_holds 188 = .ok (.invokevirtual 115, 3) := by decide +kernel
theorem dL_holds_191 : decode cL_holds 191 = .ok (.if_icmp .ne 7, 3) := by decide +kernel
theorem dL_holds_194 : decode cL_holds 194 = .ok (.iconst 1, 1) := by decide +kernel
theorem dL_holds_195 : decode cL_holds 195 = .ok (.goto 4, 3) := by decide +kernel
theorem dL_holds_198 : decode cL_holds 198 = .ok (.iconst 0, 1) := by decide +kernel
theorem dL_holds_199 : decode cL_holds 199 = .ok (.istore 7, 2) := by decide +kernel
theorem dL_holds_201 : decode cL_holds 201 = .ok (.iinc 8 1, 3) := by decide +kernel
theorem dL_holds_204 : decode cL_holds 204 = .ok (.goto (-64), 3) := by decide +kernel
theorem dL_holds_207 : decode cL_holds 207 = .ok (.iload 6, 2) := by decide +kernel
theorem dL_holds_209 : decode cL_holds 209 = .ok (.ifCond .lt 21, 3) := by decide +kernel
theorem dL_holds_212 : decode cL_holds 212 = .ok (.iload 7, 2) := by decide +kernel
theorem dL_holds_214 : decode cL_holds 214 = .ok (.ifCond .eq 14, 3) := by decide +kernel
theorem dL_holds_217 : decode cL_holds 217 = .ok (.aload_n 0, 1) := by decide +kernel
theorem dL_holds_218 : decode cL_holds 218 = .ok (.iload 5, 2) := by decide +kernel
theorem dL_holds_220 : decode cL_holds 220 = .ok (.iload 6, 2) := by decide +kernel
theorem dL_holds_222 : decode cL_holds 222 = .ok (.invokevirtual 118, 3) := by decide +kernel
theorem dL_holds_225 : decode cL_holds 225 = .ok (.ifCond .eq 5, 3) := by decide +kernel
theorem dL_holds_228 : decode cL_holds 228 = .ok (.iconst 0, 1) := by decide +kernel
theorem dL_holds_229 : decode cL_holds 229 = .ok (.ireturn, 1) := by decide +kernel
theorem dL_holds_230 : decode cL_holds 230 = .ok (.iinc 4 1, 3) := by decide +kernel
theorem dL_holds_233 : decode cL_holds 233 = .ok (.goto (-226), 3) := by decide +kernel
theorem dL_holds_236 : decode cL_holds 236 = .ok (.iconst 0, 1) := by decide +kernel
theorem dL_holds_237 : decode cL_holds 237 = .ok (.istore 4, 2) := by decide +kernel
theorem dL_holds_239 : decode cL_holds 239 = .ok (.iconst 0, 1) := by decide +kernel
theorem dL_holds_240 : decode cL_holds 240 = .ok (.istore 5, 2) := by decide +kernel
theorem dL_holds_242 : decode cL_holds 242 = .ok (.iload 5, 2) := by decide +kernel
theorem dL_holds_244 : decode cL_holds 244 = .ok (.aload_n 0, 1) := by decide +kernel
theorem dL_holds_245 : decode cL_holds 245 = .ok (.invokevirtual 8, 3) := by decide +kernel
theorem dL_holds_248 : decode cL_holds 248 = .ok (.if_icmp .ge 105, 3) := by decide +kernel
theorem dL_holds_251 : decode cL_holds 251 = .ok (.aload_n 0, 1) := by decide +kernel
theorem dL_holds_252 : decode cL_holds 252 = .ok (.iload 5, 2) := by decide +kernel
theorem dL_holds_254 : decode cL_holds 254 = .ok (.invokevirtual 67, 3) := by decide +kernel
theorem dL_holds_257 : decode cL_holds 257 = .ok (.istore 6, 2) := by decide +kernel
theorem dL_holds_259 : decode cL_holds 259 = .ok (.iload_n 3, 1) := by decide +kernel
theorem dL_holds_260 : decode cL_holds 260 = .ok (.aload_n 0, 1) := by decide +kernel
theorem dL_holds_261 : decode cL_holds 261 = .ok (.iload 5, 2) := by decide +kernel
theorem dL_holds_263 : decode cL_holds 263 = .ok (.invokevirtual 76, 3) := by decide +kernel
theorem dL_holds_266 : decode cL_holds 266 = .ok (.iadd, 1) := by decide +kernel
theorem dL_holds_267 : decode cL_holds 267 = .ok (.istore_n 3, 1) := by decide +kernel
theorem dL_holds_268 : decode cL_holds 268 = .ok (.iload 4, 2) := by decide +kernel
theorem dL_holds_270 : decode cL_holds 270 = .ok (.iload 6, 2) := by decide +kernel
theorem dL_holds_272 : decode cL_holds 272 = .ok (.ifCond .ge 7, 3) := by decide +kernel
theorem dL_holds_275 : decode cL_holds 275 = .ok (.iconst 1, 1) := by decide +kernel
theorem dL_holds_276 : decode cL_holds 276 = .ok (.goto 4, 3) := by decide +kernel
theorem dL_holds_279 : decode cL_holds 279 = .ok (.iconst 0, 1) := by decide +kernel
theorem dL_holds_280 : decode cL_holds 280 = .ok (.iadd, 1) := by decide +kernel
theorem dL_holds_281 : decode cL_holds 281 = .ok (.istore 4, 2) := by decide +kernel
theorem dL_holds_283 : decode cL_holds 283 = .ok (.iload 6, 2) := by decide +kernel
theorem dL_holds_285 : decode cL_holds 285 = .ok (.ifCond .lt 15, 3) := by decide +kernel
theorem dL_holds_288 : decode cL_holds 288 = .ok (.aload_n 0, 1) := by decide +kernel
theorem dL_holds_289 : decode cL_holds 289 = .ok (.iload 5, 2) := by decide +kernel
theorem dL_holds_291 : decode cL_holds 291 = .ok (.iload 6, 2) := by decide +kernel
theorem dL_holds_293 : decode cL_holds 293 = .ok (.invokevirtual 118, 3) := by decide +kernel
theorem dL_holds_296 : decode cL_holds 296 = .ok (.iconst 1, 1) := by decide +kernel
theorem dL_holds_297 : decode cL_holds 297 = .ok (.if_icmp .ne 48, 3) := by decide +kernel
theorem dL_holds_300 : decode cL_holds 300 = .ok (.aload_n 0, 1) := by decide +kernel
theorem dL_holds_301 : decode cL_holds 301 = .ok (.iload 5, 2) := by decide +kernel
theorem dL_holds_303 : decode cL_holds 303 = .ok (.invokevirtual 70, 3) := by decide +kernel
theorem dL_holds_306 : decode cL_holds 306 = .ok (.ifCond .le 14, 3) := by decide +kernel
theorem dL_holds_309 : decode cL_holds 309 = .ok (.aload_n 0, 1) := by decide +kernel
theorem dL_holds_310 : decode cL_holds 310 = .ok (.iload 5, 2) := by decide +kernel
theorem dL_holds_312 : decode cL_holds 312 = .ok (.invokevirtual 79, 3) := by decide +kernel
theorem dL_holds_315 : decode cL_holds 315 = .ok (.bipush (-9), 2) := by decide +kernel
theorem dL_holds_317 : decode cL_holds 317 = .ok (.if_icmp .ne 28, 3) := by decide +kernel
theorem dL_holds_320 : decode cL_holds 320 = .ok (.aload_n 0, 1) := by decide +kernel
theorem dL_holds_321 : decode cL_holds 321 = .ok (.iload 5, 2) := by decide +kernel
theorem dL_holds_323 : decode cL_holds 323 = .ok (.invokevirtual 79, 3) := by decide +kernel
theorem dL_holds_326 : decode cL_holds 326 = .ok (.ifCond .lt 21, 3) := by decide +kernel
theorem dL_holds_329 : decode cL_holds 329 = .ok (.aload_n 0, 1) := by decide +kernel
theorem dL_holds_330 : decode cL_holds 330 = .ok (.iload 5, 2) := by decide +kernel
theorem dL_holds_332 : decode cL_holds 332 = .ok (.aload_n 0, 1) := by decide +kernel
theorem dL_holds_333 : decode cL_holds 333 = .ok (.iload 5, 2) := by decide +kernel
theorem dL_holds_335 : decode cL_holds 335 = .ok (.invokevirtual 79, 3) := by decide +kernel
theorem dL_holds_338 : decode cL_holds 338 = .ok (.invokevirtual 112, 3) := by decide +kernel
theorem dL_holds_341 : decode cL_holds 341 = .ok (.iconst 1, 1) := by decide +kernel
theorem dL_holds_342 : decode cL_holds 342 = .ok (.if_icmp .eq 5, 3) := by decide +kernel
theorem dL_holds_345 : decode cL_holds 345 = .ok (.iconst 0, 1) := by decide +kernel
theorem dL_holds_346 : decode cL_holds 346 = .ok (.ireturn, 1) := by decide +kernel
theorem dL_holds_347 : decode cL_holds 347 = .ok (.iinc 5 1, 3) := by decide +kernel
theorem dL_holds_350 : decode cL_holds 350 = .ok (.goto (-108), 3) := by decide +kernel
theorem dL_holds_353 : decode cL_holds 353 = .ok (.iload_n 3, 1) := by decide +kernel
theorem dL_holds_354 : decode cL_holds 354 = .ok (.iload_n 2, 1) := by decide +kernel
theorem dL_holds_355 : decode cL_holds 355 = .ok (.if_icmp .ne 27, 3) := by decide +kernel
theorem dL_holds_358 : decode cL_holds 358 = .ok (.iload 4, 2) := by decide +kernel
theorem dL_holds_360 : decode cL_holds 360 = .ok (.aload_n 0, 1) := by decide +kernel
theorem dL_holds_361 : decode cL_holds 361 = .ok (.invokevirtual 121, 3) := by decide +kernel
theorem dL_holds_364 : decode cL_holds 364 = .ok (.if_icmp .ne 18, 3) := by decide +kernel
theorem dL_holds_367 : decode cL_holds 367 = .ok (.aload_n 0, 1) := by decide +kernel
theorem dL_holds_368 : decode cL_holds 368 = .ok (.invokevirtual 29, 3) := by decide +kernel
theorem dL_holds_371 : decode cL_holds 371 = .ok (.aload_n 0, 1) := by decide +kernel
theorem dL_holds_372 : decode cL_holds 372 = .ok (.invokevirtual 24, 3) := by decide +kernel
theorem dL_holds_375 : decode cL_holds 375 = .ok (.if_icmp .gt 7, 3) := by decide +kernel
theorem dL_holds_378 : decode cL_holds 378 = .ok (.iconst 1, 1) := by decide +kernel
theorem dL_holds_379 : decode cL_holds 379 = .ok (.goto 4, 3) := by decide +kernel
theorem dL_holds_382 : decode cL_holds 382 = .ok (.iconst 0, 1) := by decide +kernel
theorem dL_holds_383 : decode cL_holds 383 = .ok (.ireturn, 1) := by decide +kernel
theorem dL_law_0 : decode cL_law 0 = .ok (.new 9, 3) := by decide +kernel
theorem dL_law_3 : decode cL_law 3 = .ok (.dup, 1) := by decide +kernel
theorem dL_law_4 : decode cL_law 4 = .ok (.invokespecial 124, 3) := by decide +kernel
theorem dL_law_7 : decode cL_law 7 = .ok (.astore_n 1, 1) := by decide +kernel
theorem dL_law_8 : decode cL_law 8 = .ok (.aload_n 1, 1) := by decide +kernel
theorem dL_law_9 : decode cL_law 9 = .ok (.invokevirtual 125, 3) := by decide +kernel
theorem dL_law_12 : decode cL_law 12 = .ok (.bipush (-2), 2) := by decide +kernel
theorem dL_law_14 : decode cL_law 14 = .ok (.if_icmp .ne 23, 3) := by decide +kernel
theorem dL_law_17 : decode cL_law 17 = .ok (.aload_n 1, 1) := by decide +kernel
theorem dL_law_18 : decode cL_law 18 = .ok (.iconst 1, 1) := by decide +kernel
theorem dL_law_19 : decode cL_law 19 = .ok (.invokevirtual 128, 3) := by decide +kernel
theorem dL_law_22 : decode cL_law 22 = .ok (.bipush (-2), 2) := by decide +kernel
theorem dL_law_24 : decode cL_law 24 = .ok (.if_icmp .ne 13, 3) := by decide +kernel
theorem dL_law_27 : decode cL_law 27 = .ok (.aload_n 1, 1) := by decide +kernel
theorem dL_law_28 : decode cL_law 28 = .ok (.iconst 0, 1) := by decide +kernel
theorem dL_law_29 : decode cL_law 29 = .ok (.invokevirtual 103, 3) := by decide +kernel
theorem dL_law_32 : decode cL_law 32 = .ok (.bipush (-4), 2) := by decide +kernel
theorem dL_law_34 : decode cL_law 34 = .ok (.if_icmp .eq 5, 3) := by decide +kernel
theorem dL_law_37 : decode cL_law 37 = .ok (.iconst 0, 1) := by decide +kernel
theorem dL_law_38 : decode cL_law 38 = .ok (.ireturn, 1) := by decide +kernel
theorem dL_law_39 : decode cL_law 39 = .ok (.iconst 0, 1) := by decide +kernel
theorem dL_law_40 : decode cL_law 40 = .ok (.istore_n 2, 1) := by decide +kernel
theorem dL_law_41 : decode cL_law 41 = .ok (.iconst 2, 1) := by decide +kernel
theorem dL_law_42 : decode cL_law 42 = .ok (.istore_n 3, 1) := by decide +kernel
theorem dL_law_43 : decode cL_law 43 = .ok (.iconst 0, 1) := by decide +kernel
theorem dL_law_44 : decode cL_law 44 = .ok (.istore 4, 2) := by decide +kernel
theorem dL_law_46 : decode cL_law 46 = .ok (.iload 4, 2) := by decide +kernel
theorem dL_law_48 : decode cL_law 48 = .ok (.bipush 52, 2) := by decide +kernel
theorem dL_law_50 : decode cL_law 50 = .ok (.if_icmp .ge 183, 3) := by decide +kernel
theorem dL_law_53 : decode cL_law 53 = .ok (.aload_n 0, 1) := by decide +kernel
theorem dL_law_54 : decode cL_law 54 = .ok (.iload 4, 2) := by decide +kernel
theorem dL_law_56 : decode cL_law 56 = .ok (.invokestatic 131, 3) := by decide +kernel
theorem dL_law_59 : decode cL_law 59 = .ok (.istore 5, 2) := by decide +kernel
theorem dL_law_61 : decode cL_law 61 = .ok (.aload_n 1, 1) := by decide +kernel
theorem dL_law_62 : decode cL_law 62 = .ok (.invokestatic 135, 3) := by decide +kernel
theorem dL_law_65 : decode cL_law 65 = .ok (.lstore 6, 2) := by decide +kernel
theorem dL_law_67 : decode cL_law 67 = .ok (.iload_n 3, 1) := by decide +kernel
theorem dL_law_68 : decode cL_law 68 = .ok (.istore 8, 2) := by decide +kernel
theorem dL_law_70 : decode cL_law 70 = .ok (.aload_n 1, 1) := by decide +kernel
theorem dL_law_71 : decode cL_law 71 = .ok (.iload 5, 2) := by decide +kernel
theorem dL_law_73 : decode cL_law 73 = .ok (.invokestatic 139, 3) := by decide +kernel
theorem dL_law_76 : decode cL_law 76 = .ok (.istore 9, 2) := by decide +kernel
theorem dL_law_78 : decode cL_law 78 = .ok (.iload 9, 2) := by decide +kernel
theorem dL_law_80 : decode cL_law 80 = .ok (.ifCond .ge 14, 3) := by decide +kernel
theorem dL_law_83 : decode cL_law 83 = .ok (.iload 9, 2) := by decide +kernel
theorem dL_law_85 : decode cL_law 85 = .ok (.bipush (-9), 2) := by decide +kernel
theorem dL_law_87 : decode cL_law 87 = .ok (.if_icmp .eq 7, 3) := by decide +kernel
theorem dL_law_90 : decode cL_law 90 = .ok (.iconst 1, 1) := by decide +kernel
theorem dL_law_91 : decode cL_law 91 = .ok (.goto 4, 3) := by decide +kernel
theorem dL_law_94 : decode cL_law 94 = .ok (.iconst 0, 1) := by decide +kernel
theorem dL_law_95 : decode cL_law 95 = .ok (.istore 10, 2) := by decide +kernel
theorem dL_law_97 : decode cL_law 97 = .ok (.iload 10, 2) := by decide +kernel
theorem dL_law_99 : decode cL_law 99 = .ok (.ifCond .eq 15, 3) := by decide +kernel
theorem dL_law_102 : decode cL_law 102 = .ok (.aload_n 1, 1) := by decide +kernel
theorem dL_law_103 : decode cL_law 103 = .ok (.invokestatic 135, 3) := by decide +kernel
theorem dL_law_106 : decode cL_law 106 = .ok (.lload 6, 2) := by decide +kernel
theorem dL_law_108 : decode cL_law 108 = .ok (.lcmp, 1) := by decide +kernel
theorem dL_law_109 : decode cL_law 109 = .ok (.ifCond .eq 5, 3) := by decide +kernel
theorem dL_law_112 : decode cL_law 112 = .ok (.iconst 0, 1) := by decide +kernel
theorem dL_law_113 : decode cL_law 113 = .ok (.ireturn, 1) := by decide +kernel
theorem dL_law_114 : decode cL_law 114 = .ok (.iload 10, 2) := by decide +kernel
theorem dL_law_116 : decode cL_law 116 = .ok (.ifCond .ne 32, 3) := by decide +kernel
theorem dL_law_119 : decode cL_law 119 = .ok (.iload 5, 2) := by decide +kernel
theorem dL_law_121 : decode cL_law 121 = .ok (.bipush 15, 2) := by decide +kernel
theorem dL_law_123 : decode cL_law 123 = .ok (.iand, 1) := by decide +kernel
theorem dL_law_124 : decode cL_law 124 = .ok (.ifCond .ne 24, 3) := by decide +kernel
theorem dL_law_127 : decode cL_law 127 = .ok (.iload 5, 2) := by decide +kernel
theorem dL_law_129 : decode cL_law 129 = .ok (.iconst 4, 1) := by decide +kernel
theorem dL_law_130 : decode cL_law 130 = .ok (.ishr, 1) := by decide +kernel
theorem dL_law_131 : decode cL_law 131 = .ok (.iconst 3, 1) := by decide +kernel
theorem dL_law_132 : decode cL_law 132 = .ok (.iand, 1) := by decide +kernel
theorem dL_law_133 : decode cL_law 133 = .ok (.ifCond .ne 15, 3) := by decide +kernel
theorem dL_law_136 : decode cL_law 136 = .ok (.iconst 2, 1) := by decide +kernel
theorem dL_law_137 : decode cL_law 137 = .ok (.iload 5, 2) := by decide +kernel
theorem dL_law_139 : decode cL_law 139 = .ok (.bipush 12, 2) := by decide +kernel
theorem dL_law_141 : decode cL_law 141 = .ok (.ishr, 1) := by decide +kernel
theorem dL_law_142 : decode cL_law 142 = .ok (.iconst 1, 1) := by decide +kernel
theorem dL_law_143 : decode cL_law 143 = .ok (.iand, 1) := by decide +kernel
theorem dL_law_144 : decode cL_law 144 = .ok (.iadd, 1) := by decide +kernel
theorem dL_law_145 : decode cL_law 145 = .ok (.goto 4, 3) := by decide +kernel
theorem dL_law_148 : decode cL_law 148 = .ok (.iload_n 3, 1) := by decide +kernel
theorem dL_law_149 : decode cL_law 149 = .ok (.istore_n 3, 1) := by decide +kernel
theorem dL_law_150 : decode cL_law 150 = .ok (.iload 10, 2) := by decide +kernel
theorem dL_law_152 : decode cL_law 152 = .ok (.ifCond .eq 7, 3) := by decide +kernel
theorem dL_law_155 : decode cL_law 155 = .ok (.iload_n 2, 1) := by decide +kernel
theorem dL_law_156 : decode cL_law 156 = .ok (.goto 17, 3) := by decide +kernel
theorem dL_law_159 : decode cL_law 159 = .ok (.iload_n 2, 1) := by decide +kernel
theorem dL_law_160 : decode cL_law 160 = .ok (.bipush 6, 2) := by decide +kernel
theorem dL_law_162 : decode cL_law 162 = .ok (.if_icmp .ge 9, 3) := by decide +kernel
theorem dL_law_165 : decode cL_law 165 = .ok (.iload_n 2, 1) := by decide +kernel
theorem dL_law_166 : decode cL_law 166 = .ok (.iconst 1, 1) := by decide +kernel
theorem dL_law_167 : decode cL_law 167 = .ok (.iadd, 1) := by decide +kernel
theorem dL_law_168 : decode cL_law 168 = .ok (.goto 5, 3) := by decide +kernel
theorem dL_law_171 : decode cL_law 171 = .ok (.bipush 6, 2) := by decide +kernel
theorem dL_law_173 : decode cL_law 173 = .ok (.istore_n 2, 1) := by decide +kernel
theorem dL_law_174 : decode cL_law 174 = .ok (.aload_n 1, 1) := by decide +kernel
theorem dL_law_175 : decode cL_law 175 = .ok (.iload_n 3, 1) := by decide +kernel
theorem dL_law_176 : decode cL_law 176 = .ok (.invokestatic 143, 3) := by decide +kernel
theorem dL_law_179 : decode cL_law 179 = .ok (.ifCond .ne 5, 3) := by decide +kernel
theorem dL_law_182 : decode cL_law 182 = .ok (.iconst 0, 1) := by decide +kernel
theorem dL_law_183 : decode cL_law 183 = .ok (.ireturn, 1) := by decide +kernel
theorem dL_law_184 : decode cL_law 184 = .ok (.iload 10, 2) := by decide +kernel
theorem dL_law_186 : decode cL_law 186 = .ok (.ifCond .ne 41, 3) := by decide +kernel
theorem dL_law_189 : decode cL_law 189 = .ok (.iload 5, 2) := by decide +kernel
theorem dL_law_191 : decode cL_law 191 = .ok (.bipush 26, 2) := by decide +kernel
theorem dL_law_193 : decode cL_law 193 = .ok (.ishr, 1) := by decide +kernel
theorem dL_law_194 : decode cL_law 194 = .ok (.iconst 3, 1) := by decide +kernel
theorem dL_law_195 : decode cL_law 195 = .ok (.iand, 1) := by decide +kernel
theorem dL_law_196 : decode cL_law 196 = .ok (.ifCond .ne 31, 3) := by decide +kernel
theorem dL_law_199 : decode cL_law 199 = .ok (.iload 8, 2) := by decide +kernel
theorem dL_law_201 : decode cL_law 201 = .ok (.istore_n 3, 1) := by decide +kernel
theorem dL_law_202 : decode cL_law 202 = .ok (.aload_n 1, 1) := by decide +kernel
theorem dL_law_203 : decode cL_law 203 = .ok (.invokevirtual 125, 3) := by decide +kernel
theorem dL_law_206 : decode cL_law 206 = .ok (.iload_n 2, 1) := by decide +kernel
theorem dL_law_207 : decode cL_law 207 = .ok (.iconst 1, 1) := by decide +kernel
theorem dL_law_208 : decode cL_law 208 = .ok (.isub, 1) := by decide +kernel
theorem dL_law_209 : decode cL_law 209 = .ok (.if_icmp .ne 13, 3) := by decide +kernel
theorem dL_law_212 : decode cL_law 212 = .ok (.aload_n 1, 1) := by decide +kernel
theorem dL_law_213 : decode cL_law 213 = .ok (.invokestatic 135, 3) := by decide +kernel
theorem dL_law_216 : decode cL_law 216 = .ok (.lload 6, 2) := by decide +kernel
theorem dL_law_218 : decode cL_law 218 = .ok (.lcmp, 1) := by decide +kernel
theorem dL_law_219 : decode cL_law 219 = .ok (.ifCond .eq 5, 3) := by decide +kernel
theorem dL_law_222 : decode cL_law 222 = .ok (.iconst 0, 1) := by decide +kernel
theorem dL_law_223 : decode cL_law 223 = .ok (.ireturn, 1) := by decide +kernel
theorem dL_law_224 : decode cL_law 224 = .ok (.iinc 2 (-1), 3) := by decide +kernel
theorem dL_law_227 : decode cL_law 227 = .ok (.iinc 4 1, 3) := by decide +kernel
theorem dL_law_230 : decode cL_law 230 = .ok (.goto (-184), 3) := by decide +kernel
theorem dL_law_233 : decode cL_law 233 = .ok (.aload_n 1, 1) := by decide +kernel
theorem dL_law_234 : decode cL_law 234 = .ok (.invokestatic 135, 3) := by decide +kernel
theorem dL_law_237 : decode cL_law 237 = .ok (.lstore 4, 2) := by decide +kernel
theorem dL_law_239 : decode cL_law 239 = .ok (.aload_n 1, 1) := by decide +kernel
theorem dL_law_240 : decode cL_law 240 = .ok (.invokevirtual 19, 3) := by decide +kernel
theorem dL_law_243 : decode cL_law 243 = .ok (.istore 6, 2) := by decide +kernel
theorem dL_law_245 : decode cL_law 245 = .ok (.aload_n 1, 1) := by decide +kernel
theorem dL_law_246 : decode cL_law 246 = .ok (.iconst 0, 1) := by decide +kernel
theorem dL_law_247 : decode cL_law 247 = .ok (.invokevirtual 147, 3) := by decide +kernel
theorem dL_law_250 : decode cL_law 250 = .ok (.iload 6, 2) := by decide +kernel
theorem dL_law_252 : decode cL_law 252 = .ok (.if_icmp .ne 55, 3) := by decide +kernel
theorem dL_law_255 : decode cL_law 255 = .ok (.aload_n 1, 1) := by decide +kernel
theorem dL_law_256 : decode cL_law 256 = .ok (.iconst 1, 1) := by decide +kernel
theorem dL_law_257 : decode cL_law 257 = .ok (.iconst 1, 1) := by decide +kernel
theorem dL_law_258 : decode cL_law 258 = .ok (.iconst 2, 1) := by decide +kernel
theorem dL_law_259 : decode cL_law 259 = .ok (.iconst 1, 1) := by decide +kernel
theorem dL_law_260 : decode cL_law 260 = .ok (.invokevirtual 90, 3) := by decide +kernel
theorem dL_law_263 : decode cL_law 263 = .ok (.iconst 3, 1) := by decide +kernel
theorem dL_law_264 : decode cL_law 264 = .ok (.if_icmp .ne 43, 3) := by decide +kernel
theorem dL_law_267 : decode cL_law 267 = .ok (.aload_n 1, 1) := by decide +kernel
theorem dL_law_268 : decode cL_law 268 = .ok (.invokevirtual 19, 3) := by decide +kernel
theorem dL_law_271 : decode cL_law 271 = .ok (.ifCond .ne 36, 3) := by decide +kernel
theorem dL_law_274 : decode cL_law 274 = .ok (.aload_n 1, 1) := by decide +kernel
theorem dL_law_275 : decode cL_law 275 = .ok (.iconst 0, 1) := by decide +kernel
theorem dL_law_276 : decode cL_law 276 = .ok (.invokevirtual 128, 3) := by decide +kernel
theorem dL_law_279 : decode cL_law 279 = .ok (.iload 6, 2) := by decide +kernel
theorem dL_law_281 : decode cL_law 281 = .ok (.if_icmp .ne 26, 3) := by decide +kernel
theorem dL_law_284 : decode cL_law 284 = .ok (.aload_n 1, 1) := by decide +kernel
theorem dL_law_285 : decode cL_law 285 = .ok (.invokestatic 135, 3) := by decide +kernel
theorem dL_law_288 : decode cL_law 288 = .ok (.lload 4, 2) := by decide +kernel
theorem dL_law_290 : decode cL_law 290 = .ok (.lcmp, 1) := by decide +kernel
theorem dL_law_291 : decode cL_law 291 = .ok (.ifCond .ne 16, 3) := by decide +kernel
theorem dL_law_294 : decode cL_law 294 = .ok (.aload_n 1, 1) := by decide +kernel
theorem dL_law_295 : decode cL_law 295 = .ok (.invokevirtual 125, 3) := by decide +kernel
theorem dL_law_298 : decode cL_law 298 = .ok (.bipush (-2), 2) := by decide +kernel
theorem dL_law_300 : decode cL_law 300 = .ok (.if_icmp .ne 7, 3) := by decide +kernel
theorem dL_law_303 : decode cL_law 303 = .ok (.iconst 1, 1) := by decide +kernel
theorem dL_law_304 : decode cL_law 304 = .ok (.goto 4, 3) := by decide +kernel
theorem dL_law_307 : decode cL_law 307 = .ok (.iconst 0, 1) := by decide +kernel
theorem dL_law_308 : decode cL_law 308 = .ok (.ireturn, 1) := by decide +kernel
