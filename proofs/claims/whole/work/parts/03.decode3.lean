theorem dX5_group_22 : decode cX5_group 22 = .ok (.iconst 2, 1) := by decide +kernel
theorem dX5_group_23 : decode cX5_group 23 = .ok (.iaload, 1) := by decide +kernel
theorem dX5_group_24 : decode cX5_group 24 = .ok (.iconst 2, 1) := by decide +kernel
theorem dX5_group_25 : decode cX5_group 25 = .ok (.if_icmp .ne 13, 3) := by decide +kernel
theorem dX5_group_28 : decode cX5_group 28 = .ok (.iload_n 2, 1) := by decide +kernel
theorem dX5_group_29 : decode cX5_group 29 = .ok (.iconst 2, 1) := by decide +kernel
theorem dX5_group_30 : decode cX5_group 30 = .ok (.iload_n 3, 1) := by decide +kernel
theorem dX5_group_31 : decode cX5_group 31 = .ok (.imul, 1) := by decide +kernel
theorem dX5_group_32 : decode cX5_group 32 = .ok (.iadd, 1) := by decide +kernel
theorem dX5_group_33 : decode cX5_group 33 = .ok (.iconst 3, 1) := by decide +kernel
theorem dX5_group_34 : decode cX5_group 34 = .ok (.irem, 1) := by decide +kernel
theorem dX5_group_35 : decode cX5_group 35 = .ok (.goto 11, 3) := by decide +kernel
theorem dX5_group_38 : decode cX5_group 38 = .ok (.iload_n 2, 1) := by decide +kernel
theorem dX5_group_39 : decode cX5_group 39 = .ok (.iconst 3, 1) := by decide +kernel
theorem dX5_group_40 : decode cX5_group 40 = .ok (.iload_n 3, 1) := by decide +kernel
theorem dX5_group_41 : decode cX5_group 41 = .ok (.imul, 1) := by decide +kernel
theorem dX5_group_42 : decode cX5_group 42 = .ok (.iadd, 1) := by decide +kernel
theorem dX5_group_43 : decode cX5_group 43 = .ok (.bipush 7, 2) := by decide +kernel
theorem dX5_group_45 : decode cX5_group 45 = .ok (.irem, 1) := by decide +kernel
theorem dX5_group_46 : decode cX5_group 46 = .ok (.ireturn, 1) := by decide +kernel
theorem dX5_size_0 : decode cX5_size 0 = .ok (.iload_n 0, 1) := by decide +kernel
theorem dX5_size_1 : decode cX5_size 1 = .ok (.ifCond .ge 8, 3) := by decide +kernel
theorem dX5_size_4 : decode cX5_size 4 = .ok (.iload_n 0, 1) := by decide +kernel
theorem dX5_size_5 : decode cX5_size 5 = .ok (.ineg, 1) := by decide +kernel
theorem dX5_size_6 : decode cX5_size 6 = .ok (.goto 4, 3) := by decide +kernel
theorem dX5_size_9 : decode cX5_size 9 = .ok (.iload_n 0, 1) := by decide +kernel
theorem dX5_size_10 : decode cX5_size 10 = .ok (.ireturn, 1) := by decide +kernel
theorem dX5_far_0 : decode cX5_far 0 = .ok (.iload_n 1, 1) := by decide +kernel
theorem dX5_far_1 : decode cX5_far 1 = .ok (.aload_n 0, 1) := by decide +kernel
theorem dX5_far_2 : decode cX5_far 2 = .ok (.getfield 7, 3) := by decide +kernel
theorem dX5_far_5 : decode cX5_far 5 = .ok (.iconst 1, 1) := by decide +kernel
theorem dX5_far_6 : decode cX5_far 6 = .ok (.iaload, 1) := by decide +kernel
theorem dX5_far_7 : decode cX5_far 7 = .ok (.idiv, 1) := by decide +kernel
theorem dX5_far_8 : decode cX5_far 8 = .ok (.iload_n 2, 1) := by decide +kernel
theorem dX5_far_9 : decode cX5_far 9 = .ok (.aload_n 0, 1) := by decide +kernel
theorem dX5_far_10 : decode cX5_far 10 = .ok (.getfield 7, 3) := by decide +kernel
theorem dX5_far_13 : decode cX5_far 13 = .ok (.iconst 1, 1) := by decide +kernel
theorem dX5_far_14 : decode cX5_far 14 = .ok (.iaload, 1) := by decide +kernel
theorem dX5_far_15 : decode cX5_far 15 = .ok (.idiv, 1) := by decide +kernel
theorem dX5_far_16 : decode cX5_far 16 = .ok (.isub, 1) := by decide +kernel
theorem dX5_far_17 : decode cX5_far 17 = .ok (.istore_n 3, 1) := by decide +kernel
theorem dX5_far_18 : decode cX5_far 18 = .ok (.iload_n 1, 1) := by decide +kernel
theorem dX5_far_19 : decode cX5_far 19 = .ok (.aload_n 0, 1) := by decide +kernel
theorem dX5_far_20 : decode cX5_far 20 = .ok (.getfield 7, 3) := by decide +kernel
theorem dX5_far_23 : decode cX5_far 23 = .ok (.iconst 1, 1) := by decide +kernel
theorem dX5_far_24 : decode cX5_far 24 = .ok (.iaload, 1) := by decide +kernel
theorem dX5_far_25 : decode cX5_far 25 = .ok (.irem, 1) := by decide +kernel
theorem dX5_far_26 : decode cX5_far 26 = .ok (.iload_n 2, 1) := by decide +kernel
theorem dX5_far_27 : decode cX5_far 27 = .ok (.aload_n 0, 1) := by decide +kernel
theorem dX5_far_28 : decode cX5_far 28 = .ok (.getfield 7, 3) := by decide +kernel
theorem dX5_far_31 : decode cX5_far 31 = .ok (.iconst 1, 1) := by decide +kernel
theorem dX5_far_32 : decode cX5_far 32 = .ok (.iaload, 1) := by decide +kernel
theorem dX5_far_33 : decode cX5_far 33 = .ok (.irem, 1) := by decide +kernel
theorem dX5_far_34 : decode cX5_far 34 = .ok (.isub, 1) := by decide +kernel
theorem dX5_far_35 : decode cX5_far 35 = .ok (.istore 4, 2) := by decide +kernel
theorem dX5_far_37 : decode cX5_far 37 = .ok (.iload_n 3, 1) := by decide +kernel
theorem dX5_far_38 : decode cX5_far 38 = .ok (.invokestatic 51, 3) := by decide +kernel
theorem dX5_far_41 : decode cX5_far 41 = .ok (.iload 4, 2) := by decide +kernel
theorem dX5_far_43 : decode cX5_far 43 = .ok (.invokestatic 51, 3) := by decide +kernel
theorem dX5_far_46 : decode cX5_far 46 = .ok (.if_icmp .le 10, 3) := by decide +kernel
theorem dX5_far_49 : decode cX5_far 49 = .ok (.iload_n 3, 1) := by decide +kernel
theorem dX5_far_50 : decode cX5_far 50 = .ok (.invokestatic 51, 3) := by decide +kernel
theorem dX5_far_53 : decode cX5_far 53 = .ok (.goto 8, 3) := by decide +kernel
theorem dX5_far_56 : decode cX5_far 56 = .ok (.iload 4, 2) := by decide +kernel
theorem dX5_far_58 : decode cX5_far 58 = .ok (.invokestatic 51, 3) := by decide +kernel
theorem dX5_far_61 : decode cX5_far 61 = .ok (.istore 5, 2) := by decide +kernel
theorem dX5_far_63 : decode cX5_far 63 = .ok (.iload_n 3, 1) := by decide +kernel
theorem dX5_far_64 : decode cX5_far 64 = .ok (.iload 4, 2) := by decide +kernel
theorem dX5_far_66 : decode cX5_far 66 = .ok (.iadd, 1) := by decide +kernel
theorem dX5_far_67 : decode cX5_far 67 = .ok (.invokestatic 51, 3) := by decide +kernel
theorem dX5_far_70 : decode cX5_far 70 = .ok (.iload 5, 2) := by decide +kernel
theorem dX5_far_72 : decode cX5_far 72 = .ok (.if_icmp .le 13, 3) := by decide +kernel
theorem dX5_far_75 : decode cX5_far 75 = .ok (.iload_n 3, 1) := by decide +kernel
theorem dX5_far_76 : decode cX5_far 76 = .ok (.iload 4, 2) := by decide +kernel
theorem dX5_far_78 : decode cX5_far 78 = .ok (.iadd, 1) := by decide +kernel
theorem dX5_far_79 : decode cX5_far 79 = .ok (.invokestatic 51, 3) := by decide +kernel
theorem dX5_far_82 : decode cX5_far 82 = .ok (.goto 5, 3) := by decide +kernel
theorem dX5_far_85 : decode cX5_far 85 = .ok (.iload 5, 2) := by decide +kernel
theorem dX5_far_87 : decode cX5_far 87 = .ok (.ireturn, 1) := by decide +kernel
theorem dX5_isNominal_0 : decode cX5_isNominal 0 = .ok (.iload_n 2, 1) := by decide +kernel
theorem dX5_isNominal_1 : decode cX5_isNominal 1 = .ok (.aload_n 0, 1) := by decide +kernel
theorem dX5_isNominal_2 : decode cX5_isNominal 2 = .ok (.invokevirtual 45, 3) := by decide +kernel
theorem dX5_isNominal_5 : decode cX5_isNominal 5 = .ok (.irem, 1) := by decide +kernel
theorem dX5_isNominal_6 : decode cX5_isNominal 6 = .ok (.aload_n 0, 1) := by decide +kernel
theorem dX5_isNominal_7 : decode cX5_isNominal 7 = .ok (.iload_n 1, 1) := by decide +kernel
theorem dX5_isNominal_8 : decode cX5_isNominal 8 = .ok (.invokevirtual 55, 3) := by decide +kernel
theorem dX5_isNominal_11 : decode cX5_isNominal 11 = .ok (.if_icmp .ne 7, 3) := by decide +kernel
theorem dX5_isNominal_14 : decode cX5_isNominal 14 = .ok (.iconst 1, 1) := by decide +kernel
theorem dX5_isNominal_15 : decode cX5_isNominal 15 = .ok (.goto 4, 3) := by decide +kernel
theorem dX5_isNominal_18 : decode cX5_isNominal 18 = .ok (.iconst 0, 1) := by decide +kernel
theorem dX5_isNominal_19 : decode cX5_isNominal 19 = .ok (.ireturn, 1) := by decide +kernel
theorem dX5_uses_0 : decode cX5_uses 0 = .ok (.iconst 0, 1) := by decide +kernel
theorem dX5_uses_1 : decode cX5_uses 1 = .ok (.istore_n 3, 1) := by decide +kernel
theorem dX5_uses_2 : decode cX5_uses 2 = .ok (.iconst 0, 1) := by decide +kernel
theorem dX5_uses_3 : decode cX5_uses 3 = .ok (.istore 4, 2) := by decide +kernel
theorem dX5_uses_5 : decode cX5_uses 5 = .ok (.iload 4, 2) := by decide +kernel
theorem dX5_uses_7 : decode cX5_uses 7 = .ok (.bipush 60, 2) := by decide +kernel
theorem dX5_uses_9 : decode cX5_uses 9 = .ok (.if_icmp .ge 51, 3) := by decide +kernel
theorem dX5_uses_12 : decode cX5_uses 12 = .ok (.iload_n 3, 1) := by decide +kernel
theorem dX5_uses_13 : decode cX5_uses 13 = .ok (.ifCond .ne 35, 3) := by decide +kernel
theorem dX5_uses_16 : decode cX5_uses 16 = .ok (.aload_n 0, 1) := by decide +kernel
theorem dX5_uses_17 : decode cX5_uses 17 = .ok (.getfield 7, 3) := by decide +kernel
theorem dX5_uses_20 : decode cX5_uses 20 = .ok (.bipush 14, 2) := by decide +kernel
theorem dX5_uses_22 : decode cX5_uses 22 = .ok (.iload 4, 2) := by decide +kernel
theorem dX5_uses_24 : decode cX5_uses 24 = .ok (.iadd, 1) := by decide +kernel
theorem dX5_uses_25 : decode cX5_uses 25 = .ok (.iaload, 1) := by decide +kernel
theorem dX5_uses_26 : decode cX5_uses 26 = .ok (.iload_n 1, 1) := by decide +kernel
theorem dX5_uses_27 : decode cX5_uses 27 = .ok (.iconst 1, 1) := by decide +kernel
theorem dX5_uses_28 : decode cX5_uses 28 = .ok (.iadd, 1) := by decide +kernel
theorem dX5_uses_29 : decode cX5_uses 29 = .ok (.if_icmp .ne 23, 3) := by decide +kernel
theorem dX5_uses_32 : decode cX5_uses 32 = .ok (.aload_n 0, 1) := by decide +kernel
theorem dX5_uses_33 : decode cX5_uses 33 = .ok (.getfield 7, 3) := by decide +kernel
theorem dX5_uses_36 : decode cX5_uses 36 = .ok (.bipush 74, 2) := by decide +kernel
theorem dX5_uses_38 : decode cX5_uses 38 = .ok (.iload 4, 2) := by decide +kernel
theorem dX5_uses_40 : decode cX5_uses 40 = .ok (.iadd, 1) := by decide +kernel
theorem dX5_uses_41 : decode cX5_uses 41 = .ok (.iaload, 1) := by decide +kernel
theorem dX5_uses_42 : decode cX5_uses 42 = .ok (.iload_n 2, 1) := by decide +kernel
theorem dX5_uses_43 : decode cX5_uses 43 = .ok (.iconst 1, 1) := by decide +kernel
theorem dX5_uses_44 : decode cX5_uses 44 = .ok (.iadd, 1) := by decide +kernel
theorem dX5_uses_45 : decode cX5_uses 45 = .ok (.if_icmp .ne 7, 3) := by decide +kernel
theorem dX5_uses_48 : decode cX5_uses 48 = .ok (.iconst 1, 1) := by decide +kernel
theorem dX5_uses_49 : decode cX5_uses 49 = .ok (.goto 4, 3) := by decide +kernel
theorem dX5_uses_52 : decode cX5_uses 52 = .ok (.iconst 0, 1) := by decide +kernel
theorem dX5_uses_53 : decode cX5_uses 53 = .ok (.istore_n 3, 1) := by decide +kernel
theorem dX5_uses_54 : decode cX5_uses 54 = .ok (.iinc 4 1, 3) := by decide +kernel
theorem dX5_uses_57 : decode cX5_uses 57 = .ok (.goto (-52), 3) := by decide +kernel
theorem dX5_uses_60 : decode cX5_uses 60 = .ok (.iload_n 3, 1) := by decide +kernel
theorem dX5_uses_61 : decode cX5_uses 61 = .ok (.ireturn, 1) := by decide +kernel
theorem dX5_locks_0 : decode cX5_locks 0 = .ok (.iconst 0, 1) := by decide +kernel
theorem dX5_locks_1 : decode cX5_locks 1 = .ok (.istore_n 3, 1) := by decide +kernel
theorem dX5_locks_2 : decode cX5_locks 2 = .ok (.iconst 0, 1) := by decide +kernel
theorem dX5_locks_3 : decode cX5_locks 3 = .ok (.istore 4, 2) := by decide +kernel
theorem dX5_locks_5 : decode cX5_locks 5 = .ok (.iload 4, 2) := by decide +kernel
theorem dX5_locks_7 : decode cX5_locks 7 = .ok (.aload_n 0, 1) := by decide +kernel
theorem dX5_locks_8 : decode cX5_locks 8 = .ok (.invokevirtual 42, 3) := by decide +kernel
theorem dX5_locks_11 : decode cX5_locks 11 = .ok (.if_icmp .ge 49, 3) := by decide +kernel
theorem dX5_locks_14 : decode cX5_locks 14 = .ok (.iload_n 3, 1) := by decide +kernel
theorem dX5_locks_15 : decode cX5_locks 15 = .ok (.iload 4, 2) := by decide +kernel
theorem dX5_locks_17 : decode cX5_locks 17 = .ok (.iload_n 1, 1) := by decide +kernel
theorem dX5_locks_18 : decode cX5_locks 18 = .ok (.if_icmp .eq 33, 3) := by decide +kernel
theorem dX5_locks_21 : decode cX5_locks 21 = .ok (.aload_n 0, 1) := by decide +kernel
theorem dX5_locks_22 : decode cX5_locks 22 = .ok (.iload 4, 2) := by decide +kernel
theorem dX5_locks_24 : decode cX5_locks 24 = .ok (.iload_n 1, 1) := by decide +kernel
theorem dX5_locks_25 : decode cX5_locks 25 = .ok (.invokevirtual 58, 3) := by decide +kernel
theorem dX5_locks_28 : decode cX5_locks 28 = .ok (.aload_n 0, 1) := by decide +kernel
theorem dX5_locks_29 : decode cX5_locks 29 = .ok (.getfield 7, 3) := by decide +kernel
theorem dX5_locks_32 : decode cX5_locks 32 = .ok (.iconst 2, 1) := by decide +kernel
theorem dX5_locks_33 : decode cX5_locks 33 = .ok (.iaload, 1) := by decide +kernel
theorem dX5_locks_34 : decode cX5_locks 34 = .ok (.if_icmp .ge 17, 3) := by decide +kernel
theorem dX5_locks_37 : decode cX5_locks 37 = .ok (.aload_n 0, 1) := by decide +kernel
theorem dX5_locks_38 : decode cX5_locks 38 = .ok (.iload 4, 2) := by decide +kernel
theorem dX5_locks_40 : decode cX5_locks 40 = .ok (.iload_n 2, 1) := by decide +kernel
theorem dX5_locks_41 : decode cX5_locks 41 = .ok (.invokevirtual 62, 3) := by decide +kernel
theorem dX5_locks_44 : decode cX5_locks 44 = .ok (.ifCond .eq 7, 3) := by decide +kernel
theorem dX5_locks_47 : decode cX5_locks 47 = .ok (.iconst 1, 1) := by decide +kernel
theorem dX5_locks_48 : decode cX5_locks 48 = .ok (.goto 4, 3) := by decide +kernel
theorem dX5_locks_51 : decode cX5_locks 51 = .ok (.iconst 0, 1) := by decide +kernel
theorem dX5_locks_52 : decode cX5_locks 52 = .ok (.iadd, 1) := by decide +kernel
theorem dX5_locks_53 : decode cX5_locks 53 = .ok (.istore_n 3, 1) := by decide +kernel
theorem dX5_locks_54 : decode cX5_locks 54 = .ok (.iinc 4 1, 3) := by decide +kernel
theorem dX5_locks_57 : decode cX5_locks 57 = .ok (.goto (-52), 3) := by decide +kernel
theorem dX5_locks_60 : decode cX5_locks 60 = .ok (.iload_n 3, 1) := by decide +kernel
theorem dX5_locks_61 : decode cX5_locks 61 = .ok (.ireturn, 1) := by decide +kernel
theorem dX5_available_0 : decode cX5_available 0 = .ok (.aload_n 0, 1) := by decide +kernel
theorem dX5_available_1 : decode cX5_available 1 = .ok (.iload_n 1, 1) := by decide +kernel
theorem dX5_available_2 : decode cX5_available 2 = .ok (.iload_n 2, 1) := by decide +kernel
theorem dX5_available_3 : decode cX5_available 3 = .ok (.invokevirtual 62, 3) := by decide +kernel
theorem dX5_available_6 : decode cX5_available 6 = .ok (.ifCond .ne 16, 3) := by decide +kernel
theorem dX5_available_9 : decode cX5_available 9 = .ok (.aload_n 0, 1) := by decide +kernel
theorem dX5_available_10 : decode cX5_available 10 = .ok (.iload_n 1, 1) := by decide +kernel
theorem dX5_available_11 : decode cX5_available 11 = .ok (.iload_n 2, 1) := by decide +kernel
theorem dX5_available_12 : decode cX5_available 12 = .ok (.invokevirtual 66, 3) := by decide +kernel
theorem dX5_available_15 : decode cX5_available 15 = .ok (.ifCond .ne 7, 3) := by decide +kernel
theorem dX5_available_18 : decode cX5_available 18 = .ok (.iconst 1, 1) := by decide +kernel
theorem dX5_available_19 : decode cX5_available 19 = .ok (.goto 4, 3) := by decide +kernel
theorem dX5_available_22 : decode cX5_available 22 = .ok (.iconst 0, 1) := by decide +kernel
theorem dX5_available_23 : decode cX5_available 23 = .ok (.ireturn, 1) := by decide +kernel
theorem dX5_burdenOf_0 : decode cX5_burdenOf 0 = .ok (.iconst 0, 1) := by decide +kernel
theorem dX5_burdenOf_1 : decode cX5_burdenOf 1 = .ok (.istore_n 3, 1) := by decide +kernel
theorem dX5_burdenOf_2 : decode cX5_burdenOf 2 = .ok (.iconst 0, 1) := by decide +kernel
theorem dX5_burdenOf_3 : decode cX5_burdenOf 3 = .ok (.istore 4, 2) := by decide +kernel
theorem dX5_burdenOf_5 : decode cX5_burdenOf 5 = .ok (.iload 4, 2) := by decide +kernel
theorem dX5_burdenOf_7 : decode cX5_burdenOf 7 = .ok (.aload_n 0, 1) := by decide +kernel
theorem dX5_burdenOf_8 : decode cX5_burdenOf 8 = .ok (.invokevirtual 42, 3) := by decide +kernel
theorem dX5_burdenOf_11 : decode cX5_burdenOf 11 = .ok (.if_icmp .ge 49, 3) := by decide +kernel
theorem dX5_burdenOf_14 : decode cX5_burdenOf 14 = .ok (.iload_n 3, 1) := by decide +kernel
theorem dX5_burdenOf_15 : decode cX5_burdenOf 15 = .ok (.iload 4, 2) := by decide +kernel
theorem dX5_burdenOf_17 : decode cX5_burdenOf 17 = .ok (.iload_n 1, 1) := by decide +kernel
theorem dX5_burdenOf_18 : decode cX5_burdenOf 18 = .ok (.if_icmp .eq 33, 3) := by decide +kernel
theorem dX5_burdenOf_21 : decode cX5_burdenOf 21 = .ok (.aload_n 0, 1) := by decide +kernel
theorem dX5_burdenOf_22 : decode cX5_burdenOf 22 = .ok (.iload 4, 2) := by decide +kernel
theorem dX5_burdenOf_24 : decode cX5_burdenOf 24 = .ok (.iload_n 1, 1) := by decide +kernel
theorem dX5_burdenOf_25 : decode cX5_burdenOf 25 = .ok (.invokevirtual 58, 3) := by decide +kernel
theorem dX5_burdenOf_28 : decode cX5_burdenOf 28 = .ok (.aload_n 0, 1) := by decide +kernel
theorem dX5_burdenOf_29 : decode cX5_burdenOf 29 = .ok (.getfield 7, 3) := by decide +kernel
theorem dX5_burdenOf_32 : decode cX5_burdenOf 32 = .ok (.iconst 2, 1) := by decide +kernel
theorem dX5_burdenOf_33 : decode cX5_burdenOf 33 = .ok (.iaload, 1) := by decide +kernel
theorem dX5_burdenOf_34 : decode cX5_burdenOf 34 = .ok (.if_icmp .ge 17, 3) := by decide +kernel
theorem dX5_burdenOf_37 : decode cX5_burdenOf 37 = .ok (.aload_n 0, 1) := by decide +kernel
theorem dX5_burdenOf_38 : decode cX5_burdenOf 38 = .ok (.iload 4, 2) := by decide +kernel
theorem dX5_burdenOf_40 : decode cX5_burdenOf 40 = .ok (.iload_n 2, 1) := by decide +kernel
theorem dX5_burdenOf_41 : decode cX5_burdenOf 41 = .ok (.invokevirtual 69, 3) := by decide +kernel
theorem dX5_burdenOf_44 : decode cX5_burdenOf 44 = .ok (.ifCond .eq 7, 3) := by decide +kernel
theorem dX5_burdenOf_47 : decode cX5_burdenOf 47 = .ok (.iconst 1, 1) := by decide +kernel
theorem dX5_burdenOf_48 : decode cX5_burdenOf 48 = .ok (.goto 4, 3) := by decide +kernel
theorem dX5_burdenOf_51 : decode cX5_burdenOf 51 = .ok (.iconst 0, 1) := by decide +kernel
theorem dX5_burdenOf_52 : decode cX5_burdenOf 52 = .ok (.iadd, 1) := by decide +kernel
theorem dX5_burdenOf_53 : decode cX5_burdenOf 53 = .ok (.istore_n 3, 1) := by decide +kernel
theorem dX5_burdenOf_54 : decode cX5_burdenOf 54 = .ok (.iinc 4 1, 3) := by decide +kernel
theorem dX5_burdenOf_57 : decode cX5_burdenOf 57 = .ok (.goto (-52), 3) := by decide +kernel
theorem dX5_burdenOf_60 : decode cX5_burdenOf 60 = .ok (.iload_n 3, 1) := by decide +kernel
theorem dX5_burdenOf_61 : decode cX5_burdenOf 61 = .ok (.ireturn, 1) := by decide +kernel
theorem dX5_availables_0 : decode cX5_availables 0 = .ok (.iconst 0, 1) := by decide +kernel
theorem dX5_availables_1 : decode cX5_availables 1 = .ok (.istore_n 2, 1) := by decide +kernel
theorem dX5_availables_2 : decode cX5_availables 2 = .ok (.iconst 0, 1) := by decide +kernel
theorem dX5_availables_3 : decode cX5_availables 3 = .ok (.istore_n 3, 1) := by decide +kernel
theorem dX5_availables_4 : decode cX5_availables 4 = .ok (.iload_n 3, 1) := by decide +kernel
theorem dX5_availables_5 : decode cX5_availables 5 = .ok (.aload_n 0, 1) := by decide +kernel
theorem dX5_availables_6 : decode cX5_availables 6 = .ok (.invokevirtual 48, 3) := by decide +kernel
theorem dX5_availables_9 : decode cX5_availables 9 = .ok (.if_icmp .ge 35, 3) := by decide +kernel
theorem dX5_availables_12 : decode cX5_availables 12 = .ok (.iload_n 2, 1) := by decide +kernel
theorem dX5_availables_13 : decode cX5_availables 13 = .ok (.aload_n 0, 1) := by decide +kernel
theorem dX5_availables_14 : decode cX5_availables 14 = .ok (.iload_n 1, 1) := by decide +kernel
theorem dX5_availables_15 : decode cX5_availables 15 = .ok (.iload_n 3, 1) := by decide +kernel
theorem dX5_availables_16 : decode cX5_availables 16 = .ok (.invokevirtual 69, 3) := by decide +kernel
theorem dX5_availables_19 : decode cX5_availables 19 = .ok (.ifCond .eq 16, 3) := by decide +kernel
theorem dX5_availables_22 : decode cX5_availables 22 = .ok (.aload_n 0, 1) := by decide +kernel
theorem dX5_availables_23 : decode cX5_availables 23 = .ok (.iload_n 1, 1) := by decide +kernel
theorem dX5_availables_24 : decode cX5_availables 24 = .ok (.iload_n 3, 1) := by decide +kernel
theorem dX5_availables_25 : decode cX5_availables 25 = .ok (.invokevirtual 72, 3) := by decide +kernel
theorem dX5_availables_28 : decode cX5_availables 28 = .ok (.ifCond .eq 7, 3) := by decide +kernel
theorem dX5_availables_31 : decode cX5_availables 31 = .ok (.iconst 1, 1) := by decide +kernel
theorem dX5_availables_32 : decode cX5_availables 32 = .ok (.goto 4, 3) := by decide +kernel
theorem dX5_availables_35 : decode cX5_availables 35 = .ok (.iconst 0, 1) := by decide +kernel
theorem dX5_availables_36 : decode cX5_availables 36 = .ok (.iadd, 1) := by decide +kernel
theorem dX5_availables_37 : decode cX5_availables 37 = .ok (.istore_n 2, 1) := by decide +kernel
theorem dX5_availables_38 : decode cX5_availables 38 = .ok (.iinc 3 1, 3) := by decide +kernel
theorem dX5_availables_41 : decode cX5_availables 41 = .ok (.goto (-37), 3) := by decide +kernel
theorem dX5_availables_44 : decode cX5_availables 44 = .ok (.iload_n 2, 1) := by decide +kernel
theorem dX5_availables_45 : decode cX5_availables 45 = .ok (.ireturn, 1) := by decide +kernel
theorem dX5_nominal_0 : decode cX5_nominal 0 = .ok (.iconst 0, 1) := by decide +kernel
theorem dX5_nominal_1 : decode cX5_nominal 1 = .ok (.istore_n 2, 1) := by decide +kernel
theorem dX5_nominal_2 : decode cX5_nominal 2 = .ok (.iload_n 2, 1) := by decide +kernel
theorem dX5_nominal_3 : decode cX5_nominal 3 = .ok (.aload_n 0, 1) := by decide +kernel
theorem dX5_nominal_4 : decode cX5_nominal 4 = .ok (.invokevirtual 48, 3) := by decide +kernel
theorem dX5_nominal_7 : decode cX5_nominal 7 = .ok (.if_icmp .ge 29, 3) := by decide +kernel
theorem dX5_nominal_10 : decode cX5_nominal 10 = .ok (.aload_n 0, 1) := by decide +kernel
theorem dX5_nominal_11 : decode cX5_nominal 11 = .ok (.iload_n 1, 1) := by decide +kernel
theorem dX5_nominal_12 : decode cX5_nominal 12 = .ok (.iload_n 2, 1) := by decide +kernel
theorem dX5_nominal_13 : decode cX5_nominal 13 = .ok (.invokevirtual 69, 3) := by decide +kernel
theorem dX5_nominal_16 : decode cX5_nominal 16 = .ok (.ifCond .eq 14, 3) := by decide +kernel
theorem dX5_nominal_19 : decode cX5_nominal 19 = .ok (.aload_n 0, 1) := by decide +kernel
theorem dX5_nominal_20 : decode cX5_nominal 20 = .ok (.iload_n 1, 1) := by decide +kernel
theorem dX5_nominal_21 : decode cX5_nominal 21 = .ok (.iload_n 2, 1) := by decide +kernel
theorem dX5_nominal_22 : decode cX5_nominal 22 = .ok (.invokevirtual 72, 3) := by decide +kernel
theorem dX5_nominal_25 : decode cX5_nominal 25 = .ok (.ifCond .eq 5, 3) := by decide +kernel
theorem dX5_nominal_28 : decode cX5_nominal 28 = .ok (.iload_n 2, 1) := by decide +kernel
theorem dX5_nominal_29 : decode cX5_nominal 29 = .ok (.ireturn, 1) := by decide +kernel
theorem dX5_nominal_30 : decode cX5_nominal 30 = .ok (.iinc 2 1, 3) := by decide +kernel
theorem dX5_nominal_33 : decode cX5_nominal 33 = .ok (.goto (-31), 3) := by decide +kernel
theorem dX5_nominal_36 : decode cX5_nominal 36 = .ok (.bipush (-9), 2) := by decide +kernel
theorem dX5_nominal_38 : decode cX5_nominal 38 = .ok (.ireturn, 1) := by decide +kernel
theorem dX5_choose_0 : decode cX5_choose 0 = .ok (.aload_n 0, 1) := by decide +kernel
theorem dX5_choose_1 : decode cX5_choose 1 = .ok (.bipush (-9), 2) := by decide +kernel
theorem dX5_choose_3 : decode cX5_choose 3 = .ok (.putfield 75, 3) := by decide +kernel
theorem dX5_choose_6 : decode cX5_choose 6 = .ok (.aload_n 0, 1) := by decide +kernel
theorem dX5_choose_7 : decode cX5_choose 7 = .ok (.iload_n 1, 1) := by decide +kernel
theorem dX5_choose_8 : decode cX5_choose 8 = .ok (.invokevirtual 78, 3) := by decide +kernel
theorem dX5_choose_11 : decode cX5_choose 11 = .ok (.istore_n 2, 1) := by decide +kernel
theorem dX5_choose_12 : decode cX5_choose 12 = .ok (.iload_n 2, 1) := by decide +kernel
theorem dX5_choose_13 : decode cX5_choose 13 = .ok (.bipush (-9), 2) := by decide +kernel
theorem dX5_choose_15 : decode cX5_choose 15 = .ok (.if_icmp .eq 5, 3) := by decide +kernel
theorem dX5_choose_18 : decode cX5_choose 18 = .ok (.iload_n 2, 1) := by decide +kernel
theorem dX5_choose_19 : decode cX5_choose 19 = .ok (.ireturn, 1) := by decide +kernel
theorem dX5_choose_20 : decode cX5_choose 20 = .ok (.iconst 0, 1) := by decide +kernel
theorem dX5_choose_21 : decode cX5_choose 21 = .ok (.istore_n 3, 1) := by decide +kernel
theorem dX5_choose_22 : decode cX5_choose 22 = .ok (.iload_n 3, 1) := by decide +kernel
theorem dX5_choose_23 : decode cX5_choose 23 = .ok (.aload_n 0, 1) := by decide +kernel
theorem dX5_choose_24 : decode cX5_choose 24 = .ok (.invokevirtual 48, 3) := by decide +kernel
theorem dX5_choose_27 : decode cX5_choose 27 = .ok (.if_icmp .ge 21, 3) := by decide +kernel
theorem dX5_choose_30 : decode cX5_choose 30 = .ok (.aload_n 0, 1) := by decide +kernel
theorem dX5_choose_31 : decode cX5_choose 31 = .ok (.getfield 27, 3) := by decide +kernel
theorem dX5_choose_34 : decode cX5_choose 34 = .ok (.iload_n 3, 1) := by decide +kernel
theorem dX5_choose_35 : decode cX5_choose 35 = .ok (.aload_n 0, 1) := by decide +kernel
theorem dX5_choose_36 : decode cX5_choose 36 = .ok (.iload_n 1, 1) := by decide +kernel
theorem dX5_choose_37 : decode cX5_choose 37 = .ok (.iload_n 3, 1) := by decide +kernel
theorem dX5_choose_38 : decode cX5_choose 38 = .ok (.invokevirtual 72, 3) := by decide +kernel
theorem dX5_choose_41 : decode cX5_choose 41 = .ok (.bastore, 1) := by decide +kernel
theorem dX5_choose_42 : decode cX5_choose 42 = .ok (.iinc 3 1, 3) := by decide +kernel
theorem dX5_choose_45 : decode cX5_choose 45 = .ok (.goto (-23), 3) := by decide +kernel
theorem dX5_choose_48 : decode cX5_choose 48 = .ok (.iconst 0, 1) := by decide +kernel
theorem dX5_choose_49 : decode cX5_choose 49 = .ok (.istore_n 3, 1) := by decide +kernel
theorem dX5_choose_50 : decode cX5_choose 50 = .ok (.iconst 0, 1) := by decide +kernel
theorem dX5_choose_51 : decode cX5_choose 51 = .ok (.istore 4, 2) := by decide +kernel
theorem dX5_choose_53 : decode cX5_choose 53 = .ok (.iload 4, 2) := by decide +kernel
theorem dX5_choose_55 : decode cX5_choose 55 = .ok (.aload_n 0, 1) := by decide +kernel
theorem dX5_choose_56 : decode cX5_choose 56 = .ok (.invokevirtual 42, 3) := by decide +kernel
theorem dX5_choose_59 : decode cX5_choose 59 = .ok (.if_icmp .ge 182, 3) := by decide +kernel
theorem dX5_choose_62 : decode cX5_choose 62 = .ok (.aload_n 0, 1) := by decide +kernel
theorem dX5_choose_63 : decode cX5_choose 63 = .ok (.iload 4, 2) := by decide +kernel
theorem dX5_choose_65 : decode cX5_choose 65 = .ok (.iload_n 1, 1) := by decide +kernel
theorem dX5_choose_66 : decode cX5_choose 66 = .ok (.invokevirtual 58, 3) := by decide +kernel
theorem dX5_choose_69 : decode cX5_choose 69 = .ok (.iconst 1, 1) := by decide +kernel
theorem dX5_choose_70 : decode cX5_choose 70 = .ok (.if_icmp .ne 12, 3) := by decide +kernel
theorem dX5_choose_73 : decode cX5_choose 73 = .ok (.aload_n 0, 1) := by decide +kernel
theorem dX5_choose_74 : decode cX5_choose 74 = .ok (.iload 4, 2) := by decide +kernel
theorem dX5_choose_76 : decode cX5_choose 76 = .ok (.invokevirtual 81, 3) := by decide +kernel
theorem dX5_choose_79 : decode cX5_choose 79 = .ok (.goto 4, 3) := by decide +kernel
theorem dX5_choose_82 : decode cX5_choose 82 = .ok (.iconst 0, 1) := by decide +kernel
theorem dX5_choose_83 : decode cX5_choose 83 = .ok (.istore 5, 2) := by decide +kernel
theorem dX5_choose_85 : decode cX5_choose 85 = .ok (.aload_n 0, 1) := by decide +kernel
theorem dX5_choose_86 : decode cX5_choose 86 = .ok (.invokevirtual 48, 3) := by decide +kernel
theorem dX5_choose_89 : decode cX5_choose 89 = .ok (.iconst 1, 1) := by decide +kernel
theorem dX5_choose_90 : decode cX5_choose 90 = .ok (.isub, 1) := by decide +kernel
theorem dX5_choose_91 : decode cX5_choose 91 = .ok (.istore 6, 2) := by decide +kernel
theorem dX5_choose_93 : decode cX5_choose 93 = .ok (.iload 6, 2) := by decide +kernel
theorem dX5_choose_95 : decode cX5_choose 95 = .ok (.ifCond .lt 140, 3) := by decide +kernel
theorem dX5_choose_98 : decode cX5_choose 98 = .ok (.iload 5, 2) := by decide +kernel
theorem dX5_choose_100 : decode cX5_choose 100 = .ok (.aload_n 0, 1) := by decide +kernel
theorem dX5_choose_101 : decode cX5_choose 101 = .ok (.getfield 7, 3) := by decide +kernel
theorem dX5_choose_104 : decode cX5_choose 104 = .ok (.iconst 5, 1) := by decide +kernel
theorem dX5_choose_105 : decode cX5_choose 105 = .ok (.iaload, 1) := by decide +kernel
theorem dX5_choose_106 : decode cX5_choose 106 = .ok (.if_icmp .le 129, 3) := by decide +kernel
theorem dX5_choose_109 : decode cX5_choose 109 = .ok (.aload_n 0, 1) := by decide +kernel
theorem dX5_choose_110 : decode cX5_choose 110 = .ok (.getfield 27, 3) := by decide +kernel
theorem dX5_choose_113 : decode cX5_choose 113 = .ok (.iload 6, 2) := by decide +kernel
theorem dX5_choose_115 : decode cX5_choose 115 = .ok (.baload, 1) := by decide +kernel
theorem dX5_choose_116 : decode cX5_choose 116 = .ok (.ifCond .eq 113, 3) := by decide +kernel
theorem dX5_choose_119 : decode cX5_choose 119 = .ok (.aload_n 0, 1) := by decide +kernel
theorem dX5_choose_120 : decode cX5_choose 120 = .ok (.iload 4, 2) := by decide +kernel
theorem dX5_choose_122 : decode cX5_choose 122 = .ok (.iload 6, 2) := by decide +kernel
theorem dX5_choose_124 : decode cX5_choose 124 = .ok (.invokevirtual 69, 3) := by decide +kernel
theorem dX5_choose_127 : decode cX5_choose 127 = .ok (.ifCond .eq 102, 3) := by decide +kernel
theorem dX5_choose_130 : decode cX5_choose 130 = .ok (.aload_n 0, 1) := by decide +kernel
theorem dX5_choose_131 : decode cX5_choose 131 = .ok (.getfield 7, 3) := by decide +kernel
theorem dX5_choose_134 : decode cX5_choose 134 = .ok (.iconst 4, 1) := by decide +kernel
theorem dX5_choose_135 : decode cX5_choose 135 = .ok (.iaload, 1) := by decide +kernel
theorem dX5_choose_136 : decode cX5_choose 136 = .ok (.ifCond .ne 9, 3) := by decide +kernel
theorem dX5_choose_139 : decode cX5_choose 139 = .ok (.iload 5, 2) := by decide +kernel
theorem dX5_choose_141 : decode cX5_choose 141 = .ok (.ineg, 1) := by decide +kernel
theorem dX5_choose_142 : decode cX5_choose 142 = .ok (.goto 24, 3) := by decide +kernel
theorem dX5_choose_145 : decode cX5_choose 145 = .ok (.aload_n 0, 1) := by decide +kernel
theorem dX5_choose_146 : decode cX5_choose 146 = .ok (.getfield 7, 3) := by decide +kernel
theorem dX5_choose_149 : decode cX5_choose 149 = .ok (.iconst 4, 1) := by decide +kernel
theorem dX5_choose_150 : decode cX5_choose 150 = .ok (.iaload, 1) := by decide +kernel
theorem dX5_choose_151 : decode cX5_choose 151 = .ok (.iconst 2, 1) := by decide +kernel
theorem dX5_choose_152 : decode cX5_choose 152 = .ok (.if_icmp .ne 13, 3) := by decide +kernel
theorem dX5_choose_155 : decode cX5_choose 155 = .ok (.aload_n 0, 1) := by decide +kernel
theorem dX5_choose_156 : decode cX5_choose 156 = .ok (.iload_n 1, 1) := by decide +kernel
theorem dX5_choose_157 : decode cX5_choose 157 = .ok (.iload 6, 2) := by decide +kernel
theorem dX5_choose_159 : decode cX5_choose 159 = .ok (.invokevirtual 84, 3) := by decide +kernel
theorem dX5_choose_162 : decode cX5_choose 162 = .ok (.goto 4, 3) := by decide +kernel
theorem dX5_choose_165 : decode cX5_choose 165 = .ok (.iconst 0, 1) := by decide +kernel
theorem dX5_choose_166 : decode cX5_choose 166 = .ok (.istore 7, 2) := by decide +kernel
theorem dX5_choose_168 : decode cX5_choose 168 = .ok (.iload_n 2, 1) := by decide +kernel
theorem dX5_choose_169 : decode cX5_choose 169 = .ok (.bipush (-9), 2) := by decide +kernel
theorem dX5_choose_171 : decode cX5_choose 171 = .ok (.if_icmp .eq 9, 3) := by decide +kernel
theorem dX5_choose_174 : decode cX5_choose 174 = .ok (.iload 7, 2) := by decide +kernel
theorem dX5_choose_176 : decode cX5_choose 176 = .ok (.iload_n 3, 1) := by decide +kernel
theorem dX5_choose_177 : decode cX5_choose 177 = .ok (.if_icmp .ge 7, 3) := by decide +kernel
theorem dX5_choose_180 : decode cX5_choose 180 = .ok (.iconst 1, 1) := by decide +kernel
theorem dX5_choose_181 : decode cX5_choose 181 = .ok (.goto 4, 3) := by decide +kernel
theorem dX5_choose_184 : decode cX5_choose 184 = .ok (.iconst 0, 1) := by decide +kernel
theorem dX5_choose_185 : decode cX5_choose 185 = .ok (.istore 8, 2) := by decide +kernel
theorem dX5_choose_187 : decode cX5_choose 187 = .ok (.iload 8, 2) := by decide +kernel
theorem dX5_choose_189 : decode cX5_choose 189 = .ok (.ifCond .eq 8, 3) := by decide +kernel
theorem dX5_choose_192 : decode cX5_choose 192 = .ok (.iload 6, 2) := by decide +kernel
theorem dX5_choose_194 : decode cX5_choose 194 = .ok (.goto 4, 3) := by decide +kernel
theorem dX5_choose_197 : decode cX5_choose 197 = .ok (.iload_n 2, 1) := by decide +kernel
theorem dX5_choose_198 : decode cX5_choose 198 = .ok (.istore_n 2, 1) := by decide +kernel
theorem dX5_choose_199 : decode cX5_choose 199 = .ok (.aload_n 0, 1) := by decide +kernel
theorem dX5_choose_200 : decode cX5_choose 200 = .ok (.iload 8, 2) := by decide +kernel
theorem dX5_choose_202 : decode cX5_choose 202 = .ok (.ifCond .eq 8, 3) := by decide +kernel
theorem dX5_choose_205 : decode cX5_choose 205 = .ok (.iload 4, 2) := by decide +kernel
theorem dX5_choose_207 : decode cX5_choose 207 = .ok (.goto 7, 3) := by decide +kernel
theorem dX5_choose_210 : decode cX5_choose 210 = .ok (.aload_n 0, 1) := by decide +kernel
theorem dX5_choose_211 : decode cX5_choose 211 = .ok (.getfield 75, 3) := by decide +kernel
theorem dX5_choose_214 : decode cX5_choose 214 = .ok (.putfield 75, 3) := by decide +kernel
theorem dX5_choose_217 : decode cX5_choose 217 = .ok (.iload 8, 2) := by decide +kernel
theorem dX5_choose_219 : decode cX5_choose 219 = .ok (.ifCond .eq 8, 3) := by decide +kernel
theorem dX5_choose_222 : decode cX5_choose 222 = .ok (.iload 7, 2) := by decide +kernel
theorem dX5_choose_224 : decode cX5_choose 224 = .ok (.goto 4, 3) := by decide +kernel
theorem dX5_choose_227 : decode cX5_choose 227 = .ok (.iload_n 3, 1) := by decide +kernel
theorem dX5_choose_228 : decode cX5_choose 228 = .ok (.istore_n 3, 1) := by decide +kernel
theorem dX5_choose_229 : decode cX5_choose 229 = .ok (.iinc 6 (-1), 3) := by decide +kernel
theorem dX5_choose_232 : decode cX5_choose 232 = .ok (.goto (-139), 3) := by decide +kernel
theorem dX5_choose_235 : decode cX5_choose 235 = .ok (.iinc 4 1, 3) := by decide +kernel
theorem dX5_choose_238 : decode cX5_choose 238 = .ok (.goto (-185), 3) := by decide +kernel
theorem dX5_choose_241 : decode cX5_choose 241 = .ok (.iload_n 2, 1) := by decide +kernel
theorem dX5_choose_242 : decode cX5_choose 242 = .ok (.ireturn, 1) := by decide +kernel
theorem dX5_isCall_0 : decode cX5_isCall 0 = .ok (.iload_n 1, 1) := by decide +kernel
theorem dX5_isCall_1 : decode cX5_isCall 1 = .ok (.iconst 0, 1) := by decide +kernel
theorem dX5_isCall_2 : decode cX5_isCall 2 = .ok (.bipush 59, 2) := by decide +kernel
theorem dX5_isCall_4 : decode cX5_isCall 4 = .ok (.invokestatic 34, 3) := by decide +kernel
theorem dX5_isCall_7 : decode cX5_isCall 7 = .ok (.ifCond .eq 19, 3) := by decide +kernel
theorem dX5_isCall_10 : decode cX5_isCall 10 = .ok (.aload_n 0, 1) := by decide +kernel
theorem dX5_isCall_11 : decode cX5_isCall 11 = .ok (.getfield 7, 3) := by decide +kernel
theorem dX5_isCall_14 : decode cX5_isCall 14 = .ok (.bipush 14, 2) := by decide +kernel
theorem dX5_isCall_16 : decode cX5_isCall 16 = .ok (.iload_n 1, 1) := by decide +kernel
theorem dX5_isCall_17 : decode cX5_isCall 17 = .ok (.iadd, 1) := by decide +kernel
theorem dX5_isCall_18 : decode cX5_isCall 18 = .ok (.iaload, 1) := by decide +kernel
theorem dX5_isCall_19 : decode cX5_isCall 19 = .ok (.ifCond .le 7, 3) := by decide +kernel
theorem dX5_isCall_22 : decode cX5_isCall 22 = .ok (.iconst 1, 1) := by decide +kernel
theorem dX5_isCall_23 : decode cX5_isCall 23 = .ok (.goto 4, 3) := by decide +kernel
theorem dX5_isCall_26 : decode cX5_isCall 26 = .ok (.iconst 0, 1) := by decide +kernel
theorem dX5_isCall_27 : decode cX5_isCall 27 = .ok (.ireturn, 1) := by decide +kernel
theorem dX5_calls_0 : decode cX5_calls 0 = .ok (.iconst 0, 1) := by decide +kernel
theorem dX5_calls_1 : decode cX5_calls 1 = .ok (.istore_n 1, 1) := by decide +kernel
theorem dX5_calls_2 : decode cX5_calls 2 = .ok (.iconst 0, 1) := by decide +kernel
theorem dX5_calls_3 : decode cX5_calls 3 = .ok (.istore_n 2, 1) := by decide +kernel
theorem dX5_calls_4 : decode cX5_calls 4 = .ok (.iload_n 2, 1) := by decide +kernel
theorem dX5_calls_5 : decode cX5_calls 5 = .ok (.bipush 60, 2) := by decide +kernel
theorem dX5_calls_7 : decode cX5_calls 7 = .ok (.if_icmp .ge 29, 3) := by decide +kernel
theorem dX5_calls_10 : decode cX5_calls 10 = .ok (.iload_n 1, 1) := by decide +kernel
theorem dX5_calls_11 : decode cX5_calls 11 = .ok (.aload_n 0, 1) := by decide +kernel
theorem dX5_calls_12 : decode cX5_calls 12 = .ok (.getfield 7, 3) := by decide +kernel
theorem dX5_calls_15 : decode cX5_calls 15 = .ok (.bipush 14, 2) := by decide +kernel
theorem dX5_calls_17 : decode cX5_calls 17 = .ok (.iload_n 2, 1) := by decide +kernel
theorem dX5_calls_18 : decode cX5_calls 18 = .ok (.iadd, 1) := by decide +kernel
theorem dX5_calls_19 : decode cX5_calls 19 = .ok (.iaload, 1) := by decide +kernel
theorem dX5_calls_20 : decode cX5_calls 20 = .ok (.ifCond .le 7, 3) := by decide +kernel
theorem dX5_calls_23 : decode cX5_calls 23 = .ok (.iconst 1, 1) := by decide +kernel
theorem dX5_calls_24 : decode cX5_calls 24 = .ok (.goto 4, 3) := by decide +kernel
theorem dX5_calls_27 : decode cX5_calls 27 = .ok (.iconst 0, 1) := by decide +kernel
theorem dX5_calls_28 : decode cX5_calls 28 = .ok (.iadd, 1) := by decide +kernel
theorem dX5_calls_29 : decode cX5_calls 29 = .ok (.istore_n 1, 1) := by decide +kernel
theorem dX5_calls_30 : decode cX5_calls 30 = .ok (.iinc 2 1, 3) := by decide +kernel
theorem dX5_calls_33 : decode cX5_calls 33 = .ok (.goto (-29), 3) := by decide +kernel
theorem dX5_calls_36 : decode cX5_calls 36 = .ok (.iload_n 1, 1) := by decide +kernel
theorem dX5_calls_37 : decode cX5_calls 37 = .ok (.ireturn, 1) := by decide +kernel
theorem dX5_borrowed_0 : decode cX5_borrowed 0 = .ok (.aload_n 0, 1) := by decide +kernel
theorem dX5_borrowed_1 : decode cX5_borrowed 1 = .ok (.getfield 7, 3) := by decide +kernel
theorem dX5_borrowed_4 : decode cX5_borrowed 4 = .ok (.bipush 74, 2) := by decide +kernel
theorem dX5_borrowed_6 : decode cX5_borrowed 6 = .ok (.iload_n 1, 1) := by decide +kernel
theorem dX5_borrowed_7 : decode cX5_borrowed 7 = .ok (.iadd, 1) := by decide +kernel
theorem dX5_borrowed_8 : decode cX5_borrowed 8 = .ok (.iaload, 1) := by decide +kernel
theorem dX5_borrowed_9 : decode cX5_borrowed 9 = .ok (.ifCond .le 36, 3) := by decide +kernel
theorem dX5_borrowed_12 : decode cX5_borrowed 12 = .ok (.aload_n 0, 1) := by decide +kernel
theorem dX5_borrowed_13 : decode cX5_borrowed 13 = .ok (.aload_n 0, 1) := by decide +kernel
theorem dX5_borrowed_14 : decode cX5_borrowed 14 = .ok (.getfield 7, 3) := by decide +kernel
theorem dX5_borrowed_17 : decode cX5_borrowed 17 = .ok (.bipush 14, 2) := by decide +kernel
theorem dX5_borrowed_19 : decode cX5_borrowed 19 = .ok (.iload_n 1, 1) := by decide +kernel
theorem dX5_borrowed_20 : decode cX5_borrowed 20 = .ok (.iadd, 1) := by decide +kernel
theorem dX5_borrowed_21 : decode cX5_borrowed 21 = .ok (.iaload, 1) := by decide +kernel
theorem dX5_borrowed_22 : decode cX5_borrowed 22 = .ok (.iconst 1, 1) := by decide +kernel
theorem dX5_borrowed_23 : decode cX5_borrowed 23 = .ok (.isub, 1) := by decide +kernel
theorem dX5_borrowed_24 : decode cX5_borrowed 24 = .ok (.aload_n 0, 1) := by decide +kernel
theorem dX5_borrowed_25 : decode cX5_borrowed 25 = .ok (.getfield 7, 3) := by decide +kernel
theorem dX5_borrowed_28 : decode cX5_borrowed 28 = .ok (.bipush 74, 2) := by decide +kernel
theorem dX5_borrowed_30 : decode cX5_borrowed 30 = .ok (.iload_n 1, 1) := by decide +kernel
theorem dX5_borrowed_31 : decode cX5_borrowed 31 = .ok (.iadd, 1) := by decide +kernel
theorem dX5_borrowed_32 : decode cX5_borrowed 32 = .ok (.iaload, 1) := by decide +kernel
theorem dX5_borrowed_33 : decode cX5_borrowed 33 = .ok (.iconst 1, 1) := by decide +kernel
theorem dX5_borrowed_34 : decode cX5_borrowed 34 = .ok (.isub, 1) := by decide +kernel
theorem dX5_borrowed_35 : decode cX5_borrowed 35 = .ok (.invokevirtual 69, 3) := by decide +kernel
theorem dX5_borrowed_38 : decode cX5_borrowed 38 = .ok (.ifCond .ne 7, 3) := by decide +kernel
theorem dX5_borrowed_41 : decode cX5_borrowed 41 = .ok (.iconst 1, 1) := by decide +kernel
theorem dX5_borrowed_42 : decode cX5_borrowed 42 = .ok (.goto 4, 3) := by decide +kernel
theorem dX5_borrowed_45 : decode cX5_borrowed 45 = .ok (.iconst 0, 1) := by decide +kernel
theorem dX5_borrowed_46 : decode cX5_borrowed 46 = .ok (.ireturn, 1) := by decide +kernel
theorem dX5_fixedIn_0 : decode cX5_fixedIn 0 = .ok (.iconst 0, 1) := by decide +kernel
theorem dX5_fixedIn_1 : decode cX5_fixedIn 1 = .ok (.istore_n 2, 1) := by decide +kernel
theorem dX5_fixedIn_2 : decode cX5_fixedIn 2 = .ok (.iconst 0, 1) := by decide +kernel
theorem dX5_fixedIn_3 : decode cX5_fixedIn 3 = .ok (.istore_n 3, 1) := by decide +kernel
theorem dX5_fixedIn_4 : decode cX5_fixedIn 4 = .ok (.iload_n 3, 1) := by decide +kernel
theorem dX5_fixedIn_5 : decode cX5_fixedIn 5 = .ok (.bipush 60, 2) := by decide +kernel
theorem dX5_fixedIn_7 : decode cX5_fixedIn 7 = .ok (.if_icmp .ge 41, 3) := by decide +kernel
theorem dX5_fixedIn_10 : decode cX5_fixedIn 10 = .ok (.iload_n 2, 1) := by decide +kernel
theorem dX5_fixedIn_11 : decode cX5_fixedIn 11 = .ok (.aload_n 0, 1) := by decide +kernel
theorem dX5_fixedIn_12 : decode cX5_fixedIn 12 = .ok (.getfield 7, 3) := by decide +kernel
theorem dX5_fixedIn_15 : decode cX5_fixedIn 15 = .ok (.bipush 14, 2) := by decide +kernel
theorem dX5_fixedIn_17 : decode cX5_fixedIn 17 = .ok (.iload_n 3, 1) := by decide +kernel
theorem dX5_fixedIn_18 : decode cX5_fixedIn 18 = .ok (.iadd, 1) := by decide +kernel
theorem dX5_fixedIn_19 : decode cX5_fixedIn 19 = .ok (.iaload, 1) := by decide +kernel
theorem dX5_fixedIn_20 : decode cX5_fixedIn 20 = .ok (.iload_n 1, 1) := by decide +kernel
theorem dX5_fixedIn_21 : decode cX5_fixedIn 21 = .ok (.iconst 1, 1) := by decide +kernel
theorem dX5_fixedIn_22 : decode cX5_fixedIn 22 = .ok (.iadd, 1) := by decide +kernel
theorem dX5_fixedIn_23 : decode cX5_fixedIn 23 = .ok (.if_icmp .ne 16, 3) := by decide +kernel
theorem dX5_fixedIn_26 : decode cX5_fixedIn 26 = .ok (.aload_n 0, 1) := by decide +kernel
theorem dX5_fixedIn_27 : decode cX5_fixedIn 27 = .ok (.getfield 7, 3) := by decide +kernel
theorem dX5_fixedIn_30 : decode cX5_fixedIn 30 = .ok (.sipush 134, 3) := by decide +kernel
theorem dX5_fixedIn_33 : decode cX5_fixedIn 33 = .ok (.iload_n 3, 1) := by decide +kernel
theorem dX5_fixedIn_34 : decode cX5_fixedIn 34 = .ok (.iadd, 1) := by decide +kernel
theorem dX5_fixedIn_35 : decode cX5_fixedIn 35 = .ok (.iaload, 1) := by decide +kernel
theorem dX5_fixedIn_36 : decode cX5_fixedIn 36 = .ok (.goto 4, 3) := by decide +kernel
theorem dX5_fixedIn_39 : decode cX5_fixedIn 39 = .ok (.iconst 0, 1) := by decide +kernel
theorem dX5_fixedIn_40 : decode cX5_fixedIn 40 = .ok (.iadd, 1) := by decide +kernel
theorem dX5_fixedIn_41 : decode cX5_fixedIn 41 = .ok (.istore_n 2, 1) := by decide +kernel
theorem dX5_fixedIn_42 : decode cX5_fixedIn 42 = .ok (.iinc 3 1, 3) := by decide +kernel
theorem dX5_fixedIn_45 : decode cX5_fixedIn 45 = .ok (.goto (-41), 3) := by decide +kernel
theorem dX5_fixedIn_48 : decode cX5_fixedIn 48 = .ok (.iload_n 2, 1) := by decide +kernel
theorem dX5_fixedIn_49 : decode cX5_fixedIn 49 = .ok (.ireturn, 1) := by decide +kernel
theorem dX5_forget_0 : decode cX5_forget 0 = .ok (.aload_n 0, 1) := by decide +kernel
theorem dX5_forget_1 : decode cX5_forget 1 = .ok (.getfield 7, 3) := by decide +kernel
theorem dX5_forget_4 : decode cX5_forget 4 = .ok (.bipush 14, 2) := by decide +kernel
theorem dX5_forget_6 : decode cX5_forget 6 = .ok (.iload_n 1, 1) := by decide +kernel
theorem dX5_forget_7 : decode cX5_forget 7 = .ok (.iadd, 1) := by decide +kernel
theorem dX5_forget_8 : decode cX5_forget 8 = .ok (.iconst 0, 1) := by decide +kernel
theorem dX5_forget_9 : decode cX5_forget 9 = .ok (.iastore, 1) := by decide +kernel
theorem dX5_forget_10 : decode cX5_forget 10 = .ok (.aload_n 0, 1) := by decide +kernel
theorem dX5_forget_11 : decode cX5_forget 11 = .ok (.getfield 7, 3) := by decide +kernel
theorem dX5_forget_14 : decode cX5_forget 14 = .ok (.bipush 74, 2) := by decide +kernel
theorem dX5_forget_16 : decode cX5_forget 16 = .ok (.iload_n 1, 1) := by decide +kernel
theorem dX5_forget_17 : decode cX5_forget 17 = .ok (.iadd, 1) := by decide +kernel
theorem dX5_forget_18 : decode cX5_forget 18 = .ok (.iconst 0, 1) := by decide +kernel
theorem dX5_forget_19 : decode cX5_forget 19 = .ok (.iastore, 1) := by decide +kernel
theorem dX5_forget_20 : decode cX5_forget 20 = .ok (.aload_n 0, 1) := by decide +kernel
theorem dX5_forget_21 : decode cX5_forget 21 = .ok (.getfield 7, 3) := by decide +kernel
theorem dX5_forget_24 : decode cX5_forget 24 = .ok (.sipush 134, 3) := by decide +kernel
theorem dX5_forget_27 : decode cX5_forget 27 = .ok (.iload_n 1, 1) := by decide +kernel
theorem dX5_forget_28 : decode cX5_forget 28 = .ok (.iadd, 1) := by decide +kernel
theorem dX5_forget_29 : decode cX5_forget 29 = .ok (.iconst 0, 1) := by decide +kernel
theorem dX5_forget_30 : decode cX5_forget 30 = .ok (.iastore, 1) := by decide +kernel
theorem dX5_forget_31 : decode cX5_forget 31 = .ok (.return_, 1) := by decide +kernel
theorem dX5_pass_0 : decode cX5_pass 0 = .ok (.iconst 0, 1) := by decide +kernel
theorem dX5_pass_1 : decode cX5_pass 1 = .ok (.istore_n 1, 1) := by decide +kernel
theorem dX5_pass_2 : decode cX5_pass 2 = .ok (.iconst 0, 1) := by decide +kernel
theorem dX5_pass_3 : decode cX5_pass 3 = .ok (.istore_n 2, 1) := by decide +kernel
theorem dX5_pass_4 : decode cX5_pass 4 = .ok (.iload_n 2, 1) := by decide +kernel
theorem dX5_pass_5 : decode cX5_pass 5 = .ok (.bipush (-9), 2) := by decide +kernel
theorem dX5_pass_7 : decode cX5_pass 7 = .ok (.if_icmp .eq 201, 3) := by decide +kernel
theorem dX5_pass_10 : decode cX5_pass 10 = .ok (.aload_n 0, 1) := by decide +kernel
theorem dX5_pass_11 : decode cX5_pass 11 = .ok (.getfield 7, 3) := by decide +kernel
theorem dX5_pass_14 : decode cX5_pass 14 = .ok (.bipush 6, 2) := by decide +kernel
theorem dX5_pass_16 : decode cX5_pass 16 = .ok (.iaload, 1) := by decide +kernel
theorem dX5_pass_17 : decode cX5_pass 17 = .ok (.iconst 1, 1) := by decide +kernel
theorem dX5_pass_18 : decode cX5_pass 18 = .ok (.if_icmp .ne 190, 3) := by decide +kernel
theorem dX5_pass_21 : decode cX5_pass 21 = .ok (.bipush (-9), 2) := by decide +kernel
theorem dX5_pass_23 : decode cX5_pass 23 = .ok (.istore_n 2, 1) := by decide +kernel
theorem dX5_pass_24 : decode cX5_pass 24 = .ok (.bipush (-9), 2) := by decide +kernel
theorem dX5_pass_26 : decode cX5_pass 26 = .ok (.istore_n 3, 1) := by decide +kernel
theorem dX5_pass_27 : decode cX5_pass 27 = .ok (.iconst 0, 1) := by decide +kernel
theorem dX5_pass_28 : decode cX5_pass 28 = .ok (.istore 4, 2) := by decide +kernel
theorem dX5_pass_30 : decode cX5_pass 30 = .ok (.iload 4, 2) := by decide +kernel
theorem dX5_pass_32 : decode cX5_pass 32 = .ok (.bipush 60, 2) := by decide +kernel
theorem dX5_pass_34 : decode cX5_pass 34 = .ok (.if_icmp .ge 125, 3) := by decide +kernel
theorem dX5_pass_37 : decode cX5_pass 37 = .ok (.aload_n 0, 1) := by decide +kernel
theorem dX5_pass_38 : decode cX5_pass 38 = .ok (.getfield 7, 3) := by decide +kernel
theorem dX5_pass_41 : decode cX5_pass 41 = .ok (.bipush 14, 2) := by decide +kernel
theorem dX5_pass_43 : decode cX5_pass 43 = .ok (.iload 4, 2) := by decide +kernel
theorem dX5_pass_45 : decode cX5_pass 45 = .ok (.iadd, 1) := by decide +kernel
theorem dX5_pass_46 : decode cX5_pass 46 = .ok (.iaload, 1) := by decide +kernel
theorem dX5_pass_47 : decode cX5_pass 47 = .ok (.ifCond .le 37, 3) := by decide +kernel
theorem dX5_pass_50 : decode cX5_pass 50 = .ok (.aload_n 0, 1) := by decide +kernel
theorem dX5_pass_51 : decode cX5_pass 51 = .ok (.iload 4, 2) := by decide +kernel
theorem dX5_pass_53 : decode cX5_pass 53 = .ok (.invokevirtual 87, 3) := by decide +kernel
theorem dX5_pass_56 : decode cX5_pass 56 = .ok (.ifCond .eq 28, 3) := by decide +kernel
theorem dX5_pass_59 : decode cX5_pass 59 = .ok (.aload_n 0, 1) := by decide +kernel
theorem dX5_pass_60 : decode cX5_pass 60 = .ok (.aload_n 0, 1) := by decide +kernel
theorem dX5_pass_61 : decode cX5_pass 61 = .ok (.getfield 7, 3) := by decide +kernel
theorem dX5_pass_64 : decode cX5_pass 64 = .ok (.bipush 14, 2) := by decide +kernel
theorem dX5_pass_66 : decode cX5_pass 66 = .ok (.iload 4, 2) := by decide +kernel
theorem dX5_pass_68 : decode cX5_pass 68 = .ok (.iadd, 1) := by decide +kernel
theorem dX5_pass_69 : decode cX5_pass 69 = .ok (.iaload, 1) := by decide +kernel
theorem dX5_pass_70 : decode cX5_pass 70 = .ok (.iconst 1, 1) := by decide +kernel
theorem dX5_pass_71 : decode cX5_pass 71 = .ok (.isub, 1) := by decide +kernel
theorem dX5_pass_72 : decode cX5_pass 72 = .ok (.invokevirtual 78, 3) := by decide +kernel
theorem dX5_pass_75 : decode cX5_pass 75 = .ok (.bipush (-9), 2) := by decide +kernel
theorem dX5_pass_77 : decode cX5_pass 77 = .ok (.if_icmp .eq 7, 3) := by decide +kernel
theorem dX5_pass_80 : decode cX5_pass 80 = .ok (.iconst 1, 1) := by decide +kernel
theorem dX5_pass_81 : decode cX5_pass 81 = .ok (.goto 4, 3) := by decide +kernel
theorem dX5_pass_84 : decode cX5_pass 84 = .ok (.iconst 0, 1) := by decide +kernel
theorem dX5_pass_85 : decode cX5_pass 85 = .ok (.istore 5, 2) := by decide +kernel
theorem dX5_pass_87 : decode cX5_pass 87 = .ok (.iload 5, 2) := by decide +kernel
theorem dX5_pass_89 : decode cX5_pass 89 = .ok (.ifCond .eq 34, 3) := by decide +kernel
theorem dX5_pass_92 : decode cX5_pass 92 = .ok (.aload_n 0, 1) := by decide +kernel
theorem dX5_pass_93 : decode cX5_pass 93 = .ok (.aload_n 0, 1) := by decide +kernel
theorem dX5_pass_94 : decode cX5_pass 94 = .ok (.getfield 7, 3) := by decide +kernel
theorem dX5_pass_97 : decode cX5_pass 97 = .ok (.bipush 14, 2) := by decide +kernel
theorem dX5_pass_99 : decode cX5_pass 99 = .ok (.iload 4, 2) := by decide +kernel
theorem dX5_pass_101 : decode cX5_pass 101 = .ok (.iadd, 1) := by decide +kernel
theorem dX5_pass_102 : decode cX5_pass 102 = .ok (.iaload, 1) := by decide +kernel
theorem dX5_pass_103 : decode cX5_pass 103 = .ok (.iconst 1, 1) := by decide +kernel
theorem dX5_pass_104 : decode cX5_pass 104 = .ok (.isub, 1) := by decide +kernel
theorem dX5_pass_105 : decode cX5_pass 105 = .ok (.aload_n 0, 1) := by decide +kernel
theorem dX5_pass_106 : decode cX5_pass 106 = .ok (.getfield 7, 3) := by decide +kernel
theorem dX5_pass_109 : decode cX5_pass 109 = .ok (.bipush 74, 2) := by decide +kernel
theorem dX5_pass_111 : decode cX5_pass 111 = .ok (.iload 4, 2) := by decide +kernel
theorem dX5_pass_113 : decode cX5_pass 113 = .ok (.iadd, 1) := by decide +kernel
theorem dX5_pass_114 : decode cX5_pass 114 = .ok (.iaload, 1) := by decide +kernel
theorem dX5_pass_115 : decode cX5_pass 115 = .ok (.iconst 1, 1) := by decide +kernel
theorem dX5_pass_116 : decode cX5_pass 116 = .ok (.isub, 1) := by decide +kernel
theorem dX5_pass_117 : decode cX5_pass 117 = .ok (.invokevirtual 84, 3) := by decide +kernel
theorem dX5_pass_120 : decode cX5_pass 120 = .ok (.goto 5, 3) := by decide +kernel
theorem dX5_pass_123 : decode cX5_pass 123 = .ok (.bipush (-9), 2) := by decide +kernel
theorem dX5_pass_125 : decode cX5_pass 125 = .ok (.istore 6, 2) := by decide +kernel
theorem dX5_pass_127 : decode cX5_pass 127 = .ok (.iload 6, 2) := by decide +kernel
theorem dX5_pass_129 : decode cX5_pass 129 = .ok (.iload_n 3, 1) := by decide +kernel
theorem dX5_pass_130 : decode cX5_pass 130 = .ok (.if_icmp .le 8, 3) := by decide +kernel
theorem dX5_pass_133 : decode cX5_pass 133 = .ok (.iload 4, 2) := by decide +kernel
theorem dX5_pass_135 : decode cX5_pass 135 = .ok (.goto 4, 3) := by decide +kernel
theorem dX5_pass_138 : decode cX5_pass 138 = .ok (.iload_n 2, 1) := by decide +kernel
theorem dX5_pass_139 : decode cX5_pass 139 = .ok (.istore_n 2, 1) := by decide +kernel
theorem dX5_pass_140 : decode cX5_pass 140 = .ok (.iload 6, 2) := by decide +kernel
theorem dX5_pass_142 : decode cX5_pass 142 = .ok (.iload_n 3, 1) := by decide +kernel
theorem dX5_pass_143 : decode cX5_pass 143 = .ok (.if_icmp .le 8, 3) := by decide +kernel
theorem dX5_pass_146 : decode cX5_pass 146 = .ok (.iload 6, 2) := by decide +kernel
theorem dX5_pass_148 : decode cX5_pass 148 = .ok (.goto 4, 3) := by decide +kernel
theorem dX5_pass_151 : decode cX5_pass 151 = .ok (.iload_n 3, 1) := by decide +kernel
theorem dX5_pass_152 : decode cX5_pass 152 = .ok (.istore_n 3, 1) := by decide +kernel
theorem dX5_pass_153 : decode cX5_pass 153 = .ok (.iinc 4 1, 3) := by decide +kernel
theorem dX5_pass_156 : decode cX5_pass 156 = .ok (.goto (-126), 3) := by decide +kernel
theorem dX5_pass_159 : decode cX5_pass 159 = .ok (.iload_n 2, 1) := by decide +kernel
theorem dX5_pass_160 : decode cX5_pass 160 = .ok (.bipush (-9), 2) := by decide +kernel
theorem dX5_pass_162 : decode cX5_pass 162 = .ok (.if_icmp .eq 43, 3) := by decide +kernel
theorem dX5_pass_165 : decode cX5_pass 165 = .ok (.aload_n 0, 1) := by decide +kernel
theorem dX5_pass_166 : decode cX5_pass 166 = .ok (.getfield 7, 3) := by decide +kernel
theorem dX5_pass_169 : decode cX5_pass 169 = .ok (.bipush 74, 2) := by decide +kernel
theorem dX5_pass_171 : decode cX5_pass 171 = .ok (.iload_n 2, 1) := by decide +kernel
theorem dX5_pass_172 : decode cX5_pass 172 = .ok (.iadd, 1) := by decide +kernel
theorem dX5_pass_173 : decode cX5_pass 173 = .ok (.aload_n 0, 1) := by decide +kernel
theorem dX5_pass_174 : decode cX5_pass 174 = .ok (.aload_n 0, 1) := by decide +kernel
theorem dX5_pass_175 : decode cX5_pass 175 = .ok (.getfield 7, 3) := by decide +kernel
theorem dX5_pass_178 : decode cX5_pass 178 = .ok (.bipush 14, 2) := by decide +kernel
theorem dX5_pass_180 : decode cX5_pass 180 = .ok (.iload_n 2, 1) := by decide +kernel
theorem dX5_pass_181 : decode cX5_pass 181 = .ok (.iadd, 1) := by decide +kernel
theorem dX5_pass_182 : decode cX5_pass 182 = .ok (.iaload, 1) := by decide +kernel
theorem dX5_pass_183 : decode cX5_pass 183 = .ok (.iconst 1, 1) := by decide +kernel
theorem dX5_pass_184 : decode cX5_pass 184 = .ok (.isub, 1) := by decide +kernel
theorem dX5_pass_185 : decode cX5_pass 185 = .ok (.invokevirtual 78, 3) := by decide +kernel
theorem dX5_pass_188 : decode cX5_pass 188 = .ok (.iconst 1, 1) := by decide +kernel
theorem dX5_pass_189 : decode cX5_pass 189 = .ok (.iadd, 1) := by decide +kernel
theorem dX5_pass_190 : decode cX5_pass 190 = .ok (.iastore, 1) := by decide +kernel
theorem dX5_pass_191 : decode cX5_pass 191 = .ok (.aload_n 0, 1) := by decide +kernel
theorem dX5_pass_192 : decode cX5_pass 192 = .ok (.getfield 7, 3) := by decide +kernel
theorem dX5_pass_195 : decode cX5_pass 195 = .ok (.bipush 13, 2) := by decide +kernel
theorem dX5_pass_197 : decode cX5_pass 197 = .ok (.dup2, 1) := by decide +kernel
theorem dX5_pass_198 : decode cX5_pass 198 = .ok (.iaload, 1) := by decide +kernel
theorem dX5_pass_199 : decode cX5_pass 199 = .ok (.iconst 1, 1) := by decide +kernel
theorem dX5_pass_200 : decode cX5_pass 200 = .ok (.iadd, 1) := by decide +kernel
theorem dX5_pass_201 : decode cX5_pass 201 = .ok (.iastore, 1) := by decide +kernel
theorem dX5_pass_202 : decode cX5_pass 202 = .ok (.iinc 1 1, 3) := by decide +kernel
theorem dX5_pass_205 : decode cX5_pass 205 = .ok (.goto (-201), 3) := by decide +kernel
theorem dX5_pass_208 : decode cX5_pass 208 = .ok (.iload_n 1, 1) := by decide +kernel
theorem dX5_pass_209 : decode cX5_pass 209 = .ok (.ireturn, 1) := by decide +kernel
theorem dX5_start_0 : decode cX5_start 0 = .ok (.aload_n 0, 1) := by decide +kernel
theorem dX5_start_1 : decode cX5_start 1 = .ok (.getfield 7, 3) := by decide +kernel
theorem dX5_start_4 : decode cX5_start 4 = .ok (.bipush 7, 2) := by decide +kernel
theorem dX5_start_6 : decode cX5_start 6 = .ok (.dup2, 1) := by decide +kernel
theorem dX5_start_7 : decode cX5_start 7 = .ok (.iaload, 1) := by decide +kernel
theorem dX5_start_8 : decode cX5_start 8 = .ok (.iconst 1, 1) := by decide +kernel
theorem dX5_start_9 : decode cX5_start 9 = .ok (.iadd, 1) := by decide +kernel
theorem dX5_start_10 : decode cX5_start 10 = .ok (.iastore, 1) := by decide +kernel
theorem dX5_start_11 : decode cX5_start 11 = .ok (.iconst 0, 1) := by decide +kernel
theorem dX5_start_12 : decode cX5_start 12 = .ok (.istore_n 2, 1) := by decide +kernel
theorem dX5_start_13 : decode cX5_start 13 = .ok (.aload_n 0, 1) := by decide +kernel
theorem dX5_start_14 : decode cX5_start 14 = .ok (.getfield 7, 3) := by decide +kernel
theorem dX5_start_17 : decode cX5_start 17 = .ok (.bipush 14, 2) := by decide +kernel
theorem dX5_start_19 : decode cX5_start 19 = .ok (.iload_n 2, 1) := by decide +kernel
theorem dX5_start_20 : decode cX5_start 20 = .ok (.iadd, 1) := by decide +kernel
theorem dX5_start_21 : decode cX5_start 21 = .ok (.iaload, 1) := by decide +kernel
theorem dX5_start_22 : decode cX5_start 22 = .ok (.ifCond .le 9, 3) := by decide +kernel
theorem dX5_start_25 : decode cX5_start 25 = .ok (.iinc 2 1, 3) := by decide +kernel
theorem dX5_start_28 : decode cX5_start 28 = .ok (.goto (-15), 3) := by decide +kernel
theorem dX5_start_31 : decode cX5_start 31 = .ok (.aload_n 0, 1) := by decide +kernel
theorem dX5_start_32 : decode cX5_start 32 = .ok (.iload_n 1, 1) := by decide +kernel
theorem dX5_start_33 : decode cX5_start 33 = .ok (.invokevirtual 91, 3) := by decide +kernel
theorem dX5_start_36 : decode cX5_start 36 = .ok (.istore_n 3, 1) := by decide +kernel
theorem dX5_start_37 : decode cX5_start 37 = .ok (.aload_n 0, 1) := by decide +kernel
theorem dX5_start_38 : decode cX5_start 38 = .ok (.iload_n 1, 1) := by decide +kernel
theorem dX5_start_39 : decode cX5_start 39 = .ok (.invokevirtual 94, 3) := by decide +kernel
theorem dX5_start_42 : decode cX5_start 42 = .ok (.aload_n 0, 1) := by decide +kernel
theorem dX5_start_43 : decode cX5_start 43 = .ok (.getfield 7, 3) := by decide +kernel
theorem dX5_start_46 : decode cX5_start 46 = .ok (.iconst 3, 1) := by decide +kernel
theorem dX5_start_47 : decode cX5_start 47 = .ok (.iaload, 1) := by decide +kernel
theorem dX5_start_48 : decode cX5_start 48 = .ok (.if_icmp .ge 7, 3) := by decide +kernel
theorem dX5_start_51 : decode cX5_start 51 = .ok (.iconst 1, 1) := by decide +kernel
theorem dX5_start_52 : decode cX5_start 52 = .ok (.goto 4, 3) := by decide +kernel
theorem dX5_start_55 : decode cX5_start 55 = .ok (.iconst 0, 1) := by decide +kernel
theorem dX5_start_56 : decode cX5_start 56 = .ok (.istore 4, 2) := by decide +kernel
theorem dX5_start_58 : decode cX5_start 58 = .ok (.aload_n 0, 1) := by decide +kernel
theorem dX5_start_59 : decode cX5_start 59 = .ok (.getfield 7, 3) := by decide +kernel
theorem dX5_start_62 : decode cX5_start 62 = .ok (.bipush 8, 2) := by decide +kernel
theorem dX5_start_64 : decode cX5_start 64 = .ok (.dup2, 1) := by decide +kernel
theorem dX5_start_65 : decode cX5_start 65 = .ok (.iaload, 1) := by decide +kernel
theorem dX5_start_66 : decode cX5_start 66 = .ok (.iload_n 3, 1) := by decide +kernel
theorem dX5_start_67 : decode cX5_start 67 = .ok (.bipush (-9), 2) := by decide +kernel
theorem dX5_start_69 : decode cX5_start 69 = .ok (.if_icmp .ne 7, 3) := by decide +kernel
theorem dX5_start_72 : decode cX5_start 72 = .ok (.iconst 1, 1) := by decide +kernel
theorem dX5_start_73 : decode cX5_start 73 = .ok (.goto 4, 3) := by decide +kernel
theorem dX5_start_76 : decode cX5_start 76 = .ok (.iconst 0, 1) := by decide +kernel
theorem dX5_start_77 : decode cX5_start 77 = .ok (.iadd, 1) := by decide +kernel
theorem dX5_start_78 : decode cX5_start 78 = .ok (.iastore, 1) := by decide +kernel
theorem dX5_start_79 : decode cX5_start 79 = .ok (.aload_n 0, 1) := by decide +kernel
theorem dX5_start_80 : decode cX5_start 80 = .ok (.getfield 7, 3) := by decide +kernel
theorem dX5_start_83 : decode cX5_start 83 = .ok (.bipush 9, 2) := by decide +kernel
theorem dX5_start_85 : decode cX5_start 85 = .ok (.dup2, 1) := by decide +kernel
theorem dX5_start_86 : decode cX5_start 86 = .ok (.iaload, 1) := by decide +kernel
theorem dX5_start_87 : decode cX5_start 87 = .ok (.iload 4, 2) := by decide +kernel
theorem dX5_start_89 : decode cX5_start 89 = .ok (.ifCond .eq 7, 3) := by decide +kernel
theorem dX5_start_92 : decode cX5_start 92 = .ok (.iconst 0, 1) := by decide +kernel
theorem dX5_start_93 : decode cX5_start 93 = .ok (.goto 4, 3) := by decide +kernel
theorem dX5_start_96 : decode cX5_start 96 = .ok (.iconst 1, 1) := by decide +kernel
theorem dX5_start_97 : decode cX5_start 97 = .ok (.iadd, 1) := by decide +kernel
theorem dX5_start_98 : decode cX5_start 98 = .ok (.iastore, 1) := by decide +kernel
theorem dX5_start_99 : decode cX5_start 99 = .ok (.iload_n 3, 1) := by decide +kernel
theorem dX5_start_100 : decode cX5_start 100 = .ok (.bipush (-9), 2) := by decide +kernel
theorem dX5_start_102 : decode cX5_start 102 = .ok (.if_icmp .ne 11, 3) := by decide +kernel
theorem dX5_start_105 : decode cX5_start 105 = .ok (.iload 4, 2) := by decide +kernel
theorem dX5_start_107 : decode cX5_start 107 = .ok (.ifCond .ne 6, 3) := by decide +kernel
theorem dX5_start_110 : decode cX5_start 110 = .ok (.bipush (-9), 2) := by decide +kernel
theorem dX5_start_112 : decode cX5_start 112 = .ok (.ireturn, 1) := by decide +kernel
theorem dX5_start_113 : decode cX5_start 113 = .ok (.aload_n 0, 1) := by decide +kernel
theorem dX5_start_114 : decode cX5_start 114 = .ok (.getfield 7, 3) := by decide +kernel
theorem dX5_start_117 : decode cX5_start 117 = .ok (.bipush 14, 2) := by decide +kernel
theorem dX5_start_119 : decode cX5_start 119 = .ok (.iload_n 2, 1) := by decide +kernel
theorem dX5_start_120 : decode cX5_start 120 = .ok (.iadd, 1) := by decide +kernel
theorem dX5_start_121 : decode cX5_start 121 = .ok (.iload_n 1, 1) := by decide +kernel
theorem dX5_start_122 : decode cX5_start 122 = .ok (.iconst 1, 1) := by decide +kernel
theorem dX5_start_123 : decode cX5_start 123 = .ok (.iadd, 1) := by decide +kernel
theorem dX5_start_124 : decode cX5_start 124 = .ok (.iastore, 1) := by decide +kernel
theorem dX5_start_125 : decode cX5_start 125 = .ok (.aload_n 0, 1) := by decide +kernel
theorem dX5_start_126 : decode cX5_start 126 = .ok (.getfield 7, 3) := by decide +kernel
theorem dX5_start_129 : decode cX5_start 129 = .ok (.bipush 74, 2) := by decide +kernel
theorem dX5_start_131 : decode cX5_start 131 = .ok (.iload_n 2, 1) := by decide +kernel
theorem dX5_start_132 : decode cX5_start 132 = .ok (.iadd, 1) := by decide +kernel
theorem dX5_start_133 : decode cX5_start 133 = .ok (.iload_n 3, 1) := by decide +kernel
theorem dX5_start_134 : decode cX5_start 134 = .ok (.bipush (-9), 2) := by decide +kernel
theorem dX5_start_136 : decode cX5_start 136 = .ok (.if_icmp .ne 7, 3) := by decide +kernel
theorem dX5_start_139 : decode cX5_start 139 = .ok (.iconst 0, 1) := by decide +kernel
theorem dX5_start_140 : decode cX5_start 140 = .ok (.goto 6, 3) := by decide +kernel
theorem dX5_start_143 : decode cX5_start 143 = .ok (.iload_n 3, 1) := by decide +kernel
theorem dX5_start_144 : decode cX5_start 144 = .ok (.iconst 1, 1) := by decide +kernel
theorem dX5_start_145 : decode cX5_start 145 = .ok (.iadd, 1) := by decide +kernel
theorem dX5_start_146 : decode cX5_start 146 = .ok (.iastore, 1) := by decide +kernel
theorem dX5_start_147 : decode cX5_start 147 = .ok (.aload_n 0, 1) := by decide +kernel
theorem dX5_start_148 : decode cX5_start 148 = .ok (.getfield 7, 3) := by decide +kernel
theorem dX5_start_151 : decode cX5_start 151 = .ok (.sipush 134, 3) := by decide +kernel
theorem dX5_start_154 : decode cX5_start 154 = .ok (.iload_n 2, 1) := by decide +kernel
theorem dX5_start_155 : decode cX5_start 155 = .ok (.iadd, 1) := by decide +kernel
theorem dX5_start_156 : decode cX5_start 156 = .ok (.iload 4, 2) := by decide +kernel
theorem dX5_start_158 : decode cX5_start 158 = .ok (.ifCond .eq 7, 3) := by decide +kernel
theorem dX5_start_161 : decode cX5_start 161 = .ok (.iconst 1, 1) := by decide +kernel
theorem dX5_start_162 : decode cX5_start 162 = .ok (.goto 4, 3) := by decide +kernel
theorem dX5_start_165 : decode cX5_start 165 = .ok (.iconst 0, 1) := by decide +kernel
theorem dX5_start_166 : decode cX5_start 166 = .ok (.iastore, 1) := by decide +kernel
theorem dX5_start_167 : decode cX5_start 167 = .ok (.aload_n 0, 1) := by decide +kernel
theorem dX5_start_168 : decode cX5_start 168 = .ok (.getfield 7, 3) := by decide +kernel
theorem dX5_start_171 : decode cX5_start 171 = .ok (.bipush 12, 2) := by decide +kernel
theorem dX5_start_173 : decode cX5_start 173 = .ok (.dup2, 1) := by decide +kernel
theorem dX5_start_174 : decode cX5_start 174 = .ok (.iaload, 1) := by decide +kernel
theorem dX5_start_175 : decode cX5_start 175 = .ok (.aload_n 0, 1) := by decide +kernel
theorem dX5_start_176 : decode cX5_start 176 = .ok (.iload_n 2, 1) := by decide +kernel
theorem dX5_start_177 : decode cX5_start 177 = .ok (.invokevirtual 87, 3) := by decide +kernel
theorem dX5_start_180 : decode cX5_start 180 = .ok (.ifCond .eq 7, 3) := by decide +kernel
theorem dX5_start_183 : decode cX5_start 183 = .ok (.iconst 1, 1) := by decide +kernel
theorem dX5_start_184 : decode cX5_start 184 = .ok (.goto 4, 3) := by decide +kernel
theorem dX5_start_187 : decode cX5_start 187 = .ok (.iconst 0, 1) := by decide +kernel
theorem dX5_start_188 : decode cX5_start 188 = .ok (.iadd, 1) := by decide +kernel
theorem dX5_start_189 : decode cX5_start 189 = .ok (.iastore, 1) := by decide +kernel
theorem dX5_start_190 : decode cX5_start 190 = .ok (.iload_n 2, 1) := by decide +kernel
theorem dX5_start_191 : decode cX5_start 191 = .ok (.ireturn, 1) := by decide +kernel
theorem dX5_channelNow_0 : decode cX5_channelNow 0 = .ok (.aload_n 0, 1) := by decide +kernel
theorem dX5_channelNow_1 : decode cX5_channelNow 1 = .ok (.getfield 7, 3) := by decide +kernel
theorem dX5_channelNow_4 : decode cX5_channelNow 4 = .ok (.bipush 74, 2) := by decide +kernel
theorem dX5_channelNow_6 : decode cX5_channelNow 6 = .ok (.iload_n 1, 1) := by decide +kernel
theorem dX5_channelNow_7 : decode cX5_channelNow 7 = .ok (.iadd, 1) := by decide +kernel
theorem dX5_channelNow_8 : decode cX5_channelNow 8 = .ok (.iaload, 1) := by decide +kernel
theorem dX5_channelNow_9 : decode cX5_channelNow 9 = .ok (.ifCond .ne 8, 3) := by decide +kernel
theorem dX5_channelNow_12 : decode cX5_channelNow 12 = .ok (.bipush (-9), 2) := by decide +kernel
theorem dX5_channelNow_14 : decode cX5_channelNow 14 = .ok (.goto 14, 3) := by decide +kernel
theorem dX5_channelNow_17 : decode cX5_channelNow 17 = .ok (.aload_n 0, 1) := by decide +kernel
theorem dX5_channelNow_18 : decode cX5_channelNow 18 = .ok (.getfield 7, 3) := by decide +kernel
theorem dX5_channelNow_21 : decode cX5_channelNow 21 = .ok (.bipush 74, 2) := by decide +kernel
theorem dX5_channelNow_23 : decode cX5_channelNow 23 = .ok (.iload_n 1, 1) := by decide +kernel
theorem dX5_channelNow_24 : decode cX5_channelNow 24 = .ok (.iadd, 1) := by decide +kernel
theorem dX5_channelNow_25 : decode cX5_channelNow 25 = .ok (.iaload, 1) := by decide +kernel
theorem dX5_channelNow_26 : decode cX5_channelNow 26 = .ok (.iconst 1, 1) := by decide +kernel
theorem dX5_channelNow_27 : decode cX5_channelNow 27 = .ok (.isub, 1) := by decide +kernel
theorem dX5_channelNow_28 : decode cX5_channelNow 28 = .ok (.ireturn, 1) := by decide +kernel
theorem dX5_end_0 : decode cX5_end 0 = .ok (.aload_n 0, 1) := by decide +kernel
theorem dX5_end_1 : decode cX5_end 1 = .ok (.iload_n 1, 1) := by decide +kernel
theorem dX5_end_2 : decode cX5_end 2 = .ok (.invokevirtual 97, 3) := by decide +kernel
theorem dX5_end_5 : decode cX5_end 5 = .ok (.istore_n 2, 1) := by decide +kernel
theorem dX5_end_6 : decode cX5_end 6 = .ok (.aload_n 0, 1) := by decide +kernel
theorem dX5_end_7 : decode cX5_end 7 = .ok (.iload_n 1, 1) := by decide +kernel
theorem dX5_end_8 : decode cX5_end 8 = .ok (.invokevirtual 100, 3) := by decide +kernel
theorem dX5_end_11 : decode cX5_end 11 = .ok (.aload_n 0, 1) := by decide +kernel
theorem dX5_end_12 : decode cX5_end 12 = .ok (.invokevirtual 104, 3) := by decide +kernel
theorem dX5_end_15 : decode cX5_end 15 = .ok (.istore_n 3, 1) := by decide +kernel
theorem dX5_end_16 : decode cX5_end 16 = .ok (.iload_n 3, 1) := by decide +kernel
theorem dX5_end_17 : decode cX5_end 17 = .ok (.ifCond .ge 7, 3) := by decide +kernel
theorem dX5_end_20 : decode cX5_end 20 = .ok (.iload_n 3, 1) := by decide +kernel
theorem dX5_end_21 : decode cX5_end 21 = .ok (.goto 4, 3) := by decide +kernel
theorem dX5_end_24 : decode cX5_end 24 = .ok (.iload_n 2, 1) := by decide +kernel
theorem dX5_end_25 : decode cX5_end 25 = .ok (.ireturn, 1) := by decide +kernel
theorem dX5_hand_0 : decode cX5_hand 0 = .ok (.aload_n 0, 1) := by decide +kernel
theorem dX5_hand_1 : decode cX5_hand 1 = .ok (.getfield 7, 3) := by decide +kernel
theorem dX5_hand_4 : decode cX5_hand 4 = .ok (.bipush 74, 2) := by decide +kernel
theorem dX5_hand_6 : decode cX5_hand 6 = .ok (.iload_n 1, 1) := by decide +kernel
theorem dX5_hand_7 : decode cX5_hand 7 = .ok (.iadd, 1) := by decide +kernel
theorem dX5_hand_8 : decode cX5_hand 8 = .ok (.iaload, 1) := by decide +kernel
theorem dX5_hand_9 : decode cX5_hand 9 = .ok (.ifCond .ne 8, 3) := by decide +kernel
theorem dX5_hand_12 : decode cX5_hand 12 = .ok (.bipush (-9), 2) := by decide +kernel
theorem dX5_hand_14 : decode cX5_hand 14 = .ok (.goto 8, 3) := by decide +kernel
theorem dX5_hand_17 : decode cX5_hand 17 = .ok (.aload_n 0, 1) := by decide +kernel
theorem dX5_hand_18 : decode cX5_hand 18 = .ok (.iload_n 2, 1) := by decide +kernel
theorem dX5_hand_19 : decode cX5_hand 19 = .ok (.invokevirtual 91, 3) := by decide +kernel
theorem dX5_hand_22 : decode cX5_hand 22 = .ok (.istore_n 3, 1) := by decide +kernel
theorem dX5_hand_23 : decode cX5_hand 23 = .ok (.aload_n 0, 1) := by decide +kernel
theorem dX5_hand_24 : decode cX5_hand 24 = .ok (.getfield 7, 3) := by decide +kernel
theorem dX5_hand_27 : decode cX5_hand 27 = .ok (.bipush 10, 2) := by decide +kernel
theorem dX5_hand_29 : decode cX5_hand 29 = .ok (.dup2, 1) := by decide +kernel
theorem dX5_hand_30 : decode cX5_hand 30 = .ok (.iaload, 1) := by decide +kernel
theorem dX5_hand_31 : decode cX5_hand 31 = .ok (.aload_n 0, 1) := by decide +kernel
theorem dX5_hand_32 : decode cX5_hand 32 = .ok (.getfield 7, 3) := by decide +kernel
theorem dX5_hand_35 : decode cX5_hand 35 = .ok (.bipush 74, 2) := by decide +kernel
theorem dX5_hand_37 : decode cX5_hand 37 = .ok (.iload_n 1, 1) := by decide +kernel
theorem dX5_hand_38 : decode cX5_hand 38 = .ok (.iadd, 1) := by decide +kernel
theorem dX5_hand_39 : decode cX5_hand 39 = .ok (.iaload, 1) := by decide +kernel
theorem dX5_hand_40 : decode cX5_hand 40 = .ok (.ifCond .le 13, 3) := by decide +kernel
theorem dX5_hand_43 : decode cX5_hand 43 = .ok (.iload_n 3, 1) := by decide +kernel
theorem dX5_hand_44 : decode cX5_hand 44 = .ok (.bipush (-9), 2) := by decide +kernel
theorem dX5_hand_46 : decode cX5_hand 46 = .ok (.if_icmp .ne 7, 3) := by decide +kernel
theorem dX5_hand_49 : decode cX5_hand 49 = .ok (.iconst 1, 1) := by decide +kernel
theorem dX5_hand_50 : decode cX5_hand 50 = .ok (.goto 4, 3) := by decide +kernel
theorem dX5_hand_53 : decode cX5_hand 53 = .ok (.iconst 0, 1) := by decide +kernel
theorem dX5_hand_54 : decode cX5_hand 54 = .ok (.iadd, 1) := by decide +kernel
theorem dX5_hand_55 : decode cX5_hand 55 = .ok (.iastore, 1) := by decide +kernel
theorem dX5_hand_56 : decode cX5_hand 56 = .ok (.aload_n 0, 1) := by decide +kernel
theorem dX5_hand_57 : decode cX5_hand 57 = .ok (.iload_n 2, 1) := by decide +kernel
theorem dX5_hand_58 : decode cX5_hand 58 = .ok (.invokevirtual 94, 3) := by decide +kernel
theorem dX5_hand_61 : decode cX5_hand 61 = .ok (.aload_n 0, 1) := by decide +kernel
theorem dX5_hand_62 : decode cX5_hand 62 = .ok (.getfield 7, 3) := by decide +kernel
theorem dX5_hand_65 : decode cX5_hand 65 = .ok (.iconst 3, 1) := by decide +kernel
theorem dX5_hand_66 : decode cX5_hand 66 = .ok (.iaload, 1) := by decide +kernel
theorem dX5_hand_67 : decode cX5_hand 67 = .ok (.if_icmp .ge 7, 3) := by decide +kernel
theorem dX5_hand_70 : decode cX5_hand 70 = .ok (.iconst 1, 1) := by decide +kernel
theorem dX5_hand_71 : decode cX5_hand 71 = .ok (.goto 4, 3) := by decide +kernel
theorem dX5_hand_74 : decode cX5_hand 74 = .ok (.iconst 0, 1) := by decide +kernel
theorem dX5_hand_75 : decode cX5_hand 75 = .ok (.istore 4, 2) := by decide +kernel
theorem dX5_hand_77 : decode cX5_hand 77 = .ok (.aload_n 0, 1) := by decide +kernel
theorem dX5_hand_78 : decode cX5_hand 78 = .ok (.getfield 7, 3) := by decide +kernel
theorem dX5_hand_81 : decode cX5_hand 81 = .ok (.bipush 11, 2) := by decide +kernel
theorem dX5_hand_83 : decode cX5_hand 83 = .ok (.dup2, 1) := by decide +kernel
theorem dX5_hand_84 : decode cX5_hand 84 = .ok (.iaload, 1) := by decide +kernel
theorem dX5_hand_85 : decode cX5_hand 85 = .ok (.aload_n 0, 1) := by decide +kernel
theorem dX5_hand_86 : decode cX5_hand 86 = .ok (.getfield 7, 3) := by decide +kernel
theorem dX5_hand_89 : decode cX5_hand 89 = .ok (.sipush 134, 3) := by decide +kernel
theorem dX5_hand_92 : decode cX5_hand 92 = .ok (.iload_n 1, 1) := by decide +kernel
theorem dX5_hand_93 : decode cX5_hand 93 = .ok (.iadd, 1) := by decide +kernel
theorem dX5_hand_94 : decode cX5_hand 94 = .ok (.iaload, 1) := by decide +kernel
theorem dX5_hand_95 : decode cX5_hand 95 = .ok (.iconst 1, 1) := by decide +kernel
theorem dX5_hand_96 : decode cX5_hand 96 = .ok (.if_icmp .ne 12, 3) := by decide +kernel
theorem dX5_hand_99 : decode cX5_hand 99 = .ok (.iload 4, 2) := by decide +kernel
theorem dX5_hand_101 : decode cX5_hand 101 = .ok (.ifCond .ne 7, 3) := by decide +kernel
theorem dX5_hand_104 : decode cX5_hand 104 = .ok (.iconst 1, 1) := by decide +kernel
theorem dX5_hand_105 : decode cX5_hand 105 = .ok (.goto 4, 3) := by decide +kernel
theorem dX5_hand_108 : decode cX5_hand 108 = .ok (.iconst 0, 1) := by decide +kernel
theorem dX5_hand_109 : decode cX5_hand 109 = .ok (.iadd, 1) := by decide +kernel
theorem dX5_hand_110 : decode cX5_hand 110 = .ok (.iastore, 1) := by decide +kernel
theorem dX5_hand_111 : decode cX5_hand 111 = .ok (.aload_n 0, 1) := by decide +kernel
theorem dX5_hand_112 : decode cX5_hand 112 = .ok (.getfield 7, 3) := by decide +kernel
theorem dX5_hand_115 : decode cX5_hand 115 = .ok (.sipush 134, 3) := by decide +kernel
theorem dX5_hand_118 : decode cX5_hand 118 = .ok (.iload_n 1, 1) := by decide +kernel
theorem dX5_hand_119 : decode cX5_hand 119 = .ok (.iadd, 1) := by decide +kernel
theorem dX5_hand_120 : decode cX5_hand 120 = .ok (.aload_n 0, 1) := by decide +kernel
theorem dX5_hand_121 : decode cX5_hand 121 = .ok (.getfield 7, 3) := by decide +kernel
theorem dX5_hand_124 : decode cX5_hand 124 = .ok (.sipush 134, 3) := by decide +kernel
theorem dX5_hand_127 : decode cX5_hand 127 = .ok (.iload_n 1, 1) := by decide +kernel
theorem dX5_hand_128 : decode cX5_hand 128 = .ok (.iadd, 1) := by decide +kernel
theorem dX5_hand_129 : decode cX5_hand 129 = .ok (.iaload, 1) := by decide +kernel
theorem dX5_hand_130 : decode cX5_hand 130 = .ok (.iconst 1, 1) := by decide +kernel
theorem dX5_hand_131 : decode cX5_hand 131 = .ok (.if_icmp .ne 12, 3) := by decide +kernel
theorem dX5_hand_134 : decode cX5_hand 134 = .ok (.iload 4, 2) := by decide +kernel
theorem dX5_hand_136 : decode cX5_hand 136 = .ok (.ifCond .eq 7, 3) := by decide +kernel
theorem dX5_hand_139 : decode cX5_hand 139 = .ok (.iconst 1, 1) := by decide +kernel
theorem dX5_hand_140 : decode cX5_hand 140 = .ok (.goto 4, 3) := by decide +kernel
theorem dX5_hand_143 : decode cX5_hand 143 = .ok (.iconst 0, 1) := by decide +kernel
theorem dX5_hand_144 : decode cX5_hand 144 = .ok (.iastore, 1) := by decide +kernel
theorem dX5_hand_145 : decode cX5_hand 145 = .ok (.aload_n 0, 1) := by decide +kernel
theorem dX5_hand_146 : decode cX5_hand 146 = .ok (.getfield 7, 3) := by decide +kernel
theorem dX5_hand_149 : decode cX5_hand 149 = .ok (.bipush 14, 2) := by decide +kernel
theorem dX5_hand_151 : decode cX5_hand 151 = .ok (.iload_n 1, 1) := by decide +kernel
theorem dX5_hand_152 : decode cX5_hand 152 = .ok (.iadd, 1) := by decide +kernel
theorem dX5_hand_153 : decode cX5_hand 153 = .ok (.iload_n 2, 1) := by decide +kernel
theorem dX5_hand_154 : decode cX5_hand 154 = .ok (.iconst 1, 1) := by decide +kernel
theorem dX5_hand_155 : decode cX5_hand 155 = .ok (.iadd, 1) := by decide +kernel
theorem dX5_hand_156 : decode cX5_hand 156 = .ok (.iastore, 1) := by decide +kernel
theorem dX5_hand_157 : decode cX5_hand 157 = .ok (.aload_n 0, 1) := by decide +kernel
theorem dX5_hand_158 : decode cX5_hand 158 = .ok (.getfield 7, 3) := by decide +kernel
theorem dX5_hand_161 : decode cX5_hand 161 = .ok (.bipush 74, 2) := by decide +kernel
theorem dX5_hand_163 : decode cX5_hand 163 = .ok (.iload_n 1, 1) := by decide +kernel
theorem dX5_hand_164 : decode cX5_hand 164 = .ok (.iadd, 1) := by decide +kernel
theorem dX5_hand_165 : decode cX5_hand 165 = .ok (.iload_n 3, 1) := by decide +kernel
theorem dX5_hand_166 : decode cX5_hand 166 = .ok (.bipush (-9), 2) := by decide +kernel
theorem dX5_hand_168 : decode cX5_hand 168 = .ok (.if_icmp .ne 7, 3) := by decide +kernel
theorem dX5_hand_171 : decode cX5_hand 171 = .ok (.iconst 0, 1) := by decide +kernel
theorem dX5_hand_172 : decode cX5_hand 172 = .ok (.goto 6, 3) := by decide +kernel
theorem dX5_hand_175 : decode cX5_hand 175 = .ok (.iload_n 3, 1) := by decide +kernel
theorem dX5_hand_176 : decode cX5_hand 176 = .ok (.iconst 1, 1) := by decide +kernel
theorem dX5_hand_177 : decode cX5_hand 177 = .ok (.iadd, 1) := by decide +kernel
theorem dX5_hand_178 : decode cX5_hand 178 = .ok (.iastore, 1) := by decide +kernel
theorem dX5_hand_179 : decode cX5_hand 179 = .ok (.aload_n 0, 1) := by decide +kernel
theorem dX5_hand_180 : decode cX5_hand 180 = .ok (.getfield 7, 3) := by decide +kernel
theorem dX5_hand_183 : decode cX5_hand 183 = .ok (.bipush 12, 2) := by decide +kernel
theorem dX5_hand_185 : decode cX5_hand 185 = .ok (.dup2, 1) := by decide +kernel
theorem dX5_hand_186 : decode cX5_hand 186 = .ok (.iaload, 1) := by decide +kernel
theorem dX5_hand_187 : decode cX5_hand 187 = .ok (.aload_n 0, 1) := by decide +kernel
theorem dX5_hand_188 : decode cX5_hand 188 = .ok (.iload_n 1, 1) := by decide +kernel
theorem dX5_hand_189 : decode cX5_hand 189 = .ok (.invokevirtual 87, 3) := by decide +kernel
theorem dX5_hand_192 : decode cX5_hand 192 = .ok (.ifCond .eq 7, 3) := by decide +kernel
theorem dX5_hand_195 : decode cX5_hand 195 = .ok (.iconst 1, 1) := by decide +kernel
theorem dX5_hand_196 : decode cX5_hand 196 = .ok (.goto 4, 3) := by decide +kernel
theorem dX5_hand_199 : decode cX5_hand 199 = .ok (.iconst 0, 1) := by decide +kernel
theorem dX5_hand_200 : decode cX5_hand 200 = .ok (.iadd, 1) := by decide +kernel
theorem dX5_hand_201 : decode cX5_hand 201 = .ok (.iastore, 1) := by decide +kernel
theorem dX5_hand_202 : decode cX5_hand 202 = .ok (.iload_n 3, 1) := by decide +kernel
theorem dX5_hand_203 : decode cX5_hand 203 = .ok (.bipush (-9), 2) := by decide +kernel
theorem dX5_hand_205 : decode cX5_hand 205 = .ok (.if_icmp .ne 21, 3) := by decide +kernel
theorem dX5_hand_208 : decode cX5_hand 208 = .ok (.aload_n 0, 1) := by decide +kernel
theorem dX5_hand_209 : decode cX5_hand 209 = .ok (.getfield 7, 3) := by decide +kernel
theorem dX5_hand_212 : decode cX5_hand 212 = .ok (.sipush 134, 3) := by decide +kernel
theorem dX5_hand_215 : decode cX5_hand 215 = .ok (.iload_n 1, 1) := by decide +kernel
theorem dX5_hand_216 : decode cX5_hand 216 = .ok (.iadd, 1) := by decide +kernel
theorem dX5_hand_217 : decode cX5_hand 217 = .ok (.iaload, 1) := by decide +kernel
theorem dX5_hand_218 : decode cX5_hand 218 = .ok (.ifCond .ne 8, 3) := by decide +kernel
theorem dX5_hand_221 : decode cX5_hand 221 = .ok (.aload_n 0, 1) := by decide +kernel
theorem dX5_hand_222 : decode cX5_hand 222 = .ok (.iload_n 1, 1) := by decide +kernel
theorem dX5_hand_223 : decode cX5_hand 223 = .ok (.invokevirtual 100, 3) := by decide +kernel
theorem dX5_hand_226 : decode cX5_hand 226 = .ok (.aload_n 0, 1) := by decide +kernel
theorem dX5_hand_227 : decode cX5_hand 227 = .ok (.invokevirtual 104, 3) := by decide +kernel
theorem dX5_hand_230 : decode cX5_hand 230 = .ok (.istore 5, 2) := by decide +kernel
theorem dX5_hand_232 : decode cX5_hand 232 = .ok (.iload 5, 2) := by decide +kernel
theorem dX5_hand_234 : decode cX5_hand 234 = .ok (.ifCond .ge 8, 3) := by decide +kernel
theorem dX5_hand_237 : decode cX5_hand 237 = .ok (.iload 5, 2) := by decide +kernel
theorem dX5_hand_239 : decode cX5_hand 239 = .ok (.goto 4, 3) := by decide +kernel
theorem dX5_hand_242 : decode cX5_hand 242 = .ok (.iload_n 3, 1) := by decide +kernel
theorem dX5_hand_243 : decode cX5_hand 243 = .ok (.ireturn, 1) := by decide +kernel
theorem dX5_does_0 : decode cX5_does 0 = .ok (.aload_n 0, 1) := by decide +kernel
theorem dX5_does_1 : decode cX5_does 1 = .ok (.invokevirtual 107, 3) := by decide +kernel
theorem dX5_does_4 : decode cX5_does 4 = .ok (.iload_n 1, 1) := by decide +kernel
theorem dX5_does_5 : decode cX5_does 5 = .ok (.ifCond .ne 11, 3) := by decide +kernel
theorem dX5_does_8 : decode cX5_does 8 = .ok (.aload_n 0, 1) := by decide +kernel
theorem dX5_does_9 : decode cX5_does 9 = .ok (.iload_n 2, 1) := by decide +kernel
theorem dX5_does_10 : decode cX5_does 10 = .ok (.invokevirtual 110, 3) := by decide +kernel
theorem dX5_does_13 : decode cX5_does 13 = .ok (.goto 22, 3) := by decide +kernel
theorem dX5_does_16 : decode cX5_does 16 = .ok (.iload_n 1, 1) := by decide +kernel
theorem dX5_does_17 : decode cX5_does 17 = .ok (.iconst 1, 1) := by decide +kernel
theorem dX5_does_18 : decode cX5_does 18 = .ok (.if_icmp .ne 11, 3) := by decide +kernel
theorem dX5_does_21 : decode cX5_does 21 = .ok (.aload_n 0, 1) := by decide +kernel
theorem dX5_does_22 : decode cX5_does 22 = .ok (.iload_n 2, 1) := by decide +kernel
theorem dX5_does_23 : decode cX5_does 23 = .ok (.invokevirtual 113, 3) := by decide +kernel
theorem dX5_does_26 : decode cX5_does 26 = .ok (.goto 9, 3) := by decide +kernel
theorem dX5_does_29 : decode cX5_does 29 = .ok (.aload_n 0, 1) := by decide +kernel
theorem dX5_does_30 : decode cX5_does 30 = .ok (.iload_n 2, 1) := by decide +kernel
theorem dX5_does_31 : decode cX5_does 31 = .ok (.iload_n 3, 1) := by decide +kernel
theorem dX5_does_32 : decode cX5_does 32 = .ok (.invokevirtual 116, 3) := by decide +kernel
theorem dX5_does_35 : decode cX5_does 35 = .ok (.ireturn, 1) := by decide +kernel
theorem dX5_isError_0 : decode cX5_isError 0 = .ok (.iload_n 1, 1) := by decide +kernel
theorem dX5_isError_1 : decode cX5_isError 1 = .ok (.ifCond .ne 26, 3) := by decide +kernel
theorem dX5_isError_4 : decode cX5_isError 4 = .ok (.aload_n 0, 1) := by decide +kernel
theorem dX5_isError_5 : decode cX5_isError 5 = .ok (.iload_n 2, 1) := by decide +kernel
theorem dX5_isError_6 : decode cX5_isError 6 = .ok (.invokevirtual 119, 3) := by decide +kernel
theorem dX5_isError_9 : decode cX5_isError 9 = .ok (.ifCond .eq 12, 3) := by decide +kernel
theorem dX5_isError_12 : decode cX5_isError 12 = .ok (.aload_n 0, 1) := by decide +kernel
theorem dX5_isError_13 : decode cX5_isError 13 = .ok (.invokevirtual 38, 3) := by decide +kernel
theorem dX5_isError_16 : decode cX5_isError 16 = .ok (.bipush 60, 2) := by decide +kernel
theorem dX5_isError_18 : decode cX5_isError 18 = .ok (.if_icmp .ne 7, 3) := by decide +kernel
theorem dX5_isError_21 : decode cX5_isError 21 = .ok (.iconst 1, 1) := by decide +kernel
theorem dX5_isError_22 : decode cX5_isError 22 = .ok (.goto 4, 3) := by decide +kernel
theorem dX5_isError_25 : decode cX5_isError 25 = .ok (.iconst 0, 1) := by decide +kernel
theorem dX5_isError_26 : decode cX5_isError 26 = .ok (.ireturn, 1) := by decide +kernel
theorem dX5_isError_27 : decode cX5_isError 27 = .ok (.aload_n 0, 1) := by decide +kernel
theorem dX5_isError_28 : decode cX5_isError 28 = .ok (.iload_n 2, 1) := by decide +kernel
theorem dX5_isError_29 : decode cX5_isError 29 = .ok (.invokevirtual 122, 3) := by decide +kernel
theorem dX5_isError_32 : decode cX5_isError 32 = .ok (.ifCond .eq 36, 3) := by decide +kernel
theorem dX5_isError_35 : decode cX5_isError 35 = .ok (.iload_n 1, 1) := by decide +kernel
theorem dX5_isError_36 : decode cX5_isError 36 = .ok (.iconst 2, 1) := by decide +kernel
theorem dX5_isError_37 : decode cX5_isError 37 = .ok (.if_icmp .ne 35, 3) := by decide +kernel
theorem dX5_isError_40 : decode cX5_isError 40 = .ok (.aload_n 0, 1) := by decide +kernel
theorem dX5_isError_41 : decode cX5_isError 41 = .ok (.iload_n 3, 1) := by decide +kernel
theorem dX5_isError_42 : decode cX5_isError 42 = .ok (.invokevirtual 119, 3) := by decide +kernel
theorem dX5_isError_45 : decode cX5_isError 45 = .ok (.ifCond .eq 23, 3) := by decide +kernel
theorem dX5_isError_48 : decode cX5_isError 48 = .ok (.aload_n 0, 1) := by decide +kernel
theorem dX5_isError_49 : decode cX5_isError 49 = .ok (.iload_n 3, 1) := by decide +kernel
theorem dX5_isError_50 : decode cX5_isError 50 = .ok (.aload_n 0, 1) := by decide +kernel
theorem dX5_isError_51 : decode cX5_isError 51 = .ok (.getfield 7, 3) := by decide +kernel
theorem dX5_isError_54 : decode cX5_isError 54 = .ok (.bipush 14, 2) := by decide +kernel
theorem dX5_isError_56 : decode cX5_isError 56 = .ok (.iload_n 2, 1) := by decide +kernel
theorem dX5_isError_57 : decode cX5_isError 57 = .ok (.iadd, 1) := by decide +kernel
theorem dX5_isError_58 : decode cX5_isError 58 = .ok (.iaload, 1) := by decide +kernel
theorem dX5_isError_59 : decode cX5_isError 59 = .ok (.iconst 1, 1) := by decide +kernel
theorem dX5_isError_60 : decode cX5_isError 60 = .ok (.isub, 1) := by decide +kernel
theorem dX5_isError_61 : decode cX5_isError 61 = .ok (.invokevirtual 58, 3) := by decide +kernel
theorem dX5_isError_64 : decode cX5_isError 64 = .ok (.iconst 1, 1) := by decide +kernel
theorem dX5_isError_65 : decode cX5_isError 65 = .ok (.if_icmp .eq 7, 3) := by decide +kernel
theorem dX5_isError_68 : decode cX5_isError 68 = .ok (.iconst 1, 1) := by decide +kernel
theorem dX5_isError_69 : decode cX5_isError 69 = .ok (.goto 4, 3) := by decide +kernel
theorem dX5_isError_72 : decode cX5_isError 72 = .ok (.iconst 0, 1) := by decide +kernel
theorem dX5_isError_73 : decode cX5_isError 73 = .ok (.ireturn, 1) := by decide +kernel
theorem dX5_errorOf_0 : decode cX5_errorOf 0 = .ok (.iload_n 1, 1) := by decide +kernel
theorem dX5_errorOf_1 : decode cX5_errorOf 1 = .ok (.ifCond .ne 20, 3) := by decide +kernel
theorem dX5_errorOf_4 : decode cX5_errorOf 4 = .ok (.aload_n 0, 1) := by decide +kernel
theorem dX5_errorOf_5 : decode cX5_errorOf 5 = .ok (.iload_n 2, 1) := by decide +kernel
theorem dX5_errorOf_6 : decode cX5_errorOf 6 = .ok (.invokevirtual 119, 3) := by decide +kernel
theorem dX5_errorOf_9 : decode cX5_errorOf 9 = .ok (.ifCond .ne 7, 3) := by decide +kernel
theorem dX5_errorOf_12 : decode cX5_errorOf 12 = .ok (.iconst (-1), 1) := by decide +kernel
theorem dX5_errorOf_13 : decode cX5_errorOf 13 = .ok (.goto 22, 3) := by decide +kernel
theorem dX5_errorOf_16 : decode cX5_errorOf 16 = .ok (.bipush (-3), 2) := by decide +kernel
theorem dX5_errorOf_18 : decode cX5_errorOf 18 = .ok (.goto 17, 3) := by decide +kernel
theorem dX5_errorOf_21 : decode cX5_errorOf 21 = .ok (.aload_n 0, 1) := by decide +kernel
theorem dX5_errorOf_22 : decode cX5_errorOf 22 = .ok (.iload_n 2, 1) := by decide +kernel
theorem dX5_errorOf_23 : decode cX5_errorOf 23 = .ok (.invokevirtual 122, 3) := by decide +kernel
theorem dX5_errorOf_26 : decode cX5_errorOf 26 = .ok (.ifCond .ne 8, 3) := by decide +kernel
theorem dX5_errorOf_29 : decode cX5_errorOf 29 = .ok (.bipush (-4), 2) := by decide +kernel
theorem dX5_errorOf_31 : decode cX5_errorOf 31 = .ok (.goto 4, 3) := by decide +kernel
theorem dX5_errorOf_34 : decode cX5_errorOf 34 = .ok (.iconst (-1), 1) := by decide +kernel
theorem dX5_errorOf_35 : decode cX5_errorOf 35 = .ok (.ireturn, 1) := by decide +kernel
theorem dX5_startCall_0 : decode cX5_startCall 0 = .ok (.aload_n 0, 1) := by decide +kernel
theorem dX5_startCall_1 : decode cX5_startCall 1 = .ok (.iconst 0, 1) := by decide +kernel
theorem dX5_startCall_2 : decode cX5_startCall 2 = .ok (.iload_n 1, 1) := by decide +kernel
theorem dX5_startCall_3 : decode cX5_startCall 3 = .ok (.iconst 0, 1) := by decide +kernel
theorem dX5_startCall_4 : decode cX5_startCall 4 = .ok (.invokevirtual 125, 3) := by decide +kernel
theorem dX5_startCall_7 : decode cX5_startCall 7 = .ok (.ifCond .eq 13, 3) := by decide +kernel
theorem dX5_startCall_10 : decode cX5_startCall 10 = .ok (.aload_n 0, 1) := by decide +kernel
theorem dX5_startCall_11 : decode cX5_startCall 11 = .ok (.iconst 0, 1) := by decide +kernel
theorem dX5_startCall_12 : decode cX5_startCall 12 = .ok (.iload_n 1, 1) := by decide +kernel
theorem dX5_startCall_13 : decode cX5_startCall 13 = .ok (.iconst 0, 1) := by decide +kernel
theorem dX5_startCall_14 : decode cX5_startCall 14 = .ok (.invokevirtual 128, 3) := by decide +kernel
theorem dX5_startCall_17 : decode cX5_startCall 17 = .ok (.goto 10, 3) := by decide +kernel
theorem dX5_startCall_20 : decode cX5_startCall 20 = .ok (.aload_n 0, 1) := by decide +kernel
theorem dX5_startCall_21 : decode cX5_startCall 21 = .ok (.iconst 0, 1) := by decide +kernel
theorem dX5_startCall_22 : decode cX5_startCall 22 = .ok (.iload_n 1, 1) := by decide +kernel
theorem dX5_startCall_23 : decode cX5_startCall 23 = .ok (.iconst 0, 1) := by decide +kernel
theorem dX5_startCall_24 : decode cX5_startCall 24 = .ok (.invokevirtual 132, 3) := by decide +kernel
theorem dX5_startCall_27 : decode cX5_startCall 27 = .ok (.ireturn, 1) := by decide +kernel
theorem dX5_endCall_0 : decode cX5_endCall 0 = .ok (.aload_n 0, 1) := by decide +kernel
theorem dX5_endCall_1 : decode cX5_endCall 1 = .ok (.iconst 1, 1) := by decide +kernel
theorem dX5_endCall_2 : decode cX5_endCall 2 = .ok (.iload_n 1, 1) := by decide +kernel
theorem dX5_endCall_3 : decode cX5_endCall 3 = .ok (.iconst 0, 1) := by decide +kernel
theorem dX5_endCall_4 : decode cX5_endCall 4 = .ok (.invokevirtual 125, 3) := by decide +kernel
theorem dX5_endCall_7 : decode cX5_endCall 7 = .ok (.ifCond .eq 13, 3) := by decide +kernel
theorem dX5_endCall_10 : decode cX5_endCall 10 = .ok (.aload_n 0, 1) := by decide +kernel
theorem dX5_endCall_11 : decode cX5_endCall 11 = .ok (.iconst 1, 1) := by decide +kernel
theorem dX5_endCall_12 : decode cX5_endCall 12 = .ok (.iload_n 1, 1) := by decide +kernel
theorem dX5_endCall_13 : decode cX5_endCall 13 = .ok (.iconst 0, 1) := by decide +kernel
theorem dX5_endCall_14 : decode cX5_endCall 14 = .ok (.invokevirtual 128, 3) := by decide +kernel
theorem dX5_endCall_17 : decode cX5_endCall 17 = .ok (.goto 10, 3) := by decide +kernel
theorem dX5_endCall_20 : decode cX5_endCall 20 = .ok (.aload_n 0, 1) := by decide +kernel
theorem dX5_endCall_21 : decode cX5_endCall 21 = .ok (.iconst 1, 1) := by decide +kernel
theorem dX5_endCall_22 : decode cX5_endCall 22 = .ok (.iload_n 1, 1) := by decide +kernel
theorem dX5_endCall_23 : decode cX5_endCall 23 = .ok (.iconst 0, 1) := by decide +kernel
theorem dX5_endCall_24 : decode cX5_endCall 24 = .ok (.invokevirtual 132, 3) := by decide +kernel
theorem dX5_endCall_27 : decode cX5_endCall 27 = .ok (.ireturn, 1) := by decide +kernel
theorem dX5_handOver_0 : decode cX5_handOver 0 = .ok (.aload_n 0, 1) := by decide +kernel
theorem dX5_handOver_1 : decode cX5_handOver 1 = .ok (.iconst 2, 1) := by decide +kernel
theorem dX5_handOver_2 : decode cX5_handOver 2 = .ok (.iload_n 1, 1) := by decide +kernel
theorem dX5_handOver_3 : decode cX5_handOver 3 = .ok (.iload_n 2, 1) := by decide +kernel
theorem dX5_handOver_4 : decode cX5_handOver 4 = .ok (.invokevirtual 125, 3) := by decide +kernel
theorem dX5_handOver_7 : decode cX5_handOver 7 = .ok (.ifCond .eq 13, 3) := by decide +kernel
theorem dX5_handOver_10 : decode cX5_handOver 10 = .ok (.aload_n 0, 1) := by decide +kernel
theorem dX5_handOver_11 : decode cX5_handOver 11 = .ok (.iconst 2, 1) := by decide +kernel
theorem dX5_handOver_12 : decode cX5_handOver 12 = .ok (.iload_n 1, 1) := by decide +kernel
theorem dX5_handOver_13 : decode cX5_handOver 13 = .ok (.iload_n 2, 1) := by decide +kernel
theorem dX5_handOver_14 : decode cX5_handOver 14 = .ok (.invokevirtual 128, 3) := by decide +kernel
theorem dX5_handOver_17 : decode cX5_handOver 17 = .ok (.goto 10, 3) := by decide +kernel
theorem dX5_handOver_20 : decode cX5_handOver 20 = .ok (.aload_n 0, 1) := by decide +kernel
theorem dX5_handOver_21 : decode cX5_handOver 21 = .ok (.iconst 2, 1) := by decide +kernel
theorem dX5_handOver_22 : decode cX5_handOver 22 = .ok (.iload_n 1, 1) := by decide +kernel
theorem dX5_handOver_23 : decode cX5_handOver 23 = .ok (.iload_n 2, 1) := by decide +kernel
theorem dX5_handOver_24 : decode cX5_handOver 24 = .ok (.invokevirtual 132, 3) := by decide +kernel
theorem dX5_handOver_27 : decode cX5_handOver 27 = .ok (.ireturn, 1) := by decide +kernel
theorem dX5_configure_0 : decode cX5_configure 0 = .ok (.iload_n 1, 1) := by decide +kernel
theorem dX5_configure_1 : decode cX5_configure 1 = .ok (.iconst 1, 1) := by decide +kernel
theorem dX5_configure_2 : decode cX5_configure 2 = .ok (.iconst 5, 1) := by decide +kernel
theorem dX5_configure_3 : decode cX5_configure 3 = .ok (.invokestatic 34, 3) := by decide +kernel
theorem dX5_configure_6 : decode cX5_configure 6 = .ok (.ifCond .eq 31, 3) := by decide +kernel
theorem dX5_configure_9 : decode cX5_configure 9 = .ok (.iload_n 2, 1) := by decide +kernel
theorem dX5_configure_10 : decode cX5_configure 10 = .ok (.iconst 1, 1) := by decide +kernel
theorem dX5_configure_11 : decode cX5_configure 11 = .ok (.iconst 5, 1) := by decide +kernel
theorem dX5_configure_12 : decode cX5_configure 12 = .ok (.invokestatic 34, 3) := by decide +kernel
theorem dX5_configure_15 : decode cX5_configure 15 = .ok (.ifCond .eq 22, 3) := by decide +kernel
theorem dX5_configure_18 : decode cX5_configure 18 = .ok (.iload_n 3, 1) := by decide +kernel
theorem dX5_configure_19 : decode cX5_configure 19 = .ok (.iconst 2, 1) := by decide +kernel
theorem dX5_configure_20 : decode cX5_configure 20 = .ok (.iconst 3, 1) := by decide +kernel
theorem dX5_configure_21 : decode cX5_configure 21 = .ok (.invokestatic 34, 3) := by decide +kernel
theorem dX5_configure_24 : decode cX5_configure 24 = .ok (.ifCond .eq 13, 3) := by decide +kernel
theorem dX5_configure_27 : decode cX5_configure 27 = .ok (.iload 4, 2) := by decide +kernel
theorem dX5_configure_29 : decode cX5_configure 29 = .ok (.iconst 1, 1) := by decide +kernel
theorem dX5_configure_30 : decode cX5_configure 30 = .ok (.iconst 4, 1) := by decide +kernel
theorem dX5_configure_31 : decode cX5_configure 31 = .ok (.invokestatic 34, 3) := by decide +kernel
theorem dX5_configure_34 : decode cX5_configure 34 = .ok (.ifCond .ne 5, 3) := by decide +kernel
theorem dX5_configure_37 : decode cX5_configure 37 = .ok (.iconst (-1), 1) := by decide +kernel
theorem dX5_configure_38 : decode cX5_configure 38 = .ok (.ireturn, 1) := by decide +kernel
theorem dX5_configure_39 : decode cX5_configure 39 = .ok (.aload_n 0, 1) := by decide +kernel
theorem dX5_configure_40 : decode cX5_configure 40 = .ok (.invokevirtual 107, 3) := by decide +kernel
theorem dX5_configure_43 : decode cX5_configure 43 = .ok (.bipush 7, 2) := by decide +kernel
theorem dX5_configure_45 : decode cX5_configure 45 = .ok (.istore 5, 2) := by decide +kernel
theorem dX5_configure_47 : decode cX5_configure 47 = .ok (.iload 5, 2) := by decide +kernel
theorem dX5_configure_49 : decode cX5_configure 49 = .ok (.sipush 194, 3) := by decide +kernel
theorem dX5_configure_52 : decode cX5_configure 52 = .ok (.if_icmp .ge 17, 3) := by decide +kernel
theorem dX5_configure_55 : decode cX5_configure 55 = .ok (.aload_n 0, 1) := by decide +kernel
theorem dX5_configure_56 : decode cX5_configure 56 = .ok (.getfield 7, 3) := by decide +kernel
theorem dX5_configure_59 : decode cX5_configure 59 = .ok (.iload 5, 2) := by decide +kernel
theorem dX5_configure_61 : decode cX5_configure 61 = .ok (.iconst 0, 1) := by decide +kernel
theorem dX5_configure_62 : decode cX5_configure 62 = .ok (.iastore, 1) := by decide +kernel
theorem dX5_configure_63 : decode cX5_configure 63 = .ok (.iinc 5 1, 3) := by decide +kernel
theorem dX5_configure_66 : decode cX5_configure 66 = .ok (.goto (-19), 3) := by decide +kernel
theorem dX5_configure_69 : decode cX5_configure 69 = .ok (.aload_n 0, 1) := by decide +kernel
theorem dX5_configure_70 : decode cX5_configure 70 = .ok (.getfield 7, 3) := by decide +kernel
theorem dX5_configure_73 : decode cX5_configure 73 = .ok (.iconst 0, 1) := by decide +kernel
theorem dX5_configure_74 : decode cX5_configure 74 = .ok (.iload_n 1, 1) := by decide +kernel
theorem dX5_configure_75 : decode cX5_configure 75 = .ok (.iastore, 1) := by decide +kernel
theorem dX5_configure_76 : decode cX5_configure 76 = .ok (.aload_n 0, 1) := by decide +kernel
theorem dX5_configure_77 : decode cX5_configure 77 = .ok (.getfield 7, 3) := by decide +kernel
theorem dX5_configure_80 : decode cX5_configure 80 = .ok (.iconst 1, 1) := by decide +kernel
theorem dX5_configure_81 : decode cX5_configure 81 = .ok (.iload_n 2, 1) := by decide +kernel
theorem dX5_configure_82 : decode cX5_configure 82 = .ok (.iastore, 1) := by decide +kernel
theorem dX5_configure_83 : decode cX5_configure 83 = .ok (.aload_n 0, 1) := by decide +kernel
theorem dX5_configure_84 : decode cX5_configure 84 = .ok (.getfield 7, 3) := by decide +kernel
theorem dX5_configure_87 : decode cX5_configure 87 = .ok (.iconst 2, 1) := by decide +kernel
theorem dX5_configure_88 : decode cX5_configure 88 = .ok (.iload_n 3, 1) := by decide +kernel
theorem dX5_configure_89 : decode cX5_configure 89 = .ok (.iastore, 1) := by decide +kernel
theorem dX5_configure_90 : decode cX5_configure 90 = .ok (.aload_n 0, 1) := by decide +kernel
theorem dX5_configure_91 : decode cX5_configure 91 = .ok (.getfield 7, 3) := by decide +kernel
theorem dX5_configure_94 : decode cX5_configure 94 = .ok (.iconst 3, 1) := by decide +kernel
theorem dX5_configure_95 : decode cX5_configure 95 = .ok (.iload 4, 2) := by decide +kernel
theorem dX5_configure_97 : decode cX5_configure 97 = .ok (.iastore, 1) := by decide +kernel
theorem dX5_configure_98 : decode cX5_configure 98 = .ok (.aload_n 0, 1) := by decide +kernel
theorem dX5_configure_99 : decode cX5_configure 99 = .ok (.invokevirtual 48, 3) := by decide +kernel
theorem dX5_configure_102 : decode cX5_configure 102 = .ok (.ireturn, 1) := by decide +kernel
theorem dX5_change_0 : decode cX5_change 0 = .ok (.aload_n 0, 1) := by decide +kernel
theorem dX5_change_1 : decode cX5_change 1 = .ok (.invokevirtual 107, 3) := by decide +kernel
theorem dX5_change_4 : decode cX5_change 4 = .ok (.aload_n 0, 1) := by decide +kernel
theorem dX5_change_5 : decode cX5_change 5 = .ok (.getfield 7, 3) := by decide +kernel
theorem dX5_change_8 : decode cX5_change 8 = .ok (.iload_n 1, 1) := by decide +kernel
theorem dX5_change_9 : decode cX5_change 9 = .ok (.iaload, 1) := by decide +kernel
theorem dX5_change_10 : decode cX5_change 10 = .ok (.istore_n 3, 1) := by decide +kernel
theorem dX5_change_11 : decode cX5_change 11 = .ok (.aload_n 0, 1) := by decide +kernel
theorem dX5_change_12 : decode cX5_change 12 = .ok (.getfield 7, 3) := by decide +kernel
theorem dX5_change_15 : decode cX5_change 15 = .ok (.iload_n 1, 1) := by decide +kernel
theorem dX5_change_16 : decode cX5_change 16 = .ok (.iload_n 2, 1) := by decide +kernel
theorem dX5_change_17 : decode cX5_change 17 = .ok (.iastore, 1) := by decide +kernel
theorem dX5_change_18 : decode cX5_change 18 = .ok (.iload_n 3, 1) := by decide +kernel
theorem dX5_change_19 : decode cX5_change 19 = .ok (.ireturn, 1) := by decide +kernel
theorem dX5_setStrategy_0 : decode cX5_setStrategy 0 = .ok (.iload_n 1, 1) := by decide +kernel
theorem dX5_setStrategy_1 : decode cX5_setStrategy 1 = .ok (.iconst 0, 1) := by decide +kernel
theorem dX5_setStrategy_2 : decode cX5_setStrategy 2 = .ok (.iconst 2, 1) := by decide +kernel
theorem dX5_setStrategy_3 : decode cX5_setStrategy 3 = .ok (.invokestatic 34, 3) := by decide +kernel
theorem dX5_setStrategy_6 : decode cX5_setStrategy 6 = .ok (.ifCond .eq 12, 3) := by decide +kernel
theorem dX5_setStrategy_9 : decode cX5_setStrategy 9 = .ok (.aload_n 0, 1) := by decide +kernel
theorem dX5_setStrategy_10 : decode cX5_setStrategy 10 = .ok (.iconst 4, 1) := by decide +kernel
theorem dX5_setStrategy_11 : decode cX5_setStrategy 11 = .ok (.iload_n 1, 1) := by decide +kernel
theorem dX5_setStrategy_12 : decode cX5_setStrategy 12 = .ok (.invokevirtual 135, 3) := by decide +kernel
theorem dX5_setStrategy_15 : decode cX5_setStrategy 15 = .ok (.goto 4, 3) := by decide +kernel
theorem dX5_setStrategy_18 : decode cX5_setStrategy 18 = .ok (.iconst (-1), 1) := by decide +kernel
theorem dX5_setStrategy_19 : decode cX5_setStrategy 19 = .ok (.ireturn, 1) := by decide +kernel
theorem dX5_setReserve_0 : decode cX5_setReserve 0 = .ok (.iload_n 1, 1) := by decide +kernel
theorem dX5_setReserve_1 : decode cX5_setReserve 1 = .ok (.iconst 0, 1) := by decide +kernel
theorem dX5_setReserve_2 : decode cX5_setReserve 2 = .ok (.iconst 3, 1) := by decide +kernel
theorem dX5_setReserve_3 : decode cX5_setReserve 3 = .ok (.invokestatic 34, 3) := by decide +kernel
theorem dX5_setReserve_6 : decode cX5_setReserve 6 = .ok (.ifCond .eq 12, 3) := by decide +kernel
theorem dX5_setReserve_9 : decode cX5_setReserve 9 = .ok (.aload_n 0, 1) := by decide +kernel
theorem dX5_setReserve_10 : decode cX5_setReserve 10 = .ok (.iconst 5, 1) := by decide +kernel
theorem dX5_setReserve_11 : decode cX5_setReserve 11 = .ok (.iload_n 1, 1) := by decide +kernel
theorem dX5_setReserve_12 : decode cX5_setReserve 12 = .ok (.invokevirtual 135, 3) := by decide +kernel
theorem dX5_setReserve_15 : decode cX5_setReserve 15 = .ok (.goto 4, 3) := by decide +kernel
theorem dX5_setReserve_18 : decode cX5_setReserve 18 = .ok (.iconst (-1), 1) := by decide +kernel
theorem dX5_setReserve_19 : decode cX5_setReserve 19 = .ok (.ireturn, 1) := by decide +kernel
theorem dX5_setReturning_0 : decode cX5_setReturning 0 = .ok (.iload_n 1, 1) := by decide +kernel
theorem dX5_setReturning_1 : decode cX5_setReturning 1 = .ok (.iconst 0, 1) := by decide +kernel
theorem dX5_setReturning_2 : decode cX5_setReturning 2 = .ok (.iconst 1, 1) := by decide +kernel
theorem dX5_setReturning_3 : decode cX5_setReturning 3 = .ok (.invokestatic 34, 3) := by decide +kernel
theorem dX5_setReturning_6 : decode cX5_setReturning 6 = .ok (.ifCond .ne 5, 3) := by decide +kernel
theorem dX5_setReturning_9 : decode cX5_setReturning 9 = .ok (.iconst (-1), 1) := by decide +kernel
theorem dX5_setReturning_10 : decode cX5_setReturning 10 = .ok (.ireturn, 1) := by decide +kernel
theorem dX5_setReturning_11 : decode cX5_setReturning 11 = .ok (.aload_n 0, 1) := by decide +kernel
theorem dX5_setReturning_12 : decode cX5_setReturning 12 = .ok (.invokevirtual 107, 3) := by decide +kernel
theorem dX5_setReturning_15 : decode cX5_setReturning 15 = .ok (.aload_n 0, 1) := by decide +kernel
theorem dX5_setReturning_16 : decode cX5_setReturning 16 = .ok (.getfield 7, 3) := by decide +kernel
theorem dX5_setReturning_19 : decode cX5_setReturning 19 = .ok (.bipush 6, 2) := by decide +kernel
theorem dX5_setReturning_21 : decode cX5_setReturning 21 = .ok (.iload_n 1, 1) := by decide +kernel
theorem dX5_setReturning_22 : decode cX5_setReturning 22 = .ok (.iastore, 1) := by decide +kernel
theorem dX5_setReturning_23 : decode cX5_setReturning 23 = .ok (.aload_n 0, 1) := by decide +kernel
theorem dX5_setReturning_24 : decode cX5_setReturning 24 = .ok (.invokevirtual 104, 3) := by decide +kernel
theorem dX5_setReturning_27 : decode cX5_setReturning 27 = .ok (.ireturn, 1) := by decide +kernel
theorem dX5_cellCount_0 : decode cX5_cellCount 0 = .ok (.aload_n 0, 1) := by decide +kernel
theorem dX5_cellCount_1 : decode cX5_cellCount 1 = .ok (.invokevirtual 42, 3) := by decide +kernel
theorem dX5_cellCount_4 : decode cX5_cellCount 4 = .ok (.ireturn, 1) := by decide +kernel
theorem dX5_channelCount_0 : decode cX5_channelCount 0 = .ok (.aload_n 0, 1) := by decide +kernel
theorem dX5_channelCount_1 : decode cX5_channelCount 1 = .ok (.invokevirtual 48, 3) := by decide +kernel
theorem dX5_channelCount_4 : decode cX5_channelCount 4 = .ok (.ireturn, 1) := by decide +kernel
theorem dX5_groupOf_0 : decode cX5_groupOf 0 = .ok (.aload_n 0, 1) := by decide +kernel
theorem dX5_groupOf_1 : decode cX5_groupOf 1 = .ok (.iload_n 1, 1) := by decide +kernel
theorem dX5_groupOf_2 : decode cX5_groupOf 2 = .ok (.invokevirtual 119, 3) := by decide +kernel
theorem dX5_groupOf_5 : decode cX5_groupOf 5 = .ok (.ifCond .eq 11, 3) := by decide +kernel
theorem dX5_groupOf_8 : decode cX5_groupOf 8 = .ok (.aload_n 0, 1) := by decide +kernel
theorem dX5_groupOf_9 : decode cX5_groupOf 9 = .ok (.iload_n 1, 1) := by decide +kernel
theorem dX5_groupOf_10 : decode cX5_groupOf 10 = .ok (.invokevirtual 55, 3) := by decide +kernel
theorem dX5_groupOf_13 : decode cX5_groupOf 13 = .ok (.goto 4, 3) := by decide +kernel
theorem dX5_groupOf_16 : decode cX5_groupOf 16 = .ok (.iconst (-1), 1) := by decide +kernel
theorem dX5_groupOf_17 : decode cX5_groupOf 17 = .ok (.ireturn, 1) := by decide +kernel
theorem dX5_distance_0 : decode cX5_distance 0 = .ok (.aload_n 0, 1) := by decide +kernel
theorem dX5_distance_1 : decode cX5_distance 1 = .ok (.iload_n 1, 1) := by decide +kernel
theorem dX5_distance_2 : decode cX5_distance 2 = .ok (.invokevirtual 119, 3) := by decide +kernel
theorem dX5_distance_5 : decode cX5_distance 5 = .ok (.ifCond .eq 20, 3) := by decide +kernel
theorem dX5_distance_8 : decode cX5_distance 8 = .ok (.aload_n 0, 1) := by decide +kernel
theorem dX5_distance_9 : decode cX5_distance 9 = .ok (.iload_n 2, 1) := by decide +kernel
theorem dX5_distance_10 : decode cX5_distance 10 = .ok (.invokevirtual 119, 3) := by decide +kernel
theorem dX5_distance_13 : decode cX5_distance 13 = .ok (.ifCond .eq 12, 3) := by decide +kernel
theorem dX5_distance_16 : decode cX5_distance 16 = .ok (.aload_n 0, 1) := by decide +kernel
theorem dX5_distance_17 : decode cX5_distance 17 = .ok (.iload_n 1, 1) := by decide +kernel
theorem dX5_distance_18 : decode cX5_distance 18 = .ok (.iload_n 2, 1) := by decide +kernel
theorem dX5_distance_19 : decode cX5_distance 19 = .ok (.invokevirtual 58, 3) := by decide +kernel
theorem dX5_distance_22 : decode cX5_distance 22 = .ok (.goto 4, 3) := by decide +kernel
theorem dX5_distance_25 : decode cX5_distance 25 = .ok (.iconst (-1), 1) := by decide +kernel
theorem dX5_distance_26 : decode cX5_distance 26 = .ok (.ireturn, 1) := by decide +kernel
theorem dX5_cellOf_0 : decode cX5_cellOf 0 = .ok (.aload_n 0, 1) := by decide +kernel
theorem dX5_cellOf_1 : decode cX5_cellOf 1 = .ok (.iload_n 1, 1) := by decide +kernel
theorem dX5_cellOf_2 : decode cX5_cellOf 2 = .ok (.invokevirtual 122, 3) := by decide +kernel
theorem dX5_cellOf_5 : decode cX5_cellOf 5 = .ok (.ifCond .eq 17, 3) := by decide +kernel
theorem dX5_cellOf_8 : decode cX5_cellOf 8 = .ok (.aload_n 0, 1) := by decide +kernel
theorem dX5_cellOf_9 : decode cX5_cellOf 9 = .ok (.getfield 7, 3) := by decide +kernel
theorem dX5_cellOf_12 : decode cX5_cellOf 12 = .ok (.bipush 14, 2) := by decide +kernel
theorem dX5_cellOf_14 : decode cX5_cellOf 14 = .ok (.iload_n 1, 1) := by decide +kernel
theorem dX5_cellOf_15 : decode cX5_cellOf 15 = .ok (.iadd, 1) := by decide +kernel
theorem dX5_cellOf_16 : decode cX5_cellOf 16 = .ok (.iaload, 1) := by decide +kernel
theorem dX5_cellOf_17 : decode cX5_cellOf 17 = .ok (.iconst 1, 1) := by decide +kernel
theorem dX5_cellOf_18 : decode cX5_cellOf 18 = .ok (.isub, 1) := by decide +kernel
theorem dX5_cellOf_19 : decode cX5_cellOf 19 = .ok (.goto 5, 3) := by decide +kernel
theorem dX5_cellOf_22 : decode cX5_cellOf 22 = .ok (.bipush (-4), 2) := by decide +kernel
theorem dX5_cellOf_24 : decode cX5_cellOf 24 = .ok (.ireturn, 1) := by decide +kernel
theorem dX5_channelOf_0 : decode cX5_channelOf 0 = .ok (.aload_n 0, 1) := by decide +kernel
theorem dX5_channelOf_1 : decode cX5_channelOf 1 = .ok (.iload_n 1, 1) := by decide +kernel
theorem dX5_channelOf_2 : decode cX5_channelOf 2 = .ok (.invokevirtual 122, 3) := by decide +kernel
theorem dX5_channelOf_5 : decode cX5_channelOf 5 = .ok (.ifCond .eq 11, 3) := by decide +kernel
theorem dX5_channelOf_8 : decode cX5_channelOf 8 = .ok (.aload_n 0, 1) := by decide +kernel
theorem dX5_channelOf_9 : decode cX5_channelOf 9 = .ok (.iload_n 1, 1) := by decide +kernel
theorem dX5_channelOf_10 : decode cX5_channelOf 10 = .ok (.invokevirtual 97, 3) := by decide +kernel
theorem dX5_channelOf_13 : decode cX5_channelOf 13 = .ok (.goto 5, 3) := by decide +kernel
theorem dX5_channelOf_16 : decode cX5_channelOf 16 = .ok (.bipush (-4), 2) := by decide +kernel
theorem dX5_channelOf_18 : decode cX5_channelOf 18 = .ok (.ireturn, 1) := by decide +kernel
theorem dX5_isBorrowed_0 : decode cX5_isBorrowed 0 = .ok (.aload_n 0, 1) := by decide +kernel
theorem dX5_isBorrowed_1 : decode cX5_isBorrowed 1 = .ok (.iload_n 1, 1) := by decide +kernel
theorem dX5_isBorrowed_2 : decode cX5_isBorrowed 2 = .ok (.invokevirtual 122, 3) := by decide +kernel
theorem dX5_isBorrowed_5 : decode cX5_isBorrowed 5 = .ok (.ifCond .ne 8, 3) := by decide +kernel
theorem dX5_isBorrowed_8 : decode cX5_isBorrowed 8 = .ok (.bipush (-4), 2) := by decide +kernel
theorem dX5_isBorrowed_10 : decode cX5_isBorrowed 10 = .ok (.goto 16, 3) := by decide +kernel
theorem dX5_isBorrowed_13 : decode cX5_isBorrowed 13 = .ok (.aload_n 0, 1) := by decide +kernel
theorem dX5_isBorrowed_14 : decode cX5_isBorrowed 14 = .ok (.iload_n 1, 1) := by decide +kernel
theorem dX5_isBorrowed_15 : decode cX5_isBorrowed 15 = .ok (.invokevirtual 87, 3) := by decide +kernel
theorem dX5_isBorrowed_18 : decode cX5_isBorrowed 18 = .ok (.ifCond .eq 7, 3) := by decide +kernel
theorem dX5_isBorrowed_21 : decode cX5_isBorrowed 21 = .ok (.iconst 1, 1) := by decide +kernel
theorem dX5_isBorrowed_22 : decode cX5_isBorrowed 22 = .ok (.goto 4, 3) := by decide +kernel
theorem dX5_isBorrowed_25 : decode cX5_isBorrowed 25 = .ok (.iconst 0, 1) := by decide +kernel
theorem dX5_isBorrowed_26 : decode cX5_isBorrowed 26 = .ok (.ireturn, 1) := by decide +kernel
theorem dX5_isInFixedScheme_0 : decode cX5_isInFixedScheme 0 = .ok (.aload_n 0, 1) := by decide +kernel
theorem dX5_isInFixedScheme_1 : decode cX5_isInFixedScheme 1 = .ok (.iload_n 1, 1) := by decide +kernel
theorem dX5_isInFixedScheme_2 : decode cX5_isInFixedScheme 2 = .ok (.invokevirtual 122, 3) := by decide +kernel
theorem dX5_isInFixedScheme_5 : decode cX5_isInFixedScheme 5 = .ok (.ifCond .eq 16, 3) := by decide +kernel
theorem dX5_isInFixedScheme_8 : decode cX5_isInFixedScheme 8 = .ok (.aload_n 0, 1) := by decide +kernel
theorem dX5_isInFixedScheme_9 : decode cX5_isInFixedScheme 9 = .ok (.getfield 7, 3) := by decide +kernel
theorem dX5_isInFixedScheme_12 : decode cX5_isInFixedScheme 12 = .ok (.sipush 134, 3) := by decide +kernel
theorem dX5_isInFixedScheme_15 : decode cX5_isInFixedScheme 15 = .ok (.iload_n 1, 1) := by decide +kernel
theorem dX5_isInFixedScheme_16 : decode cX5_isInFixedScheme 16 = .ok (.iadd, 1) := by decide +kernel
theorem dX5_isInFixedScheme_17 : decode cX5_isInFixedScheme 17 = .ok (.iaload, 1) := by decide +kernel
theorem dX5_isInFixedScheme_18 : decode cX5_isInFixedScheme 18 = .ok (.goto 5, 3) := by decide +kernel
theorem dX5_isInFixedScheme_21 : decode cX5_isInFixedScheme 21 = .ok (.bipush (-4), 2) := by decide +kernel
theorem dX5_isInFixedScheme_23 : decode cX5_isInFixedScheme 23 = .ok (.ireturn, 1) := by decide +kernel
theorem dX5_isAvailable_0 : decode cX5_isAvailable 0 = .ok (.aload_n 0, 1) := by decide +kernel
theorem dX5_isAvailable_1 : decode cX5_isAvailable 1 = .ok (.iload_n 1, 1) := by decide +kernel
theorem dX5_isAvailable_2 : decode cX5_isAvailable 2 = .ok (.invokevirtual 119, 3) := by decide +kernel
theorem dX5_isAvailable_5 : decode cX5_isAvailable 5 = .ok (.ifCond .eq 11, 3) := by decide +kernel
theorem dX5_isAvailable_8 : decode cX5_isAvailable 8 = .ok (.aload_n 0, 1) := by decide +kernel
theorem dX5_isAvailable_9 : decode cX5_isAvailable 9 = .ok (.iload_n 2, 1) := by decide +kernel
theorem dX5_isAvailable_10 : decode cX5_isAvailable 10 = .ok (.invokevirtual 138, 3) := by decide +kernel
theorem dX5_isAvailable_13 : decode cX5_isAvailable 13 = .ok (.ifCond .ne 7, 3) := by decide +kernel
theorem dX5_isAvailable_16 : decode cX5_isAvailable 16 = .ok (.iconst (-1), 1) := by decide +kernel
theorem dX5_isAvailable_17 : decode cX5_isAvailable 17 = .ok (.goto 17, 3) := by decide +kernel
theorem dX5_isAvailable_20 : decode cX5_isAvailable 20 = .ok (.aload_n 0, 1) := by decide +kernel
theorem dX5_isAvailable_21 : decode cX5_isAvailable 21 = .ok (.iload_n 1, 1) := by decide +kernel
theorem dX5_isAvailable_22 : decode cX5_isAvailable 22 = .ok (.iload_n 2, 1) := by decide +kernel
theorem dX5_isAvailable_23 : decode cX5_isAvailable 23 = .ok (.invokevirtual 72, 3) := by decide +kernel
theorem dX5_isAvailable_26 : decode cX5_isAvailable 26 = .ok (.ifCond .eq 7, 3) := by decide +kernel
theorem dX5_isAvailable_29 : decode cX5_isAvailable 29 = .ok (.iconst 1, 1) := by decide +kernel
theorem dX5_isAvailable_30 : decode cX5_isAvailable 30 = .ok (.goto 4, 3) := by decide +kernel
theorem dX5_isAvailable_33 : decode cX5_isAvailable 33 = .ok (.iconst 0, 1) := by decide +kernel
theorem dX5_isAvailable_34 : decode cX5_isAvailable 34 = .ok (.ireturn, 1) := by decide +kernel
theorem dX5_lockCount_0 : decode cX5_lockCount 0 = .ok (.aload_n 0, 1) := by decide +kernel
theorem dX5_lockCount_1 : decode cX5_lockCount 1 = .ok (.iload_n 1, 1) := by decide +kernel
theorem dX5_lockCount_2 : decode cX5_lockCount 2 = .ok (.invokevirtual 119, 3) := by decide +kernel
theorem dX5_lockCount_5 : decode cX5_lockCount 5 = .ok (.ifCond .eq 20, 3) := by decide +kernel
theorem dX5_lockCount_8 : decode cX5_lockCount 8 = .ok (.aload_n 0, 1) := by decide +kernel
theorem dX5_lockCount_9 : decode cX5_lockCount 9 = .ok (.iload_n 2, 1) := by decide +kernel
theorem dX5_lockCount_10 : decode cX5_lockCount 10 = .ok (.invokevirtual 138, 3) := by decide +kernel
theorem dX5_lockCount_13 : decode cX5_lockCount 13 = .ok (.ifCond .eq 12, 3) := by decide +kernel
theorem dX5_lockCount_16 : decode cX5_lockCount 16 = .ok (.aload_n 0, 1) := by decide +kernel
theorem dX5_lockCount_17 : decode cX5_lockCount 17 = .ok (.iload_n 1, 1) := by decide +kernel
theorem dX5_lockCount_18 : decode cX5_lockCount 18 = .ok (.iload_n 2, 1) := by decide +kernel
theorem dX5_lockCount_19 : decode cX5_lockCount 19 = .ok (.invokevirtual 66, 3) := by decide +kernel
theorem dX5_lockCount_22 : decode cX5_lockCount 22 = .ok (.goto 4, 3) := by decide +kernel
theorem dX5_lockCount_25 : decode cX5_lockCount 25 = .ok (.iconst (-1), 1) := by decide +kernel
theorem dX5_lockCount_26 : decode cX5_lockCount 26 = .ok (.ireturn, 1) := by decide +kernel
theorem dX5_burden_0 : decode cX5_burden 0 = .ok (.aload_n 0, 1) := by decide +kernel
theorem dX5_burden_1 : decode cX5_burden 1 = .ok (.iload_n 1, 1) := by decide +kernel
theorem dX5_burden_2 : decode cX5_burden 2 = .ok (.invokevirtual 119, 3) := by decide +kernel
theorem dX5_burden_5 : decode cX5_burden 5 = .ok (.ifCond .eq 20, 3) := by decide +kernel
theorem dX5_burden_8 : decode cX5_burden 8 = .ok (.aload_n 0, 1) := by decide +kernel
theorem dX5_burden_9 : decode cX5_burden 9 = .ok (.iload_n 2, 1) := by decide +kernel
