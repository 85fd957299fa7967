theorem dX0_init_0 : decode cX0_init 0 = .ok (.aload_n 0, 1) := by decide +kernel
theorem dX0_init_1 : decode cX0_init 1 = .ok (.invokespecial 3, 3) := by decide +kernel
theorem dX0_init_4 : decode cX0_init 4 = .ok (.aload_n 0, 1) := by decide +kernel
theorem dX0_init_5 : decode cX0_init 5 = .ok (.bipush 6, 2) := by decide +kernel
theorem dX0_init_7 : decode cX0_init 7 = .ok (.anewarray 9, 3) := by decide +kernel
theorem dX0_init_10 : decode cX0_init 10 = .ok (.putfield 11, 3) := by decide +kernel
theorem dX0_init_13 : decode cX0_init 13 = .ok (.iconst 0, 1) := by decide +kernel
theorem dX0_init_14 : decode cX0_init 14 = .ok (.istore_n 2, 1) := by decide +kernel
theorem dX0_init_15 : decode cX0_init 15 = .ok (.iload_n 2, 1) := by decide +kernel
theorem dX0_init_16 : decode cX0_init 16 = .ok (.bipush 6, 2) := by decide +kernel
theorem dX0_init_18 : decode cX0_init 18 = .ok (.if_icmp .ge 23, 3) := by decide +kernel
theorem dX0_init_21 : decode cX0_init 21 = .ok (.aload_n 0, 1) := by decide +kernel
theorem dX0_init_22 : decode cX0_init 22 = .ok (.getfield 11, 3) := by decide +kernel
theorem dX0_init_25 : decode cX0_init 25 = .ok (.iload_n 2, 1) := by decide +kernel
theorem dX0_init_26 : decode cX0_init 26 = .ok (.new 9, 3) := by decide +kernel
theorem dX0_init_29 : decode cX0_init 29 = .ok (.dup, 1) := by decide +kernel
theorem dX0_init_30 : decode cX0_init 30 = .ok (.aload_n 1, 1) := by decide +kernel
theorem dX0_init_31 : decode cX0_init 31 = .ok (.invokespecial 17, 3) := by decide +kernel
theorem dX0_init_34 : decode cX0_init 34 = .ok (.aastore, 1) := by decide +kernel
theorem dX0_init_35 : decode cX0_init 35 = .ok (.iinc 2 1, 3) := by decide +kernel
theorem dX0_init_38 : decode cX0_init 38 = .ok (.goto (-23), 3) := by decide +kernel
theorem dX0_init_41 : decode cX0_init 41 = .ok (.return_, 1) := by decide +kernel
theorem dX0_push_0 : decode cX0_push 0 = .ok (.aload_n 0, 1) := by decide +kernel
theorem dX0_push_1 : decode cX0_push 1 = .ok (.aload_n 0, 1) := by decide +kernel
theorem dX0_push_2 : decode cX0_push 2 = .ok (.getfield 20, 3) := by decide +kernel
theorem dX0_push_5 : decode cX0_push 5 = .ok (.iconst 1, 1) := by decide +kernel
theorem dX0_push_6 : decode cX0_push 6 = .ok (.iadd, 1) := by decide +kernel
theorem dX0_push_7 : decode cX0_push 7 = .ok (.bipush 6, 2) := by decide +kernel
theorem dX0_push_9 : decode cX0_push 9 = .ok (.if_icmp .ge 12, 3) := by decide +kernel
theorem dX0_push_12 : decode cX0_push 12 = .ok (.aload_n 0, 1) := by decide +kernel
theorem dX0_push_13 : decode cX0_push 13 = .ok (.getfield 20, 3) := by decide +kernel
theorem dX0_push_16 : decode cX0_push 16 = .ok (.iconst 1, 1) := by decide +kernel
theorem dX0_push_17 : decode cX0_push 17 = .ok (.iadd, 1) := by decide +kernel
theorem dX0_push_18 : decode cX0_push 18 = .ok (.goto 4, 3) := by decide +kernel
theorem dX0_push_21 : decode cX0_push 21 = .ok (.iconst 0, 1) := by decide +kernel
theorem dX0_push_22 : decode cX0_push 22 = .ok (.putfield 20, 3) := by decide +kernel
theorem dX0_push_25 : decode cX0_push 25 = .ok (.aload_n 0, 1) := by decide +kernel
theorem dX0_push_26 : decode cX0_push 26 = .ok (.invokevirtual 24, 3) := by decide +kernel
theorem dX0_push_29 : decode cX0_push 29 = .ok (.astore_n 2, 1) := by decide +kernel
theorem dX0_push_30 : decode cX0_push 30 = .ok (.aload_n 2, 1) := by decide +kernel
theorem dX0_push_31 : decode cX0_push 31 = .ok (.ifnull 23, 3) := by decide +kernel
theorem dX0_push_34 : decode cX0_push 34 = .ok (.aload_n 2, 1) := by decide +kernel
theorem dX0_push_35 : decode cX0_push 35 = .ok (.aload_n 1, 1) := by decide +kernel
theorem dX0_push_36 : decode cX0_push 36 = .ok (.invokevirtual 28, 3) := by decide +kernel
theorem dX0_push_39 : decode cX0_push 39 = .ok (.aload_n 0, 1) := by decide +kernel
theorem dX0_push_40 : decode cX0_push 40 = .ok (.aload_n 0, 1) := by decide +kernel
theorem dX0_push_41 : decode cX0_push 41 = .ok (.getfield 32, 3) := by decide +kernel
theorem dX0_push_44 : decode cX0_push 44 = .ok (.iconst 1, 1) := by decide +kernel
theorem dX0_push_45 : decode cX0_push 45 = .ok (.iadd, 1) := by decide +kernel
theorem dX0_push_46 : decode cX0_push 46 = .ok (.bipush 6, 2) := by decide +kernel
theorem dX0_push_48 : decode cX0_push 48 = .ok (.invokestatic 35, 3) := by decide +kernel
theorem dX0_push_51 : decode cX0_push 51 = .ok (.putfield 32, 3) := by decide +kernel
theorem dX0_push_54 : decode cX0_push 54 = .ok (.return_, 1) := by decide +kernel
theorem dX0_pop_0 : decode cX0_pop 0 = .ok (.aload_n 0, 1) := by decide +kernel
theorem dX0_pop_1 : decode cX0_pop 1 = .ok (.invokevirtual 24, 3) := by decide +kernel
theorem dX0_pop_4 : decode cX0_pop 4 = .ok (.astore_n 2, 1) := by decide +kernel
theorem dX0_pop_5 : decode cX0_pop 5 = .ok (.aload_n 0, 1) := by decide +kernel
theorem dX0_pop_6 : decode cX0_pop 6 = .ok (.getfield 32, 3) := by decide +kernel
theorem dX0_pop_9 : decode cX0_pop 9 = .ok (.ifCond .le 7, 3) := by decide +kernel
theorem dX0_pop_12 : decode cX0_pop 12 = .ok (.aload_n 2, 1) := by decide +kernel
theorem dX0_pop_13 : decode cX0_pop 13 = .ok (.ifnonnull 5, 3) := by decide +kernel
theorem dX0_pop_16 : decode cX0_pop 16 = .ok (.iconst 0, 1) := by decide +kernel
theorem dX0_pop_17 : decode cX0_pop 17 = .ok (.ireturn, 1) := by decide +kernel
theorem dX0_pop_18 : decode cX0_pop 18 = .ok (.aload_n 1, 1) := by decide +kernel
theorem dX0_pop_19 : decode cX0_pop 19 = .ok (.aload_n 2, 1) := by decide +kernel
theorem dX0_pop_20 : decode cX0_pop 20 = .ok (.invokevirtual 28, 3) := by decide +kernel
theorem dX0_pop_23 : decode cX0_pop 23 = .ok (.aload_n 0, 1) := by decide +kernel
theorem dX0_pop_24 : decode cX0_pop 24 = .ok (.dup, 1) := by decide +kernel
theorem dX0_pop_25 : decode cX0_pop 25 = .ok (.getfield 32, 3) := by decide +kernel
theorem dX0_pop_28 : decode cX0_pop 28 = .ok (.iconst 1, 1) := by decide +kernel
theorem dX0_pop_29 : decode cX0_pop 29 = .ok (.isub, 1) := by decide +kernel
theorem dX0_pop_30 : decode cX0_pop 30 = .ok (.putfield 32, 3) := by decide +kernel
theorem dX0_pop_33 : decode cX0_pop 33 = .ok (.aload_n 0, 1) := by decide +kernel
theorem dX0_pop_34 : decode cX0_pop 34 = .ok (.aload_n 0, 1) := by decide +kernel
theorem dX0_pop_35 : decode cX0_pop 35 = .ok (.getfield 20, 3) := by decide +kernel
theorem dX0_pop_38 : decode cX0_pop 38 = .ok (.ifCond .le 12, 3) := by decide +kernel
theorem dX0_pop_41 : decode cX0_pop 41 = .ok (.aload_n 0, 1) := by decide +kernel
theorem dX0_pop_42 : decode cX0_pop 42 = .ok (.getfield 20, 3) := by decide +kernel
theorem dX0_pop_45 : decode cX0_pop 45 = .ok (.iconst 1, 1) := by decide +kernel
theorem dX0_pop_46 : decode cX0_pop 46 = .ok (.isub, 1) := by decide +kernel
theorem dX0_pop_47 : decode cX0_pop 47 = .ok (.goto 4, 3) := by decide +kernel
theorem dX0_pop_50 : decode cX0_pop 50 = .ok (.iconst 5, 1) := by decide +kernel
theorem dX0_pop_51 : decode cX0_pop 51 = .ok (.putfield 20, 3) := by decide +kernel
theorem dX0_pop_54 : decode cX0_pop 54 = .ok (.iconst 1, 1) := by decide +kernel
theorem dX0_pop_55 : decode cX0_pop 55 = .ok (.ireturn, 1) := by decide +kernel
theorem dX0_newestState_0 : decode cX0_newestState 0 = .ok (.aload_n 0, 1) := by decide +kernel
theorem dX0_newestState_1 : decode cX0_newestState 1 = .ok (.getfield 20, 3) := by decide +kernel
theorem dX0_newestState_4 : decode cX0_newestState 4 = .ok (.iconst 0, 1) := by decide +kernel
theorem dX0_newestState_5 : decode cX0_newestState 5 = .ok (.iconst 5, 1) := by decide +kernel
theorem dX0_newestState_6 : decode cX0_newestState 6 = .ok (.invokestatic 41, 3) := by decide +kernel
theorem dX0_newestState_9 : decode cX0_newestState 9 = .ok (.ifCond .eq 15, 3) := by decide +kernel
theorem dX0_newestState_12 : decode cX0_newestState 12 = .ok (.aload_n 0, 1) := by decide +kernel
theorem dX0_newestState_13 : decode cX0_newestState 13 = .ok (.getfield 11, 3) := by decide +kernel
theorem dX0_newestState_16 : decode cX0_newestState 16 = .ok (.aload_n 0, 1) := by decide +kernel
theorem dX0_newestState_17 : decode cX0_newestState 17 = .ok (.getfield 20, 3) := by decide +kernel
theorem dX0_newestState_20 : decode cX0_newestState 20 = .ok (.aaload, 1) := by decide +kernel
theorem dX0_newestState_21 : decode cX0_newestState 21 = .ok (.goto 4, 3) := by decide +kernel
theorem dX0_newestState_24 : decode cX0_newestState 24 = .ok (.aconst_null, 1) := by decide +kernel
theorem dX0_newestState_25 : decode cX0_newestState 25 = .ok (.areturn, 1) := by decide +kernel
theorem dX1_init_0 : decode cX1_init 0 = .ok (.aload_n 0, 1) := by decide +kernel
theorem dX1_init_1 : decode cX1_init 1 = .ok (.invokespecial 3, 3) := by decide +kernel
theorem dX1_init_4 : decode cX1_init 4 = .ok (.aload_n 0, 1) := by decide +kernel
theorem dX1_init_5 : decode cX1_init 5 = .ok (.bipush 25, 2) := by decide +kernel
theorem dX1_init_7 : decode cX1_init 7 = .ok (.newarray .int, 2) := by decide +kernel
theorem dX1_init_9 : decode cX1_init 9 = .ok (.putfield 9, 3) := by decide +kernel
theorem dX1_init_12 : decode cX1_init 12 = .ok (.aload_n 0, 1) := by decide +kernel
theorem dX1_init_13 : decode cX1_init 13 = .ok (.bipush 25, 2) := by decide +kernel
theorem dX1_init_15 : decode cX1_init 15 = .ok (.newarray .int, 2) := by decide +kernel
theorem dX1_init_17 : decode cX1_init 17 = .ok (.putfield 15, 3) := by decide +kernel
theorem dX1_init_20 : decode cX1_init 20 = .ok (.aload_n 0, 1) := by decide +kernel
theorem dX1_init_21 : decode cX1_init 21 = .ok (.bipush 25, 2) := by decide +kernel
theorem dX1_init_23 : decode cX1_init 23 = .ok (.newarray .int, 2) := by decide +kernel
theorem dX1_init_25 : decode cX1_init 25 = .ok (.putfield 18, 3) := by decide +kernel
theorem dX1_init_28 : decode cX1_init 28 = .ok (.aload_n 0, 1) := by decide +kernel
theorem dX1_init_29 : decode cX1_init 29 = .ok (.bipush 25, 2) := by decide +kernel
theorem dX1_init_31 : decode cX1_init 31 = .ok (.newarray .int, 2) := by decide +kernel
theorem dX1_init_33 : decode cX1_init 33 = .ok (.putfield 21, 3) := by decide +kernel
theorem dX1_init_36 : decode cX1_init 36 = .ok (.aload_n 0, 1) := by decide +kernel
theorem dX1_init_37 : decode cX1_init 37 = .ok (.bipush 25, 2) := by decide +kernel
theorem dX1_init_39 : decode cX1_init 39 = .ok (.newarray .int, 2) := by decide +kernel
theorem dX1_init_41 : decode cX1_init 41 = .ok (.putfield 24, 3) := by decide +kernel
theorem dX1_init_44 : decode cX1_init 44 = .ok (.iload_n 3, 1) := by decide +kernel
theorem dX1_init_45 : decode cX1_init 45 = .ok (.iconst 2, 1) := by decide +kernel
theorem dX1_init_46 : decode cX1_init 46 = .ok (.if_icmp .ne 7, 3) := by decide +kernel
theorem dX1_init_49 : decode cX1_init 49 = .ok (.iconst 3, 1) := by decide +kernel
theorem dX1_init_50 : decode cX1_init 50 = .ok (.goto 5, 3) := by decide +kernel
theorem dX1_init_53 : decode cX1_init 53 = .ok (.bipush 7, 2) := by decide +kernel
theorem dX1_init_55 : decode cX1_init 55 = .ok (.istore 5, 2) := by decide +kernel
theorem dX1_init_57 : decode cX1_init 57 = .ok (.aload_n 0, 1) := by decide +kernel
theorem dX1_init_58 : decode cX1_init 58 = .ok (.iload_n 1, 1) := by decide +kernel
theorem dX1_init_59 : decode cX1_init 59 = .ok (.iload_n 2, 1) := by decide +kernel
theorem dX1_init_60 : decode cX1_init 60 = .ok (.imul, 1) := by decide +kernel
theorem dX1_init_61 : decode cX1_init 61 = .ok (.putfield 27, 3) := by decide +kernel
theorem dX1_init_64 : decode cX1_init 64 = .ok (.aload_n 0, 1) := by decide +kernel
theorem dX1_init_65 : decode cX1_init 65 = .ok (.iload 5, 2) := by decide +kernel
theorem dX1_init_67 : decode cX1_init 67 = .ok (.iload 4, 2) := by decide +kernel
theorem dX1_init_69 : decode cX1_init 69 = .ok (.imul, 1) := by decide +kernel
theorem dX1_init_70 : decode cX1_init 70 = .ok (.putfield 31, 3) := by decide +kernel
theorem dX1_init_73 : decode cX1_init 73 = .ok (.aload_n 0, 1) := by decide +kernel
theorem dX1_init_74 : decode cX1_init 74 = .ok (.iload 4, 2) := by decide +kernel
theorem dX1_init_76 : decode cX1_init 76 = .ok (.putfield 34, 3) := by decide +kernel
theorem dX1_init_79 : decode cX1_init 79 = .ok (.aload_n 0, 1) := by decide +kernel
theorem dX1_init_80 : decode cX1_init 80 = .ok (.iload_n 2, 1) := by decide +kernel
theorem dX1_init_81 : decode cX1_init 81 = .ok (.iload_n 3, 1) := by decide +kernel
theorem dX1_init_82 : decode cX1_init 82 = .ok (.invokevirtual 37, 3) := by decide +kernel
theorem dX1_init_85 : decode cX1_init 85 = .ok (.iconst 0, 1) := by decide +kernel
theorem dX1_init_86 : decode cX1_init 86 = .ok (.istore 6, 2) := by decide +kernel
theorem dX1_init_88 : decode cX1_init 88 = .ok (.iload 6, 2) := by decide +kernel
theorem dX1_init_90 : decode cX1_init 90 = .ok (.aload_n 0, 1) := by decide +kernel
theorem dX1_init_91 : decode cX1_init 91 = .ok (.getfield 27, 3) := by decide +kernel
theorem dX1_init_94 : decode cX1_init 94 = .ok (.if_icmp .ge 50, 3) := by decide +kernel
theorem dX1_init_97 : decode cX1_init 97 = .ok (.iload 6, 2) := by decide +kernel
theorem dX1_init_99 : decode cX1_init 99 = .ok (.bipush 25, 2) := by decide +kernel
theorem dX1_init_101 : decode cX1_init 101 = .ok (.if_icmp .ge 43, 3) := by decide +kernel
theorem dX1_init_104 : decode cX1_init 104 = .ok (.aload_n 0, 1) := by decide +kernel
theorem dX1_init_105 : decode cX1_init 105 = .ok (.getfield 21, 3) := by decide +kernel
theorem dX1_init_108 : decode cX1_init 108 = .ok (.iload 6, 2) := by decide +kernel
theorem dX1_init_110 : decode cX1_init 110 = .ok (.aload_n 0, 1) := by decide +kernel
theorem dX1_init_111 : decode cX1_init 111 = .ok (.aload_n 0, 1) := by decide +kernel
theorem dX1_init_112 : decode cX1_init 112 = .ok (.getfield 18, 3) := by decide +kernel
theorem dX1_init_115 : decode cX1_init 115 = .ok (.iload 6, 2) := by decide +kernel
theorem dX1_init_117 : decode cX1_init 117 = .ok (.iaload, 1) := by decide +kernel
theorem dX1_init_118 : decode cX1_init 118 = .ok (.iload 5, 2) := by decide +kernel
theorem dX1_init_120 : decode cX1_init 120 = .ok (.invokevirtual 41, 3) := by decide +kernel
theorem dX1_init_123 : decode cX1_init 123 = .ok (.iastore, 1) := by decide +kernel
theorem dX1_init_124 : decode cX1_init 124 = .ok (.aload_n 0, 1) := by decide +kernel
theorem dX1_init_125 : decode cX1_init 125 = .ok (.getfield 24, 3) := by decide +kernel
theorem dX1_init_128 : decode cX1_init 128 = .ok (.iload 6, 2) := by decide +kernel
theorem dX1_init_130 : decode cX1_init 130 = .ok (.aload_n 0, 1) := by decide +kernel
theorem dX1_init_131 : decode cX1_init 131 = .ok (.iload 6, 2) := by decide +kernel
theorem dX1_init_133 : decode cX1_init 133 = .ok (.iload_n 3, 1) := by decide +kernel
theorem dX1_init_134 : decode cX1_init 134 = .ok (.invokevirtual 45, 3) := by decide +kernel
theorem dX1_init_137 : decode cX1_init 137 = .ok (.iastore, 1) := by decide +kernel
theorem dX1_init_138 : decode cX1_init 138 = .ok (.iinc 6 1, 3) := by decide +kernel
theorem dX1_init_141 : decode cX1_init 141 = .ok (.goto (-53), 3) := by decide +kernel
theorem dX1_init_144 : decode cX1_init 144 = .ok (.return_, 1) := by decide +kernel
theorem dX1_placeCells_0 : decode cX1_placeCells 0 = .ok (.iconst 0, 1) := by decide +kernel
theorem dX1_placeCells_1 : decode cX1_placeCells 1 = .ok (.istore_n 3, 1) := by decide +kernel
theorem dX1_placeCells_2 : decode cX1_placeCells 2 = .ok (.iconst 0, 1) := by decide +kernel
theorem dX1_placeCells_3 : decode cX1_placeCells 3 = .ok (.istore 4, 2) := by decide +kernel
theorem dX1_placeCells_5 : decode cX1_placeCells 5 = .ok (.iconst 0, 1) := by decide +kernel
theorem dX1_placeCells_6 : decode cX1_placeCells 6 = .ok (.istore 5, 2) := by decide +kernel
theorem dX1_placeCells_8 : decode cX1_placeCells 8 = .ok (.iload 5, 2) := by decide +kernel
theorem dX1_placeCells_10 : decode cX1_placeCells 10 = .ok (.aload_n 0, 1) := by decide +kernel
theorem dX1_placeCells_11 : decode cX1_placeCells 11 = .ok (.getfield 27, 3) := by decide +kernel
theorem dX1_placeCells_14 : decode cX1_placeCells 14 = .ok (.if_icmp .ge 80, 3) := by decide +kernel
theorem dX1_placeCells_17 : decode cX1_placeCells 17 = .ok (.iload 5, 2) := by decide +kernel
theorem dX1_placeCells_19 : decode cX1_placeCells 19 = .ok (.bipush 25, 2) := by decide +kernel
theorem dX1_placeCells_21 : decode cX1_placeCells 21 = .ok (.if_icmp .ge 73, 3) := by decide +kernel
theorem dX1_placeCells_24 : decode cX1_placeCells 24 = .ok (.aload_n 0, 1) := by decide +kernel
theorem dX1_placeCells_25 : decode cX1_placeCells 25 = .ok (.getfield 9, 3) := by decide +kernel
theorem dX1_placeCells_28 : decode cX1_placeCells 28 = .ok (.iload 5, 2) := by decide +kernel
theorem dX1_placeCells_30 : decode cX1_placeCells 30 = .ok (.iload_n 3, 1) := by decide +kernel
theorem dX1_placeCells_31 : decode cX1_placeCells 31 = .ok (.iastore, 1) := by decide +kernel
theorem dX1_placeCells_32 : decode cX1_placeCells 32 = .ok (.aload_n 0, 1) := by decide +kernel
theorem dX1_placeCells_33 : decode cX1_placeCells 33 = .ok (.getfield 15, 3) := by decide +kernel
theorem dX1_placeCells_36 : decode cX1_placeCells 36 = .ok (.iload 5, 2) := by decide +kernel
theorem dX1_placeCells_38 : decode cX1_placeCells 38 = .ok (.iload 4, 2) := by decide +kernel
theorem dX1_placeCells_40 : decode cX1_placeCells 40 = .ok (.iastore, 1) := by decide +kernel
theorem dX1_placeCells_41 : decode cX1_placeCells 41 = .ok (.aload_n 0, 1) := by decide +kernel
theorem dX1_placeCells_42 : decode cX1_placeCells 42 = .ok (.getfield 18, 3) := by decide +kernel
theorem dX1_placeCells_45 : decode cX1_placeCells 45 = .ok (.iload 5, 2) := by decide +kernel
theorem dX1_placeCells_47 : decode cX1_placeCells 47 = .ok (.iload_n 2, 1) := by decide +kernel
theorem dX1_placeCells_48 : decode cX1_placeCells 48 = .ok (.iconst 2, 1) := by decide +kernel
theorem dX1_placeCells_49 : decode cX1_placeCells 49 = .ok (.if_icmp .ne 14, 3) := by decide +kernel
theorem dX1_placeCells_52 : decode cX1_placeCells 52 = .ok (.iload_n 3, 1) := by decide +kernel
theorem dX1_placeCells_53 : decode cX1_placeCells 53 = .ok (.iconst 2, 1) := by decide +kernel
theorem dX1_placeCells_54 : decode cX1_placeCells 54 = .ok (.iload 4, 2) := by decide +kernel
theorem dX1_placeCells_56 : decode cX1_placeCells 56 = .ok (.imul, 1) := by decide +kernel
theorem dX1_placeCells_57 : decode cX1_placeCells 57 = .ok (.iadd, 1) := by decide +kernel
theorem dX1_placeCells_58 : decode cX1_placeCells 58 = .ok (.iconst 3, 1) := by decide +kernel
theorem dX1_placeCells_59 : decode cX1_placeCells 59 = .ok (.irem, 1) := by decide +kernel
theorem dX1_placeCells_60 : decode cX1_placeCells 60 = .ok (.goto 12, 3) := by decide +kernel
theorem dX1_placeCells_63 : decode cX1_placeCells 63 = .ok (.iload_n 3, 1) := by decide +kernel
theorem dX1_placeCells_64 : decode cX1_placeCells 64 = .ok (.iconst 3, 1) := by decide +kernel
theorem dX1_placeCells_65 : decode cX1_placeCells 65 = .ok (.iload 4, 2) := by decide +kernel
theorem dX1_placeCells_67 : decode cX1_placeCells 67 = .ok (.imul, 1) := by decide +kernel
theorem dX1_placeCells_68 : decode cX1_placeCells 68 = .ok (.iadd, 1) := by decide +kernel
theorem dX1_placeCells_69 : decode cX1_placeCells 69 = .ok (.bipush 7, 2) := by decide +kernel
theorem dX1_placeCells_71 : decode cX1_placeCells 71 = .ok (.irem, 1) := by decide +kernel
theorem dX1_placeCells_72 : decode cX1_placeCells 72 = .ok (.iastore, 1) := by decide +kernel
theorem dX1_placeCells_73 : decode cX1_placeCells 73 = .ok (.iinc 4 1, 3) := by decide +kernel
theorem dX1_placeCells_76 : decode cX1_placeCells 76 = .ok (.iload 4, 2) := by decide +kernel
theorem dX1_placeCells_78 : decode cX1_placeCells 78 = .ok (.iload_n 1, 1) := by decide +kernel
theorem dX1_placeCells_79 : decode cX1_placeCells 79 = .ok (.if_icmp .ne 9, 3) := by decide +kernel
theorem dX1_placeCells_82 : decode cX1_placeCells 82 = .ok (.iconst 0, 1) := by decide +kernel
theorem dX1_placeCells_83 : decode cX1_placeCells 83 = .ok (.istore 4, 2) := by decide +kernel
theorem dX1_placeCells_85 : decode cX1_placeCells 85 = .ok (.iinc 3 1, 3) := by decide +kernel
theorem dX1_placeCells_88 : decode cX1_placeCells 88 = .ok (.iinc 5 1, 3) := by decide +kernel
theorem dX1_placeCells_91 : decode cX1_placeCells 91 = .ok (.goto (-83), 3) := by decide +kernel
theorem dX1_placeCells_94 : decode cX1_placeCells 94 = .ok (.return_, 1) := by decide +kernel
theorem dX1_channelsOfGroup_0 : decode cX1_channelsOfGroup 0 = .ok (.iconst 0, 1) := by decide +kernel
theorem dX1_channelsOfGroup_1 : decode cX1_channelsOfGroup 1 = .ok (.istore_n 3, 1) := by decide +kernel
theorem dX1_channelsOfGroup_2 : decode cX1_channelsOfGroup 2 = .ok (.iconst 0, 1) := by decide +kernel
theorem dX1_channelsOfGroup_3 : decode cX1_channelsOfGroup 3 = .ok (.istore 4, 2) := by decide +kernel
theorem dX1_channelsOfGroup_5 : decode cX1_channelsOfGroup 5 = .ok (.iload 4, 2) := by decide +kernel
theorem dX1_channelsOfGroup_7 : decode cX1_channelsOfGroup 7 = .ok (.aload_n 0, 1) := by decide +kernel
theorem dX1_channelsOfGroup_8 : decode cX1_channelsOfGroup 8 = .ok (.getfield 34, 3) := by decide +kernel
theorem dX1_channelsOfGroup_11 : decode cX1_channelsOfGroup 11 = .ok (.if_icmp .ge 20, 3) := by decide +kernel
theorem dX1_channelsOfGroup_14 : decode cX1_channelsOfGroup 14 = .ok (.iload_n 3, 1) := by decide +kernel
theorem dX1_channelsOfGroup_15 : decode cX1_channelsOfGroup 15 = .ok (.iconst 1, 1) := by decide +kernel
theorem dX1_channelsOfGroup_16 : decode cX1_channelsOfGroup 16 = .ok (.iload_n 1, 1) := by decide +kernel
theorem dX1_channelsOfGroup_17 : decode cX1_channelsOfGroup 17 = .ok (.iload 4, 2) := by decide +kernel
theorem dX1_channelsOfGroup_19 : decode cX1_channelsOfGroup 19 = .ok (.iload_n 2, 1) := by decide +kernel
theorem dX1_channelsOfGroup_20 : decode cX1_channelsOfGroup 20 = .ok (.imul, 1) := by decide +kernel
theorem dX1_channelsOfGroup_21 : decode cX1_channelsOfGroup 21 = .ok (.iadd, 1) := by decide +kernel
theorem dX1_channelsOfGroup_22 : decode cX1_channelsOfGroup 22 = .ok (.ishl, 1) := by decide +kernel
theorem dX1_channelsOfGroup_23 : decode cX1_channelsOfGroup 23 = .ok (.ior, 1) := by decide +kernel
theorem dX1_channelsOfGroup_24 : decode cX1_channelsOfGroup 24 = .ok (.istore_n 3, 1) := by decide +kernel
theorem dX1_channelsOfGroup_25 : decode cX1_channelsOfGroup 25 = .ok (.iinc 4 1, 3) := by decide +kernel
theorem dX1_channelsOfGroup_28 : decode cX1_channelsOfGroup 28 = .ok (.goto (-23), 3) := by decide +kernel
theorem dX1_channelsOfGroup_31 : decode cX1_channelsOfGroup 31 = .ok (.iload_n 3, 1) := by decide +kernel
theorem dX1_channelsOfGroup_32 : decode cX1_channelsOfGroup 32 = .ok (.ireturn, 1) := by decide +kernel
theorem dX1_cellsWithin_0 : decode cX1_cellsWithin 0 = .ok (.iconst 0, 1) := by decide +kernel
theorem dX1_cellsWithin_1 : decode cX1_cellsWithin 1 = .ok (.istore_n 3, 1) := by decide +kernel
theorem dX1_cellsWithin_2 : decode cX1_cellsWithin 2 = .ok (.iconst 0, 1) := by decide +kernel
theorem dX1_cellsWithin_3 : decode cX1_cellsWithin 3 = .ok (.istore 4, 2) := by decide +kernel
theorem dX1_cellsWithin_5 : decode cX1_cellsWithin 5 = .ok (.iload 4, 2) := by decide +kernel
theorem dX1_cellsWithin_7 : decode cX1_cellsWithin 7 = .ok (.aload_n 0, 1) := by decide +kernel
theorem dX1_cellsWithin_8 : decode cX1_cellsWithin 8 = .ok (.getfield 27, 3) := by decide +kernel
theorem dX1_cellsWithin_11 : decode cX1_cellsWithin 11 = .ok (.if_icmp .ge 33, 3) := by decide +kernel
theorem dX1_cellsWithin_14 : decode cX1_cellsWithin 14 = .ok (.iload 4, 2) := by decide +kernel
theorem dX1_cellsWithin_16 : decode cX1_cellsWithin 16 = .ok (.iload_n 1, 1) := by decide +kernel
theorem dX1_cellsWithin_17 : decode cX1_cellsWithin 17 = .ok (.if_icmp .eq 21, 3) := by decide +kernel
theorem dX1_cellsWithin_20 : decode cX1_cellsWithin 20 = .ok (.aload_n 0, 1) := by decide +kernel
theorem dX1_cellsWithin_21 : decode cX1_cellsWithin 21 = .ok (.iload_n 1, 1) := by decide +kernel
theorem dX1_cellsWithin_22 : decode cX1_cellsWithin 22 = .ok (.iload 4, 2) := by decide +kernel
theorem dX1_cellsWithin_24 : decode cX1_cellsWithin 24 = .ok (.invokevirtual 48, 3) := by decide +kernel
theorem dX1_cellsWithin_27 : decode cX1_cellsWithin 27 = .ok (.iload_n 2, 1) := by decide +kernel
theorem dX1_cellsWithin_28 : decode cX1_cellsWithin 28 = .ok (.if_icmp .ge 10, 3) := by decide +kernel
theorem dX1_cellsWithin_31 : decode cX1_cellsWithin 31 = .ok (.iload_n 3, 1) := by decide +kernel
theorem dX1_cellsWithin_32 : decode cX1_cellsWithin 32 = .ok (.iconst 1, 1) := by decide +kernel
theorem dX1_cellsWithin_33 : decode cX1_cellsWithin 33 = .ok (.iload 4, 2) := by decide +kernel
theorem dX1_cellsWithin_35 : decode cX1_cellsWithin 35 = .ok (.ishl, 1) := by decide +kernel
theorem dX1_cellsWithin_36 : decode cX1_cellsWithin 36 = .ok (.ior, 1) := by decide +kernel
theorem dX1_cellsWithin_37 : decode cX1_cellsWithin 37 = .ok (.istore_n 3, 1) := by decide +kernel
theorem dX1_cellsWithin_38 : decode cX1_cellsWithin 38 = .ok (.iinc 4 1, 3) := by decide +kernel
theorem dX1_cellsWithin_41 : decode cX1_cellsWithin 41 = .ok (.goto (-36), 3) := by decide +kernel
theorem dX1_cellsWithin_44 : decode cX1_cellsWithin 44 = .ok (.iload_n 3, 1) := by decide +kernel
theorem dX1_cellsWithin_45 : decode cX1_cellsWithin 45 = .ok (.ireturn, 1) := by decide +kernel
theorem dX1_hasCell_0 : decode cX1_hasCell 0 = .ok (.iload_n 1, 1) := by decide +kernel
theorem dX1_hasCell_1 : decode cX1_hasCell 1 = .ok (.ifCond .lt 21, 3) := by decide +kernel
theorem dX1_hasCell_4 : decode cX1_hasCell 4 = .ok (.iload_n 1, 1) := by decide +kernel
theorem dX1_hasCell_5 : decode cX1_hasCell 5 = .ok (.aload_n 0, 1) := by decide +kernel
theorem dX1_hasCell_6 : decode cX1_hasCell 6 = .ok (.getfield 27, 3) := by decide +kernel
theorem dX1_hasCell_9 : decode cX1_hasCell 9 = .ok (.if_icmp .ge 13, 3) := by decide +kernel
theorem dX1_hasCell_12 : decode cX1_hasCell 12 = .ok (.iload_n 1, 1) := by decide +kernel
theorem dX1_hasCell_13 : decode cX1_hasCell 13 = .ok (.bipush 25, 2) := by decide +kernel
theorem dX1_hasCell_15 : decode cX1_hasCell 15 = .ok (.if_icmp .ge 7, 3) := by decide +kernel
theorem dX1_hasCell_18 : decode cX1_hasCell 18 = .ok (.iconst 1, 1) := by decide +kernel
theorem dX1_hasCell_19 : decode cX1_hasCell 19 = .ok (.goto 4, 3) := by decide +kernel
theorem dX1_hasCell_22 : decode cX1_hasCell 22 = .ok (.iconst 0, 1) := by decide +kernel
theorem dX1_hasCell_23 : decode cX1_hasCell 23 = .ok (.ireturn, 1) := by decide +kernel
theorem dX1_groupAt_0 : decode cX1_groupAt 0 = .ok (.iload_n 1, 1) := by decide +kernel
theorem dX1_groupAt_1 : decode cX1_groupAt 1 = .ok (.ifCond .lt 18, 3) := by decide +kernel
theorem dX1_groupAt_4 : decode cX1_groupAt 4 = .ok (.iload_n 1, 1) := by decide +kernel
theorem dX1_groupAt_5 : decode cX1_groupAt 5 = .ok (.bipush 25, 2) := by decide +kernel
theorem dX1_groupAt_7 : decode cX1_groupAt 7 = .ok (.if_icmp .ge 12, 3) := by decide +kernel
theorem dX1_groupAt_10 : decode cX1_groupAt 10 = .ok (.aload_n 0, 1) := by decide +kernel
theorem dX1_groupAt_11 : decode cX1_groupAt 11 = .ok (.getfield 18, 3) := by decide +kernel
theorem dX1_groupAt_14 : decode cX1_groupAt 14 = .ok (.iload_n 1, 1) := by decide +kernel
theorem dX1_groupAt_15 : decode cX1_groupAt 15 = .ok (.iaload, 1) := by decide +kernel
theorem dX1_groupAt_16 : decode cX1_groupAt 16 = .ok (.goto 4, 3) := by decide +kernel
theorem dX1_groupAt_19 : decode cX1_groupAt 19 = .ok (.iconst 0, 1) := by decide +kernel
theorem dX1_groupAt_20 : decode cX1_groupAt 20 = .ok (.ireturn, 1) := by decide +kernel
theorem dX1_nominalsOf_0 : decode cX1_nominalsOf 0 = .ok (.iload_n 1, 1) := by decide +kernel
theorem dX1_nominalsOf_1 : decode cX1_nominalsOf 1 = .ok (.ifCond .lt 18, 3) := by decide +kernel
theorem dX1_nominalsOf_4 : decode cX1_nominalsOf 4 = .ok (.iload_n 1, 1) := by decide +kernel
theorem dX1_nominalsOf_5 : decode cX1_nominalsOf 5 = .ok (.bipush 25, 2) := by decide +kernel
theorem dX1_nominalsOf_7 : decode cX1_nominalsOf 7 = .ok (.if_icmp .ge 12, 3) := by decide +kernel
theorem dX1_nominalsOf_10 : decode cX1_nominalsOf 10 = .ok (.aload_n 0, 1) := by decide +kernel
theorem dX1_nominalsOf_11 : decode cX1_nominalsOf 11 = .ok (.getfield 21, 3) := by decide +kernel
theorem dX1_nominalsOf_14 : decode cX1_nominalsOf 14 = .ok (.iload_n 1, 1) := by decide +kernel
theorem dX1_nominalsOf_15 : decode cX1_nominalsOf 15 = .ok (.iaload, 1) := by decide +kernel
theorem dX1_nominalsOf_16 : decode cX1_nominalsOf 16 = .ok (.goto 4, 3) := by decide +kernel
theorem dX1_nominalsOf_19 : decode cX1_nominalsOf 19 = .ok (.iconst 0, 1) := by decide +kernel
theorem dX1_nominalsOf_20 : decode cX1_nominalsOf 20 = .ok (.ireturn, 1) := by decide +kernel
theorem dX1_near_0 : decode cX1_near 0 = .ok (.iload_n 1, 1) := by decide +kernel
theorem dX1_near_1 : decode cX1_near 1 = .ok (.ifCond .lt 18, 3) := by decide +kernel
theorem dX1_near_4 : decode cX1_near 4 = .ok (.iload_n 1, 1) := by decide +kernel
theorem dX1_near_5 : decode cX1_near 5 = .ok (.bipush 25, 2) := by decide +kernel
theorem dX1_near_7 : decode cX1_near 7 = .ok (.if_icmp .ge 12, 3) := by decide +kernel
theorem dX1_near_10 : decode cX1_near 10 = .ok (.aload_n 0, 1) := by decide +kernel
theorem dX1_near_11 : decode cX1_near 11 = .ok (.getfield 24, 3) := by decide +kernel
theorem dX1_near_14 : decode cX1_near 14 = .ok (.iload_n 1, 1) := by decide +kernel
theorem dX1_near_15 : decode cX1_near 15 = .ok (.iaload, 1) := by decide +kernel
theorem dX1_near_16 : decode cX1_near 16 = .ok (.goto 4, 3) := by decide +kernel
theorem dX1_near_19 : decode cX1_near 19 = .ok (.iconst 0, 1) := by decide +kernel
theorem dX1_near_20 : decode cX1_near 20 = .ok (.ireturn, 1) := by decide +kernel
theorem dX1_separation_0 : decode cX1_separation 0 = .ok (.aload_n 0, 1) := by decide +kernel
theorem dX1_separation_1 : decode cX1_separation 1 = .ok (.iload_n 1, 1) := by decide +kernel
theorem dX1_separation_2 : decode cX1_separation 2 = .ok (.invokevirtual 51, 3) := by decide +kernel
theorem dX1_separation_5 : decode cX1_separation 5 = .ok (.ifCond .eq 11, 3) := by decide +kernel
theorem dX1_separation_8 : decode cX1_separation 8 = .ok (.aload_n 0, 1) := by decide +kernel
theorem dX1_separation_9 : decode cX1_separation 9 = .ok (.iload_n 2, 1) := by decide +kernel
theorem dX1_separation_10 : decode cX1_separation 10 = .ok (.invokevirtual 51, 3) := by decide +kernel
theorem dX1_separation_13 : decode cX1_separation 13 = .ok (.ifCond .ne 5, 3) := by decide +kernel
theorem dX1_separation_16 : decode cX1_separation 16 = .ok (.iconst 0, 1) := by decide +kernel
theorem dX1_separation_17 : decode cX1_separation 17 = .ok (.ireturn, 1) := by decide +kernel
theorem dX1_separation_18 : decode cX1_separation 18 = .ok (.aload_n 0, 1) := by decide +kernel
theorem dX1_separation_19 : decode cX1_separation 19 = .ok (.getfield 9, 3) := by decide +kernel
theorem dX1_separation_22 : decode cX1_separation 22 = .ok (.iload_n 1, 1) := by decide +kernel
theorem dX1_separation_23 : decode cX1_separation 23 = .ok (.iaload, 1) := by decide +kernel
theorem dX1_separation_24 : decode cX1_separation 24 = .ok (.aload_n 0, 1) := by decide +kernel
theorem dX1_separation_25 : decode cX1_separation 25 = .ok (.getfield 9, 3) := by decide +kernel
theorem dX1_separation_28 : decode cX1_separation 28 = .ok (.iload_n 2, 1) := by decide +kernel
theorem dX1_separation_29 : decode cX1_separation 29 = .ok (.iaload, 1) := by decide +kernel
theorem dX1_separation_30 : decode cX1_separation 30 = .ok (.isub, 1) := by decide +kernel
theorem dX1_separation_31 : decode cX1_separation 31 = .ok (.istore_n 3, 1) := by decide +kernel
theorem dX1_separation_32 : decode cX1_separation 32 = .ok (.aload_n 0, 1) := by decide +kernel
theorem dX1_separation_33 : decode cX1_separation 33 = .ok (.getfield 15, 3) := by decide +kernel
theorem dX1_separation_36 : decode cX1_separation 36 = .ok (.iload_n 1, 1) := by decide +kernel
theorem dX1_separation_37 : decode cX1_separation 37 = .ok (.iaload, 1) := by decide +kernel
theorem dX1_separation_38 : decode cX1_separation 38 = .ok (.aload_n 0, 1) := by decide +kernel
theorem dX1_separation_39 : decode cX1_separation 39 = .ok (.getfield 15, 3) := by decide +kernel
theorem dX1_separation_42 : decode cX1_separation 42 = .ok (.iload_n 2, 1) := by decide +kernel
theorem dX1_separation_43 : decode cX1_separation 43 = .ok (.iaload, 1) := by decide +kernel
theorem dX1_separation_44 : decode cX1_separation 44 = .ok (.isub, 1) := by decide +kernel
theorem dX1_separation_45 : decode cX1_separation 45 = .ok (.istore 4, 2) := by decide +kernel
theorem dX1_separation_47 : decode cX1_separation 47 = .ok (.iload_n 3, 1) := by decide +kernel
theorem dX1_separation_48 : decode cX1_separation 48 = .ok (.iload 4, 2) := by decide +kernel
theorem dX1_separation_50 : decode cX1_separation 50 = .ok (.iadd, 1) := by decide +kernel
theorem dX1_separation_51 : decode cX1_separation 51 = .ok (.invokestatic 55, 3) := by decide +kernel
theorem dX1_separation_54 : decode cX1_separation 54 = .ok (.iload_n 3, 1) := by decide +kernel
theorem dX1_separation_55 : decode cX1_separation 55 = .ok (.invokestatic 55, 3) := by decide +kernel
theorem dX1_separation_58 : decode cX1_separation 58 = .ok (.iload 4, 2) := by decide +kernel
theorem dX1_separation_60 : decode cX1_separation 60 = .ok (.invokestatic 55, 3) := by decide +kernel
theorem dX1_separation_63 : decode cX1_separation 63 = .ok (.invokestatic 61, 3) := by decide +kernel
theorem dX1_separation_66 : decode cX1_separation 66 = .ok (.invokestatic 61, 3) := by decide +kernel
theorem dX1_separation_69 : decode cX1_separation 69 = .ok (.ireturn, 1) := by decide +kernel
theorem dX1_burdenIn_0 : decode cX1_burdenIn 0 = .ok (.aload_n 0, 1) := by decide +kernel
theorem dX1_burdenIn_1 : decode cX1_burdenIn 1 = .ok (.iload_n 1, 1) := by decide +kernel
theorem dX1_burdenIn_2 : decode cX1_burdenIn 2 = .ok (.invokevirtual 64, 3) := by decide +kernel
theorem dX1_burdenIn_5 : decode cX1_burdenIn 5 = .ok (.istore_n 3, 1) := by decide +kernel
theorem dX1_burdenIn_6 : decode cX1_burdenIn 6 = .ok (.iconst 0, 1) := by decide +kernel
theorem dX1_burdenIn_7 : decode cX1_burdenIn 7 = .ok (.istore 4, 2) := by decide +kernel
theorem dX1_burdenIn_9 : decode cX1_burdenIn 9 = .ok (.iconst 0, 1) := by decide +kernel
theorem dX1_burdenIn_10 : decode cX1_burdenIn 10 = .ok (.istore 5, 2) := by decide +kernel
theorem dX1_burdenIn_12 : decode cX1_burdenIn 12 = .ok (.iload 5, 2) := by decide +kernel
theorem dX1_burdenIn_14 : decode cX1_burdenIn 14 = .ok (.bipush 25, 2) := by decide +kernel
theorem dX1_burdenIn_16 : decode cX1_burdenIn 16 = .ok (.if_icmp .ge 35, 3) := by decide +kernel
theorem dX1_burdenIn_19 : decode cX1_burdenIn 19 = .ok (.iload_n 3, 1) := by decide +kernel
theorem dX1_burdenIn_20 : decode cX1_burdenIn 20 = .ok (.iload 5, 2) := by decide +kernel
theorem dX1_burdenIn_22 : decode cX1_burdenIn 22 = .ok (.invokestatic 67, 3) := by decide +kernel
theorem dX1_burdenIn_25 : decode cX1_burdenIn 25 = .ok (.ifCond .eq 20, 3) := by decide +kernel
theorem dX1_burdenIn_28 : decode cX1_burdenIn 28 = .ok (.aload_n 0, 1) := by decide +kernel
theorem dX1_burdenIn_29 : decode cX1_burdenIn 29 = .ok (.getfield 21, 3) := by decide +kernel
theorem dX1_burdenIn_32 : decode cX1_burdenIn 32 = .ok (.iload 5, 2) := by decide +kernel
theorem dX1_burdenIn_34 : decode cX1_burdenIn 34 = .ok (.iaload, 1) := by decide +kernel
theorem dX1_burdenIn_35 : decode cX1_burdenIn 35 = .ok (.iload_n 2, 1) := by decide +kernel
theorem dX1_burdenIn_36 : decode cX1_burdenIn 36 = .ok (.invokestatic 67, 3) := by decide +kernel
theorem dX1_burdenIn_39 : decode cX1_burdenIn 39 = .ok (.ifCond .eq 6, 3) := by decide +kernel
theorem dX1_burdenIn_42 : decode cX1_burdenIn 42 = .ok (.iinc 4 1, 3) := by decide +kernel
theorem dX1_burdenIn_45 : decode cX1_burdenIn 45 = .ok (.iinc 5 1, 3) := by decide +kernel
theorem dX1_burdenIn_48 : decode cX1_burdenIn 48 = .ok (.goto (-36), 3) := by decide +kernel
theorem dX1_burdenIn_51 : decode cX1_burdenIn 51 = .ok (.iload 4, 2) := by decide +kernel
theorem dX1_burdenIn_53 : decode cX1_burdenIn 53 = .ok (.ireturn, 1) := by decide +kernel
theorem dX2_init_0 : decode cX2_init 0 = .ok (.aload_n 0, 1) := by decide +kernel
theorem dX2_init_1 : decode cX2_init 1 = .ok (.invokespecial 3, 3) := by decide +kernel
theorem dX2_init_4 : decode cX2_init 4 = .ok (.aload_n 0, 1) := by decide +kernel
theorem dX2_init_5 : decode cX2_init 5 = .ok (.iconst 1, 1) := by decide +kernel
theorem dX2_init_6 : decode cX2_init 6 = .ok (.putfield 9, 3) := by decide +kernel
theorem dX2_init_9 : decode cX2_init 9 = .ok (.aload_n 0, 1) := by decide +kernel
theorem dX2_init_10 : decode cX2_init 10 = .ok (.bipush 60, 2) := by decide +kernel
theorem dX2_init_12 : decode cX2_init 12 = .ok (.newarray .int, 2) := by decide +kernel
theorem dX2_init_14 : decode cX2_init 14 = .ok (.putfield 15, 3) := by decide +kernel
theorem dX2_init_17 : decode cX2_init 17 = .ok (.aload_n 0, 1) := by decide +kernel
theorem dX2_init_18 : decode cX2_init 18 = .ok (.bipush 60, 2) := by decide +kernel
theorem dX2_init_20 : decode cX2_init 20 = .ok (.newarray .int, 2) := by decide +kernel
theorem dX2_init_22 : decode cX2_init 22 = .ok (.putfield 19, 3) := by decide +kernel
theorem dX2_init_25 : decode cX2_init 25 = .ok (.aload_n 0, 1) := by decide +kernel
theorem dX2_init_26 : decode cX2_init 26 = .ok (.bipush 60, 2) := by decide +kernel
theorem dX2_init_28 : decode cX2_init 28 = .ok (.newarray .int, 2) := by decide +kernel
theorem dX2_init_30 : decode cX2_init 30 = .ok (.putfield 22, 3) := by decide +kernel
theorem dX2_init_33 : decode cX2_init 33 = .ok (.aload_n 0, 1) := by decide +kernel
theorem dX2_init_34 : decode cX2_init 34 = .ok (.bipush 25, 2) := by decide +kernel
theorem dX2_init_36 : decode cX2_init 36 = .ok (.newarray .int, 2) := by decide +kernel
theorem dX2_init_38 : decode cX2_init 38 = .ok (.putfield 25, 3) := by decide +kernel
theorem dX2_init_41 : decode cX2_init 41 = .ok (.aload_n 0, 1) := by decide +kernel
theorem dX2_init_42 : decode cX2_init 42 = .ok (.aload_n 1, 1) := by decide +kernel
theorem dX2_init_43 : decode cX2_init 43 = .ok (.invokevirtual 28, 3) := by decide +kernel
theorem dX2_init_46 : decode cX2_init 46 = .ok (.return_, 1) := by decide +kernel
theorem dX2_begin_0 : decode cX2_begin 0 = .ok (.aload_n 0, 1) := by decide +kernel
theorem dX2_begin_1 : decode cX2_begin 1 = .ok (.aload_n 1, 1) := by decide +kernel
theorem dX2_begin_2 : decode cX2_begin 2 = .ok (.putfield 32, 3) := by decide +kernel
theorem dX2_begin_5 : decode cX2_begin 5 = .ok (.aload_n 0, 1) := by decide +kernel
theorem dX2_begin_6 : decode cX2_begin 6 = .ok (.iconst 0, 1) := by decide +kernel
theorem dX2_begin_7 : decode cX2_begin 7 = .ok (.putfield 36, 3) := by decide +kernel
theorem dX2_begin_10 : decode cX2_begin 10 = .ok (.aload_n 0, 1) := by decide +kernel
theorem dX2_begin_11 : decode cX2_begin 11 = .ok (.iconst 0, 1) := by decide +kernel
theorem dX2_begin_12 : decode cX2_begin 12 = .ok (.putfield 40, 3) := by decide +kernel
theorem dX2_begin_15 : decode cX2_begin 15 = .ok (.aload_n 0, 1) := by decide +kernel
theorem dX2_begin_16 : decode cX2_begin 16 = .ok (.iconst 0, 1) := by decide +kernel
theorem dX2_begin_17 : decode cX2_begin 17 = .ok (.putfield 43, 3) := by decide +kernel
theorem dX2_begin_20 : decode cX2_begin 20 = .ok (.aload_n 0, 1) := by decide +kernel
theorem dX2_begin_21 : decode cX2_begin 21 = .ok (.iconst 0, 1) := by decide +kernel
theorem dX2_begin_22 : decode cX2_begin 22 = .ok (.putfield 46, 3) := by decide +kernel
theorem dX2_begin_25 : decode cX2_begin 25 = .ok (.aload_n 0, 1) := by decide +kernel
theorem dX2_begin_26 : decode cX2_begin 26 = .ok (.iconst 0, 1) := by decide +kernel
theorem dX2_begin_27 : decode cX2_begin 27 = .ok (.putfield 49, 3) := by decide +kernel
theorem dX2_begin_30 : decode cX2_begin 30 = .ok (.aload_n 0, 1) := by decide +kernel
theorem dX2_begin_31 : decode cX2_begin 31 = .ok (.iconst 0, 1) := by decide +kernel
theorem dX2_begin_32 : decode cX2_begin 32 = .ok (.putfield 52, 3) := by decide +kernel
theorem dX2_begin_35 : decode cX2_begin 35 = .ok (.aload_n 0, 1) := by decide +kernel
theorem dX2_begin_36 : decode cX2_begin 36 = .ok (.iconst 0, 1) := by decide +kernel
theorem dX2_begin_37 : decode cX2_begin 37 = .ok (.putfield 55, 3) := by decide +kernel
theorem dX2_begin_40 : decode cX2_begin 40 = .ok (.aload_n 0, 1) := by decide +kernel
theorem dX2_begin_41 : decode cX2_begin 41 = .ok (.getfield 15, 3) := by decide +kernel
theorem dX2_begin_44 : decode cX2_begin 44 = .ok (.iconst 0, 1) := by decide +kernel
theorem dX2_begin_45 : decode cX2_begin 45 = .ok (.invokestatic 58, 3) := by decide +kernel
theorem dX2_begin_48 : decode cX2_begin 48 = .ok (.aload_n 0, 1) := by decide +kernel
theorem dX2_begin_49 : decode cX2_begin 49 = .ok (.getfield 19, 3) := by decide +kernel
theorem dX2_begin_52 : decode cX2_begin 52 = .ok (.bipush (-9), 2) := by decide +kernel
theorem dX2_begin_54 : decode cX2_begin 54 = .ok (.invokestatic 58, 3) := by decide +kernel
theorem dX2_begin_57 : decode cX2_begin 57 = .ok (.aload_n 0, 1) := by decide +kernel
theorem dX2_begin_58 : decode cX2_begin 58 = .ok (.getfield 22, 3) := by decide +kernel
theorem dX2_begin_61 : decode cX2_begin 61 = .ok (.iconst 0, 1) := by decide +kernel
theorem dX2_begin_62 : decode cX2_begin 62 = .ok (.invokestatic 58, 3) := by decide +kernel
theorem dX2_begin_65 : decode cX2_begin 65 = .ok (.aload_n 0, 1) := by decide +kernel
theorem dX2_begin_66 : decode cX2_begin 66 = .ok (.getfield 25, 3) := by decide +kernel
theorem dX2_begin_69 : decode cX2_begin 69 = .ok (.iconst 0, 1) := by decide +kernel
theorem dX2_begin_70 : decode cX2_begin 70 = .ok (.invokestatic 58, 3) := by decide +kernel
theorem dX2_begin_73 : decode cX2_begin 73 = .ok (.return_, 1) := by decide +kernel
theorem dX2_copyFrom_0 : decode cX2_copyFrom 0 = .ok (.aload_n 0, 1) := by decide +kernel
theorem dX2_copyFrom_1 : decode cX2_copyFrom 1 = .ok (.aload_n 1, 1) := by decide +kernel
theorem dX2_copyFrom_2 : decode cX2_copyFrom 2 = .ok (.getfield 32, 3) := by decide +kernel
theorem dX2_copyFrom_5 : decode cX2_copyFrom 5 = .ok (.putfield 32, 3) := by decide +kernel
theorem dX2_copyFrom_8 : decode cX2_copyFrom 8 = .ok (.aload_n 0, 1) := by decide +kernel
theorem dX2_copyFrom_9 : decode cX2_copyFrom 9 = .ok (.aload_n 1, 1) := by decide +kernel
theorem dX2_copyFrom_10 : decode cX2_copyFrom 10 = .ok (.getfield 64, 3) := by decide +kernel
theorem dX2_copyFrom_13 : decode cX2_copyFrom 13 = .ok (.putfield 64, 3) := by decide +kernel
theorem dX2_copyFrom_16 : decode cX2_copyFrom 16 = .ok (.aload_n 0, 1) := by decide +kernel
theorem dX2_copyFrom_17 : decode cX2_copyFrom 17 = .ok (.aload_n 1, 1) := by decide +kernel
theorem dX2_copyFrom_18 : decode cX2_copyFrom 18 = .ok (.getfield 67, 3) := by decide +kernel
theorem dX2_copyFrom_21 : decode cX2_copyFrom 21 = .ok (.putfield 67, 3) := by decide +kernel
theorem dX2_copyFrom_24 : decode cX2_copyFrom 24 = .ok (.aload_n 0, 1) := by decide +kernel
theorem dX2_copyFrom_25 : decode cX2_copyFrom 25 = .ok (.aload_n 1, 1) := by decide +kernel
theorem dX2_copyFrom_26 : decode cX2_copyFrom 26 = .ok (.getfield 9, 3) := by decide +kernel
theorem dX2_copyFrom_29 : decode cX2_copyFrom 29 = .ok (.putfield 9, 3) := by decide +kernel
theorem dX2_copyFrom_32 : decode cX2_copyFrom 32 = .ok (.aload_n 0, 1) := by decide +kernel
theorem dX2_copyFrom_33 : decode cX2_copyFrom 33 = .ok (.aload_n 1, 1) := by decide +kernel
theorem dX2_copyFrom_34 : decode cX2_copyFrom 34 = .ok (.getfield 36, 3) := by decide +kernel
theorem dX2_copyFrom_37 : decode cX2_copyFrom 37 = .ok (.putfield 36, 3) := by decide +kernel
theorem dX2_copyFrom_40 : decode cX2_copyFrom 40 = .ok (.aload_n 0, 1) := by decide +kernel
theorem dX2_copyFrom_41 : decode cX2_copyFrom 41 = .ok (.aload_n 1, 1) := by decide +kernel
theorem dX2_copyFrom_42 : decode cX2_copyFrom 42 = .ok (.getfield 40, 3) := by decide +kernel
theorem dX2_copyFrom_45 : decode cX2_copyFrom 45 = .ok (.putfield 40, 3) := by decide +kernel
theorem dX2_copyFrom_48 : decode cX2_copyFrom 48 = .ok (.aload_n 0, 1) := by decide +kernel
theorem dX2_copyFrom_49 : decode cX2_copyFrom 49 = .ok (.aload_n 1, 1) := by decide +kernel
theorem dX2_copyFrom_50 : decode cX2_copyFrom 50 = .ok (.getfield 43, 3) := by decide +kernel
theorem dX2_copyFrom_53 : decode cX2_copyFrom 53 = .ok (.putfield 43, 3) := by decide +kernel
theorem dX2_copyFrom_56 : decode cX2_copyFrom 56 = .ok (.aload_n 0, 1) := by decide +kernel
theorem dX2_copyFrom_57 : decode cX2_copyFrom 57 = .ok (.aload_n 1, 1) := by decide +kernel
theorem dX2_copyFrom_58 : decode cX2_copyFrom 58 = .ok (.getfield 46, 3) := by decide +kernel
theorem dX2_copyFrom_61 : decode cX2_copyFrom 61 = .ok (.putfield 46, 3) := by decide +kernel
theorem dX2_copyFrom_64 : decode cX2_copyFrom 64 = .ok (.aload_n 0, 1) := by decide +kernel
theorem dX2_copyFrom_65 : decode cX2_copyFrom 65 = .ok (.aload_n 1, 1) := by decide +kernel
theorem dX2_copyFrom_66 : decode cX2_copyFrom 66 = .ok (.getfield 49, 3) := by decide +kernel
theorem dX2_copyFrom_69 : decode cX2_copyFrom 69 = .ok (.putfield 49, 3) := by decide +kernel
theorem dX2_copyFrom_72 : decode cX2_copyFrom 72 = .ok (.aload_n 0, 1) := by decide +kernel
theorem dX2_copyFrom_73 : decode cX2_copyFrom 73 = .ok (.aload_n 1, 1) := by decide +kernel
theorem dX2_copyFrom_74 : decode cX2_copyFrom 74 = .ok (.getfield 52, 3) := by decide +kernel
theorem dX2_copyFrom_77 : decode cX2_copyFrom 77 = .ok (.putfield 52, 3) := by decide +kernel
theorem dX2_copyFrom_80 : decode cX2_copyFrom 80 = .ok (.aload_n 0, 1) := by decide +kernel
theorem dX2_copyFrom_81 : decode cX2_copyFrom 81 = .ok (.aload_n 1, 1) := by decide +kernel
theorem dX2_copyFrom_82 : decode cX2_copyFrom 82 = .ok (.getfield 55, 3) := by decide +kernel
theorem dX2_copyFrom_85 : decode cX2_copyFrom 85 = .ok (.putfield 55, 3) := by decide +kernel
theorem dX2_copyFrom_88 : decode cX2_copyFrom 88 = .ok (.aload_n 1, 1) := by decide +kernel
theorem dX2_copyFrom_89 : decode cX2_copyFrom 89 = .ok (.getfield 15, 3) := by decide +kernel
theorem dX2_copyFrom_92 : decode cX2_copyFrom 92 = .ok (.iconst 0, 1) := by decide +kernel
theorem dX2_copyFrom_93 : decode cX2_copyFrom 93 = .ok (.aload_n 0, 1) := by decide +kernel
theorem dX2_copyFrom_94 : decode cX2_copyFrom 94 = .ok (.getfield 15, 3) := by decide +kernel
theorem dX2_copyFrom_97 : decode cX2_copyFrom 97 = .ok (.iconst 0, 1) := by decide +kernel
theorem dX2_copyFrom_98 : decode cX2_copyFrom 98 = .ok (.bipush 60, 2) := by decide +kernel
theorem dX2_copyFrom_100 : decode cX2_copyFrom 100 = .ok (.invokestatic 70, 3) := by decide +kernel
theorem dX2_copyFrom_103 : decode cX2_copyFrom 103 = .ok (.aload_n 1, 1) := by decide +kernel
theorem dX2_copyFrom_104 : decode cX2_copyFrom 104 = .ok (.getfield 19, 3) := by decide +kernel
theorem dX2_copyFrom_107 : decode cX2_copyFrom 107 = .ok (.iconst 0, 1) := by decide +kernel
theorem dX2_copyFrom_108 : decode cX2_copyFrom 108 = .ok (.aload_n 0, 1) := by decide +kernel
theorem dX2_copyFrom_109 : decode cX2_copyFrom 109 = .ok (.getfield 19, 3) := by decide +kernel
theorem dX2_copyFrom_112 : decode cX2_copyFrom 112 = .ok (.iconst 0, 1) := by decide +kernel
theorem dX2_copyFrom_113 : decode cX2_copyFrom 113 = .ok (.bipush 60, 2) := by decide +kernel
theorem dX2_copyFrom_115 : decode cX2_copyFrom 115 = .ok (.invokestatic 70, 3) := by decide +kernel
theorem dX2_copyFrom_118 : decode cX2_copyFrom 118 = .ok (.aload_n 1, 1) := by decide +kernel
theorem dX2_copyFrom_119 : decode cX2_copyFrom 119 = .ok (.getfield 22, 3) := by decide +kernel
theorem dX2_copyFrom_122 : decode cX2_copyFrom 122 = .ok (.iconst 0, 1) := by decide +kernel
theorem dX2_copyFrom_123 : decode cX2_copyFrom 123 = .ok (.aload_n 0, 1) := by decide +kernel
theorem dX2_copyFrom_124 : decode cX2_copyFrom 124 = .ok (.getfield 22, 3) := by decide +kernel
theorem dX2_copyFrom_127 : decode cX2_copyFrom 127 = .ok (.iconst 0, 1) := by decide +kernel
theorem dX2_copyFrom_128 : decode cX2_copyFrom 128 = .ok (.bipush 60, 2) := by decide +kernel
theorem dX2_copyFrom_130 : decode cX2_copyFrom 130 = .ok (.invokestatic 70, 3) := by decide +kernel
theorem dX2_copyFrom_133 : decode cX2_copyFrom 133 = .ok (.aload_n 1, 1) := by decide +kernel
theorem dX2_copyFrom_134 : decode cX2_copyFrom 134 = .ok (.getfield 25, 3) := by decide +kernel
theorem dX2_copyFrom_137 : decode cX2_copyFrom 137 = .ok (.iconst 0, 1) := by decide +kernel
theorem dX2_copyFrom_138 : decode cX2_copyFrom 138 = .ok (.aload_n 0, 1) := by decide +kernel
theorem dX2_copyFrom_139 : decode cX2_copyFrom 139 = .ok (.getfield 25, 3) := by decide +kernel
theorem dX2_copyFrom_142 : decode cX2_copyFrom 142 = .ok (.iconst 0, 1) := by decide +kernel
theorem dX2_copyFrom_143 : decode cX2_copyFrom 143 = .ok (.bipush 25, 2) := by decide +kernel
theorem dX2_copyFrom_145 : decode cX2_copyFrom 145 = .ok (.invokestatic 70, 3) := by decide +kernel
theorem dX2_copyFrom_148 : decode cX2_copyFrom 148 = .ok (.return_, 1) := by decide +kernel
theorem dX2_isPresent_0 : decode cX2_isPresent 0 = .ok (.iload_n 1, 1) := by decide +kernel
theorem dX2_isPresent_1 : decode cX2_isPresent 1 = .ok (.ifCond .lt 34, 3) := by decide +kernel
theorem dX2_isPresent_4 : decode cX2_isPresent 4 = .ok (.iload_n 1, 1) := by decide +kernel
theorem dX2_isPresent_5 : decode cX2_isPresent 5 = .ok (.bipush 60, 2) := by decide +kernel
theorem dX2_isPresent_7 : decode cX2_isPresent 7 = .ok (.if_icmp .ge 28, 3) := by decide +kernel
theorem dX2_isPresent_10 : decode cX2_isPresent 10 = .ok (.aload_n 0, 1) := by decide +kernel
theorem dX2_isPresent_11 : decode cX2_isPresent 11 = .ok (.getfield 19, 3) := by decide +kernel
theorem dX2_isPresent_14 : decode cX2_isPresent 14 = .ok (.iload_n 1, 1) := by decide +kernel
theorem dX2_isPresent_15 : decode cX2_isPresent 15 = .ok (.iaload, 1) := by decide +kernel
theorem dX2_isPresent_16 : decode cX2_isPresent 16 = .ok (.bipush (-9), 2) := by decide +kernel
theorem dX2_isPresent_18 : decode cX2_isPresent 18 = .ok (.if_icmp .ne 13, 3) := by decide +kernel
theorem dX2_isPresent_21 : decode cX2_isPresent 21 = .ok (.aload_n 0, 1) := by decide +kernel
theorem dX2_isPresent_22 : decode cX2_isPresent 22 = .ok (.getfield 22, 3) := by decide +kernel
theorem dX2_isPresent_25 : decode cX2_isPresent 25 = .ok (.iload_n 1, 1) := by decide +kernel
theorem dX2_isPresent_26 : decode cX2_isPresent 26 = .ok (.iaload, 1) := by decide +kernel
theorem dX2_isPresent_27 : decode cX2_isPresent 27 = .ok (.iconst 1, 1) := by decide +kernel
theorem dX2_isPresent_28 : decode cX2_isPresent 28 = .ok (.if_icmp .ne 7, 3) := by decide +kernel
theorem dX2_isPresent_31 : decode cX2_isPresent 31 = .ok (.iconst 1, 1) := by decide +kernel
theorem dX2_isPresent_32 : decode cX2_isPresent 32 = .ok (.goto 4, 3) := by decide +kernel
theorem dX2_isPresent_35 : decode cX2_isPresent 35 = .ok (.iconst 0, 1) := by decide +kernel
theorem dX2_isPresent_36 : decode cX2_isPresent 36 = .ok (.ireturn, 1) := by decide +kernel
theorem dX2_cellAt_0 : decode cX2_cellAt 0 = .ok (.aload_n 0, 1) := by decide +kernel
theorem dX2_cellAt_1 : decode cX2_cellAt 1 = .ok (.iload_n 1, 1) := by decide +kernel
theorem dX2_cellAt_2 : decode cX2_cellAt 2 = .ok (.invokevirtual 76, 3) := by decide +kernel
theorem dX2_cellAt_5 : decode cX2_cellAt 5 = .ok (.ifCond .eq 12, 3) := by decide +kernel
theorem dX2_cellAt_8 : decode cX2_cellAt 8 = .ok (.aload_n 0, 1) := by decide +kernel
theorem dX2_cellAt_9 : decode cX2_cellAt 9 = .ok (.getfield 15, 3) := by decide +kernel
theorem dX2_cellAt_12 : decode cX2_cellAt 12 = .ok (.iload_n 1, 1) := by decide +kernel
theorem dX2_cellAt_13 : decode cX2_cellAt 13 = .ok (.iaload, 1) := by decide +kernel
theorem dX2_cellAt_14 : decode cX2_cellAt 14 = .ok (.goto 5, 3) := by decide +kernel
theorem dX2_cellAt_17 : decode cX2_cellAt 17 = .ok (.bipush (-9), 2) := by decide +kernel
theorem dX2_cellAt_19 : decode cX2_cellAt 19 = .ok (.ireturn, 1) := by decide +kernel
theorem dX2_channelAt_0 : decode cX2_channelAt 0 = .ok (.aload_n 0, 1) := by decide +kernel
theorem dX2_channelAt_1 : decode cX2_channelAt 1 = .ok (.iload_n 1, 1) := by decide +kernel
theorem dX2_channelAt_2 : decode cX2_channelAt 2 = .ok (.invokevirtual 76, 3) := by decide +kernel
theorem dX2_channelAt_5 : decode cX2_channelAt 5 = .ok (.ifCond .eq 12, 3) := by decide +kernel
theorem dX2_channelAt_8 : decode cX2_channelAt 8 = .ok (.aload_n 0, 1) := by decide +kernel
theorem dX2_channelAt_9 : decode cX2_channelAt 9 = .ok (.getfield 19, 3) := by decide +kernel
theorem dX2_channelAt_12 : decode cX2_channelAt 12 = .ok (.iload_n 1, 1) := by decide +kernel
theorem dX2_channelAt_13 : decode cX2_channelAt 13 = .ok (.iaload, 1) := by decide +kernel
theorem dX2_channelAt_14 : decode cX2_channelAt 14 = .ok (.goto 5, 3) := by decide +kernel
theorem dX2_channelAt_17 : decode cX2_channelAt 17 = .ok (.bipush (-9), 2) := by decide +kernel
theorem dX2_channelAt_19 : decode cX2_channelAt 19 = .ok (.ireturn, 1) := by decide +kernel
theorem dX2_isFixed_0 : decode cX2_isFixed 0 = .ok (.aload_n 0, 1) := by decide +kernel
theorem dX2_isFixed_1 : decode cX2_isFixed 1 = .ok (.iload_n 1, 1) := by decide +kernel
theorem dX2_isFixed_2 : decode cX2_isFixed 2 = .ok (.invokevirtual 76, 3) := by decide +kernel
theorem dX2_isFixed_5 : decode cX2_isFixed 5 = .ok (.ifCond .eq 17, 3) := by decide +kernel
theorem dX2_isFixed_8 : decode cX2_isFixed 8 = .ok (.aload_n 0, 1) := by decide +kernel
theorem dX2_isFixed_9 : decode cX2_isFixed 9 = .ok (.getfield 22, 3) := by decide +kernel
theorem dX2_isFixed_12 : decode cX2_isFixed 12 = .ok (.iload_n 1, 1) := by decide +kernel
theorem dX2_isFixed_13 : decode cX2_isFixed 13 = .ok (.iaload, 1) := by decide +kernel
theorem dX2_isFixed_14 : decode cX2_isFixed 14 = .ok (.iconst 1, 1) := by decide +kernel
theorem dX2_isFixed_15 : decode cX2_isFixed 15 = .ok (.if_icmp .ne 7, 3) := by decide +kernel
theorem dX2_isFixed_18 : decode cX2_isFixed 18 = .ok (.iconst 1, 1) := by decide +kernel
theorem dX2_isFixed_19 : decode cX2_isFixed 19 = .ok (.goto 4, 3) := by decide +kernel
theorem dX2_isFixed_22 : decode cX2_isFixed 22 = .ok (.iconst 0, 1) := by decide +kernel
theorem dX2_isFixed_23 : decode cX2_isFixed 23 = .ok (.ireturn, 1) := by decide +kernel
theorem dX2_borrows_0 : decode cX2_borrows 0 = .ok (.aload_n 0, 1) := by decide +kernel
theorem dX2_borrows_1 : decode cX2_borrows 1 = .ok (.iload_n 1, 1) := by decide +kernel
theorem dX2_borrows_2 : decode cX2_borrows 2 = .ok (.invokevirtual 80, 3) := by decide +kernel
theorem dX2_borrows_5 : decode cX2_borrows 5 = .ok (.istore_n 2, 1) := by decide +kernel
theorem dX2_borrows_6 : decode cX2_borrows 6 = .ok (.iload_n 2, 1) := by decide +kernel
theorem dX2_borrows_7 : decode cX2_borrows 7 = .ok (.bipush (-9), 2) := by decide +kernel
theorem dX2_borrows_9 : decode cX2_borrows 9 = .ok (.if_icmp .eq 20, 3) := by decide +kernel
theorem dX2_borrows_12 : decode cX2_borrows 12 = .ok (.aload_n 0, 1) := by decide +kernel
theorem dX2_borrows_13 : decode cX2_borrows 13 = .ok (.aload_n 0, 1) := by decide +kernel
theorem dX2_borrows_14 : decode cX2_borrows 14 = .ok (.iload_n 1, 1) := by decide +kernel
theorem dX2_borrows_15 : decode cX2_borrows 15 = .ok (.invokevirtual 84, 3) := by decide +kernel
theorem dX2_borrows_18 : decode cX2_borrows 18 = .ok (.iload_n 2, 1) := by decide +kernel
theorem dX2_borrows_19 : decode cX2_borrows 19 = .ok (.invokevirtual 87, 3) := by decide +kernel
theorem dX2_borrows_22 : decode cX2_borrows 22 = .ok (.ifCond .ne 7, 3) := by decide +kernel
theorem dX2_borrows_25 : decode cX2_borrows 25 = .ok (.iconst 1, 1) := by decide +kernel
theorem dX2_borrows_26 : decode cX2_borrows 26 = .ok (.goto 4, 3) := by decide +kernel
theorem dX2_borrows_29 : decode cX2_borrows 29 = .ok (.iconst 0, 1) := by decide +kernel
theorem dX2_borrows_30 : decode cX2_borrows 30 = .ok (.ireturn, 1) := by decide +kernel
theorem dX2_presentCalls_0 : decode cX2_presentCalls 0 = .ok (.iconst 0, 1) := by decide +kernel
theorem dX2_presentCalls_1 : decode cX2_presentCalls 1 = .ok (.istore_n 1, 1) := by decide +kernel
theorem dX2_presentCalls_2 : decode cX2_presentCalls 2 = .ok (.iconst 0, 1) := by decide +kernel
theorem dX2_presentCalls_3 : decode cX2_presentCalls 3 = .ok (.istore_n 2, 1) := by decide +kernel
theorem dX2_presentCalls_4 : decode cX2_presentCalls 4 = .ok (.iload_n 2, 1) := by decide +kernel
theorem dX2_presentCalls_5 : decode cX2_presentCalls 5 = .ok (.bipush 60, 2) := by decide +kernel
theorem dX2_presentCalls_7 : decode cX2_presentCalls 7 = .ok (.if_icmp .ge 20, 3) := by decide +kernel
theorem dX2_presentCalls_10 : decode cX2_presentCalls 10 = .ok (.aload_n 0, 1) := by decide +kernel
theorem dX2_presentCalls_11 : decode cX2_presentCalls 11 = .ok (.iload_n 2, 1) := by decide +kernel
theorem dX2_presentCalls_12 : decode cX2_presentCalls 12 = .ok (.invokevirtual 76, 3) := by decide +kernel
theorem dX2_presentCalls_15 : decode cX2_presentCalls 15 = .ok (.ifCond .eq 6, 3) := by decide +kernel
theorem dX2_presentCalls_18 : decode cX2_presentCalls 18 = .ok (.iinc 1 1, 3) := by decide +kernel
theorem dX2_presentCalls_21 : decode cX2_presentCalls 21 = .ok (.iinc 2 1, 3) := by decide +kernel
theorem dX2_presentCalls_24 : decode cX2_presentCalls 24 = .ok (.goto (-20), 3) := by decide +kernel
theorem dX2_presentCalls_27 : decode cX2_presentCalls 27 = .ok (.iload_n 1, 1) := by decide +kernel
theorem dX2_presentCalls_28 : decode cX2_presentCalls 28 = .ok (.ireturn, 1) := by decide +kernel
theorem dX2_lowestFreeNumber_0 : decode cX2_lowestFreeNumber 0 = .ok (.iconst 0, 1) := by decide +kernel
theorem dX2_lowestFreeNumber_1 : decode cX2_lowestFreeNumber 1 = .ok (.istore_n 1, 1) := by decide +kernel
theorem dX2_lowestFreeNumber_2 : decode cX2_lowestFreeNumber 2 = .ok (.iload_n 1, 1) := by decide +kernel
theorem dX2_lowestFreeNumber_3 : decode cX2_lowestFreeNumber 3 = .ok (.bipush 60, 2) := by decide +kernel
theorem dX2_lowestFreeNumber_5 : decode cX2_lowestFreeNumber 5 = .ok (.if_icmp .ge 19, 3) := by decide +kernel
theorem dX2_lowestFreeNumber_8 : decode cX2_lowestFreeNumber 8 = .ok (.aload_n 0, 1) := by decide +kernel
theorem dX2_lowestFreeNumber_9 : decode cX2_lowestFreeNumber 9 = .ok (.iload_n 1, 1) := by decide +kernel
theorem dX2_lowestFreeNumber_10 : decode cX2_lowestFreeNumber 10 = .ok (.invokevirtual 76, 3) := by decide +kernel
theorem dX2_lowestFreeNumber_13 : decode cX2_lowestFreeNumber 13 = .ok (.ifCond .ne 5, 3) := by decide +kernel
theorem dX2_lowestFreeNumber_16 : decode cX2_lowestFreeNumber 16 = .ok (.iload_n 1, 1) := by decide +kernel
theorem dX2_lowestFreeNumber_17 : decode cX2_lowestFreeNumber 17 = .ok (.ireturn, 1) := by decide +kernel
theorem dX2_lowestFreeNumber_18 : decode cX2_lowestFreeNumber 18 = .ok (.iinc 1 1, 3) := by decide +kernel
theorem dX2_lowestFreeNumber_21 : decode cX2_lowestFreeNumber 21 = .ok (.goto (-19), 3) := by decide +kernel
theorem dX2_lowestFreeNumber_24 : decode cX2_lowestFreeNumber 24 = .ok (.bipush (-9), 2) := by decide +kernel
theorem dX2_lowestFreeNumber_26 : decode cX2_lowestFreeNumber 26 = .ok (.ireturn, 1) := by decide +kernel
theorem dX2_startError_0 : decode cX2_startError 0 = .ok (.aload_n 0, 1) := by decide +kernel
theorem dX2_startError_1 : decode cX2_startError 1 = .ok (.getfield 32, 3) := by decide +kernel
theorem dX2_startError_4 : decode cX2_startError 4 = .ok (.iload_n 1, 1) := by decide +kernel
theorem dX2_startError_5 : decode cX2_startError 5 = .ok (.invokevirtual 91, 3) := by decide +kernel
theorem dX2_startError_8 : decode cX2_startError 8 = .ok (.ifCond .ne 5, 3) := by decide +kernel
theorem dX2_startError_11 : decode cX2_startError 11 = .ok (.iconst (-1), 1) := by decide +kernel
theorem dX2_startError_12 : decode cX2_startError 12 = .ok (.ireturn, 1) := by decide +kernel
theorem dX2_startError_13 : decode cX2_startError 13 = .ok (.aload_n 0, 1) := by decide +kernel
theorem dX2_startError_14 : decode cX2_startError 14 = .ok (.invokevirtual 96, 3) := by decide +kernel
theorem dX2_startError_17 : decode cX2_startError 17 = .ok (.bipush (-9), 2) := by decide +kernel
theorem dX2_startError_19 : decode cX2_startError 19 = .ok (.if_icmp .ne 8, 3) := by decide +kernel
theorem dX2_startError_22 : decode cX2_startError 22 = .ok (.bipush (-3), 2) := by decide +kernel
theorem dX2_startError_24 : decode cX2_startError 24 = .ok (.goto 4, 3) := by decide +kernel
theorem dX2_startError_27 : decode cX2_startError 27 = .ok (.iconst 0, 1) := by decide +kernel
theorem dX2_startError_28 : decode cX2_startError 28 = .ok (.ireturn, 1) := by decide +kernel
theorem dX2_start_0 : decode cX2_start 0 = .ok (.aload_n 0, 1) := by decide +kernel
theorem dX2_start_1 : decode cX2_start 1 = .ok (.iload_n 1, 1) := by decide +kernel
theorem dX2_start_2 : decode cX2_start 2 = .ok (.invokevirtual 100, 3) := by decide +kernel
theorem dX2_start_5 : decode cX2_start 5 = .ok (.istore_n 2, 1) := by decide +kernel
theorem dX2_start_6 : decode cX2_start 6 = .ok (.aload_n 0, 1) := by decide +kernel
theorem dX2_start_7 : decode cX2_start 7 = .ok (.iload_n 1, 1) := by decide +kernel
theorem dX2_start_8 : decode cX2_start 8 = .ok (.invokevirtual 103, 3) := by decide +kernel
theorem dX2_start_11 : decode cX2_start 11 = .ok (.istore_n 3, 1) := by decide +kernel
theorem dX2_start_12 : decode cX2_start 12 = .ok (.aload_n 0, 1) := by decide +kernel
theorem dX2_start_13 : decode cX2_start 13 = .ok (.dup, 1) := by decide +kernel
theorem dX2_start_14 : decode cX2_start 14 = .ok (.getfield 36, 3) := by decide +kernel
theorem dX2_start_17 : decode cX2_start 17 = .ok (.iconst 1, 1) := by decide +kernel
theorem dX2_start_18 : decode cX2_start 18 = .ok (.iadd, 1) := by decide +kernel
theorem dX2_start_19 : decode cX2_start 19 = .ok (.putfield 36, 3) := by decide +kernel
theorem dX2_start_22 : decode cX2_start 22 = .ok (.iload_n 2, 1) := by decide +kernel
theorem dX2_start_23 : decode cX2_start 23 = .ok (.bipush (-9), 2) := by decide +kernel
theorem dX2_start_25 : decode cX2_start 25 = .ok (.if_icmp .ne 13, 3) := by decide +kernel
theorem dX2_start_28 : decode cX2_start 28 = .ok (.aload_n 0, 1) := by decide +kernel
theorem dX2_start_29 : decode cX2_start 29 = .ok (.dup, 1) := by decide +kernel
theorem dX2_start_30 : decode cX2_start 30 = .ok (.getfield 40, 3) := by decide +kernel
theorem dX2_start_33 : decode cX2_start 33 = .ok (.iconst 1, 1) := by decide +kernel
theorem dX2_start_34 : decode cX2_start 34 = .ok (.iadd, 1) := by decide +kernel
theorem dX2_start_35 : decode cX2_start 35 = .ok (.putfield 40, 3) := by decide +kernel
theorem dX2_start_38 : decode cX2_start 38 = .ok (.iload_n 3, 1) := by decide +kernel
theorem dX2_start_39 : decode cX2_start 39 = .ok (.ifCond .ne 13, 3) := by decide +kernel
theorem dX2_start_42 : decode cX2_start 42 = .ok (.aload_n 0, 1) := by decide +kernel
theorem dX2_start_43 : decode cX2_start 43 = .ok (.dup, 1) := by decide +kernel
theorem dX2_start_44 : decode cX2_start 44 = .ok (.getfield 43, 3) := by decide +kernel
theorem dX2_start_47 : decode cX2_start 47 = .ok (.iconst 1, 1) := by decide +kernel
theorem dX2_start_48 : decode cX2_start 48 = .ok (.iadd, 1) := by decide +kernel
theorem dX2_start_49 : decode cX2_start 49 = .ok (.putfield 43, 3) := by decide +kernel
theorem dX2_start_52 : decode cX2_start 52 = .ok (.aload_n 0, 1) := by decide +kernel
theorem dX2_start_53 : decode cX2_start 53 = .ok (.invokevirtual 96, 3) := by decide +kernel
theorem dX2_start_56 : decode cX2_start 56 = .ok (.istore 4, 2) := by decide +kernel
theorem dX2_start_58 : decode cX2_start 58 = .ok (.iload 4, 2) := by decide +kernel
theorem dX2_start_60 : decode cX2_start 60 = .ok (.iconst 0, 1) := by decide +kernel
theorem dX2_start_61 : decode cX2_start 61 = .ok (.bipush 59, 2) := by decide +kernel
theorem dX2_start_63 : decode cX2_start 63 = .ok (.invokestatic 106, 3) := by decide +kernel
theorem dX2_start_66 : decode cX2_start 66 = .ok (.ifCond .eq 13, 3) := by decide +kernel
theorem dX2_start_69 : decode cX2_start 69 = .ok (.iload_n 2, 1) := by decide +kernel
theorem dX2_start_70 : decode cX2_start 70 = .ok (.bipush (-9), 2) := by decide +kernel
theorem dX2_start_72 : decode cX2_start 72 = .ok (.if_icmp .ne 10, 3) := by decide +kernel
theorem dX2_start_75 : decode cX2_start 75 = .ok (.iload_n 3, 1) := by decide +kernel
theorem dX2_start_76 : decode cX2_start 76 = .ok (.ifCond .ne 6, 3) := by decide +kernel
theorem dX2_start_79 : decode cX2_start 79 = .ok (.bipush (-9), 2) := by decide +kernel
theorem dX2_start_81 : decode cX2_start 81 = .ok (.ireturn, 1) := by decide +kernel
theorem dX2_start_82 : decode cX2_start 82 = .ok (.aload_n 0, 1) := by decide +kernel
theorem dX2_start_83 : decode cX2_start 83 = .ok (.getfield 22, 3) := by decide +kernel
theorem dX2_start_86 : decode cX2_start 86 = .ok (.iload 4, 2) := by decide +kernel
theorem dX2_start_88 : decode cX2_start 88 = .ok (.iload_n 3, 1) := by decide +kernel
theorem dX2_start_89 : decode cX2_start 89 = .ok (.invokestatic 110, 3) := by decide +kernel
theorem dX2_start_92 : decode cX2_start 92 = .ok (.iastore, 1) := by decide +kernel
theorem dX2_start_93 : decode cX2_start 93 = .ok (.aload_n 0, 1) := by decide +kernel
theorem dX2_start_94 : decode cX2_start 94 = .ok (.iload 4, 2) := by decide +kernel
theorem dX2_start_96 : decode cX2_start 96 = .ok (.iload_n 1, 1) := by decide +kernel
theorem dX2_start_97 : decode cX2_start 97 = .ok (.iload_n 2, 1) := by decide +kernel
theorem dX2_start_98 : decode cX2_start 98 = .ok (.invokevirtual 114, 3) := by decide +kernel
theorem dX2_start_101 : decode cX2_start 101 = .ok (.iload 4, 2) := by decide +kernel
theorem dX2_start_103 : decode cX2_start 103 = .ok (.ireturn, 1) := by decide +kernel
theorem dX2_end_0 : decode cX2_end 0 = .ok (.aload_n 0, 1) := by decide +kernel
theorem dX2_end_1 : decode cX2_end 1 = .ok (.iload_n 1, 1) := by decide +kernel
theorem dX2_end_2 : decode cX2_end 2 = .ok (.invokevirtual 80, 3) := by decide +kernel
theorem dX2_end_5 : decode cX2_end 5 = .ok (.istore_n 2, 1) := by decide +kernel
theorem dX2_end_6 : decode cX2_end 6 = .ok (.aload_n 0, 1) := by decide +kernel
theorem dX2_end_7 : decode cX2_end 7 = .ok (.iload_n 1, 1) := by decide +kernel
theorem dX2_end_8 : decode cX2_end 8 = .ok (.invokevirtual 118, 3) := by decide +kernel
theorem dX2_end_11 : decode cX2_end 11 = .ok (.aload_n 0, 1) := by decide +kernel
theorem dX2_end_12 : decode cX2_end 12 = .ok (.iload_n 1, 1) := by decide +kernel
theorem dX2_end_13 : decode cX2_end 13 = .ok (.invokevirtual 76, 3) := by decide +kernel
theorem dX2_end_16 : decode cX2_end 16 = .ok (.ifCond .eq 10, 3) := by decide +kernel
theorem dX2_end_19 : decode cX2_end 19 = .ok (.aload_n 0, 1) := by decide +kernel
theorem dX2_end_20 : decode cX2_end 20 = .ok (.getfield 22, 3) := by decide +kernel
theorem dX2_end_23 : decode cX2_end 23 = .ok (.iload_n 1, 1) := by decide +kernel
theorem dX2_end_24 : decode cX2_end 24 = .ok (.iconst 0, 1) := by decide +kernel
theorem dX2_end_25 : decode cX2_end 25 = .ok (.iastore, 1) := by decide +kernel
theorem dX2_end_26 : decode cX2_end 26 = .ok (.aload_n 0, 1) := by decide +kernel
theorem dX2_end_27 : decode cX2_end 27 = .ok (.invokevirtual 122, 3) := by decide +kernel
theorem dX2_end_30 : decode cX2_end 30 = .ok (.pop, 1) := by decide +kernel
theorem dX2_end_31 : decode cX2_end 31 = .ok (.iload_n 2, 1) := by decide +kernel
theorem dX2_end_32 : decode cX2_end 32 = .ok (.ireturn, 1) := by decide +kernel
theorem dX2_moveError_0 : decode cX2_moveError 0 = .ok (.aload_n 0, 1) := by decide +kernel
theorem dX2_moveError_1 : decode cX2_moveError 1 = .ok (.iload_n 1, 1) := by decide +kernel
theorem dX2_moveError_2 : decode cX2_moveError 2 = .ok (.invokevirtual 76, 3) := by decide +kernel
theorem dX2_moveError_5 : decode cX2_moveError 5 = .ok (.ifCond .ne 6, 3) := by decide +kernel
theorem dX2_moveError_8 : decode cX2_moveError 8 = .ok (.bipush (-4), 2) := by decide +kernel
theorem dX2_moveError_10 : decode cX2_moveError 10 = .ok (.ireturn, 1) := by decide +kernel
theorem dX2_moveError_11 : decode cX2_moveError 11 = .ok (.aload_n 0, 1) := by decide +kernel
theorem dX2_moveError_12 : decode cX2_moveError 12 = .ok (.getfield 32, 3) := by decide +kernel
theorem dX2_moveError_15 : decode cX2_moveError 15 = .ok (.iload_n 2, 1) := by decide +kernel
theorem dX2_moveError_16 : decode cX2_moveError 16 = .ok (.invokevirtual 91, 3) := by decide +kernel
theorem dX2_moveError_19 : decode cX2_moveError 19 = .ok (.ifCond .eq 25, 3) := by decide +kernel
theorem dX2_moveError_22 : decode cX2_moveError 22 = .ok (.aload_n 0, 1) := by decide +kernel
theorem dX2_moveError_23 : decode cX2_moveError 23 = .ok (.getfield 32, 3) := by decide +kernel
theorem dX2_moveError_26 : decode cX2_moveError 26 = .ok (.aload_n 0, 1) := by decide +kernel
theorem dX2_moveError_27 : decode cX2_moveError 27 = .ok (.getfield 15, 3) := by decide +kernel
theorem dX2_moveError_30 : decode cX2_moveError 30 = .ok (.iload_n 1, 1) := by decide +kernel
theorem dX2_moveError_31 : decode cX2_moveError 31 = .ok (.iaload, 1) := by decide +kernel
theorem dX2_moveError_32 : decode cX2_moveError 32 = .ok (.iload_n 2, 1) := by decide +kernel
theorem dX2_moveError_33 : decode cX2_moveError 33 = .ok (.invokevirtual 125, 3) := by decide +kernel
theorem dX2_moveError_36 : decode cX2_moveError 36 = .ok (.iconst 1, 1) := by decide +kernel
theorem dX2_moveError_37 : decode cX2_moveError 37 = .ok (.if_icmp .ne 7, 3) := by decide +kernel
theorem dX2_moveError_40 : decode cX2_moveError 40 = .ok (.iconst 1, 1) := by decide +kernel
theorem dX2_moveError_41 : decode cX2_moveError 41 = .ok (.goto 4, 3) := by decide +kernel
theorem dX2_moveError_44 : decode cX2_moveError 44 = .ok (.iconst 0, 1) := by decide +kernel
theorem dX2_moveError_45 : decode cX2_moveError 45 = .ok (.istore_n 3, 1) := by decide +kernel
theorem dX2_moveError_46 : decode cX2_moveError 46 = .ok (.iload_n 3, 1) := by decide +kernel
theorem dX2_moveError_47 : decode cX2_moveError 47 = .ok (.ifCond .eq 7, 3) := by decide +kernel
theorem dX2_moveError_50 : decode cX2_moveError 50 = .ok (.iconst 0, 1) := by decide +kernel
theorem dX2_moveError_51 : decode cX2_moveError 51 = .ok (.goto 4, 3) := by decide +kernel
theorem dX2_moveError_54 : decode cX2_moveError 54 = .ok (.iconst (-1), 1) := by decide +kernel
theorem dX2_moveError_55 : decode cX2_moveError 55 = .ok (.ireturn, 1) := by decide +kernel
theorem dX2_move_0 : decode cX2_move 0 = .ok (.aload_n 0, 1) := by decide +kernel
theorem dX2_move_1 : decode cX2_move 1 = .ok (.iload_n 1, 1) := by decide +kernel
theorem dX2_move_2 : decode cX2_move 2 = .ok (.invokevirtual 76, 3) := by decide +kernel
theorem dX2_move_5 : decode cX2_move 5 = .ok (.ifCond .ne 6, 3) := by decide +kernel
theorem dX2_move_8 : decode cX2_move 8 = .ok (.bipush (-9), 2) := by decide +kernel
theorem dX2_move_10 : decode cX2_move 10 = .ok (.ireturn, 1) := by decide +kernel
theorem dX2_move_11 : decode cX2_move 11 = .ok (.aload_n 0, 1) := by decide +kernel
theorem dX2_move_12 : decode cX2_move 12 = .ok (.getfield 22, 3) := by decide +kernel
theorem dX2_move_15 : decode cX2_move 15 = .ok (.iload_n 1, 1) := by decide +kernel
theorem dX2_move_16 : decode cX2_move 16 = .ok (.iaload, 1) := by decide +kernel
theorem dX2_move_17 : decode cX2_move 17 = .ok (.iconst 1, 1) := by decide +kernel
theorem dX2_move_18 : decode cX2_move 18 = .ok (.if_icmp .ne 28, 3) := by decide +kernel
theorem dX2_move_21 : decode cX2_move 21 = .ok (.aload_n 0, 1) := by decide +kernel
theorem dX2_move_22 : decode cX2_move 22 = .ok (.iload_n 2, 1) := by decide +kernel
theorem dX2_move_23 : decode cX2_move 23 = .ok (.invokevirtual 103, 3) := by decide +kernel
theorem dX2_move_26 : decode cX2_move 26 = .ok (.ifCond .ne 20, 3) := by decide +kernel
theorem dX2_move_29 : decode cX2_move 29 = .ok (.aload_n 0, 1) := by decide +kernel
theorem dX2_move_30 : decode cX2_move 30 = .ok (.getfield 22, 3) := by decide +kernel
theorem dX2_move_33 : decode cX2_move 33 = .ok (.iload_n 1, 1) := by decide +kernel
theorem dX2_move_34 : decode cX2_move 34 = .ok (.iconst 0, 1) := by decide +kernel
theorem dX2_move_35 : decode cX2_move 35 = .ok (.iastore, 1) := by decide +kernel
theorem dX2_move_36 : decode cX2_move 36 = .ok (.aload_n 0, 1) := by decide +kernel
theorem dX2_move_37 : decode cX2_move 37 = .ok (.dup, 1) := by decide +kernel
theorem dX2_move_38 : decode cX2_move 38 = .ok (.getfield 49, 3) := by decide +kernel
theorem dX2_move_41 : decode cX2_move 41 = .ok (.iconst 1, 1) := by decide +kernel
theorem dX2_move_42 : decode cX2_move 42 = .ok (.iadd, 1) := by decide +kernel
theorem dX2_move_43 : decode cX2_move 43 = .ok (.putfield 49, 3) := by decide +kernel
theorem dX2_move_46 : decode cX2_move 46 = .ok (.bipush (-9), 2) := by decide +kernel
theorem dX2_move_48 : decode cX2_move 48 = .ok (.istore_n 3, 1) := by decide +kernel
theorem dX2_move_49 : decode cX2_move 49 = .ok (.aload_n 0, 1) := by decide +kernel
theorem dX2_move_50 : decode cX2_move 50 = .ok (.getfield 19, 3) := by decide +kernel
theorem dX2_move_53 : decode cX2_move 53 = .ok (.iload_n 1, 1) := by decide +kernel
theorem dX2_move_54 : decode cX2_move 54 = .ok (.iaload, 1) := by decide +kernel
theorem dX2_move_55 : decode cX2_move 55 = .ok (.bipush (-9), 2) := by decide +kernel
theorem dX2_move_57 : decode cX2_move 57 = .ok (.if_icmp .eq 30, 3) := by decide +kernel
theorem dX2_move_60 : decode cX2_move 60 = .ok (.aload_n 0, 1) := by decide +kernel
theorem dX2_move_61 : decode cX2_move 61 = .ok (.iload_n 2, 1) := by decide +kernel
theorem dX2_move_62 : decode cX2_move 62 = .ok (.invokevirtual 100, 3) := by decide +kernel
theorem dX2_move_65 : decode cX2_move 65 = .ok (.istore_n 3, 1) := by decide +kernel
theorem dX2_move_66 : decode cX2_move 66 = .ok (.aload_n 0, 1) := by decide +kernel
theorem dX2_move_67 : decode cX2_move 67 = .ok (.iload_n 1, 1) := by decide +kernel
theorem dX2_move_68 : decode cX2_move 68 = .ok (.invokevirtual 118, 3) := by decide +kernel
theorem dX2_move_71 : decode cX2_move 71 = .ok (.iload_n 3, 1) := by decide +kernel
theorem dX2_move_72 : decode cX2_move 72 = .ok (.bipush (-9), 2) := by decide +kernel
theorem dX2_move_74 : decode cX2_move 74 = .ok (.if_icmp .ne 13, 3) := by decide +kernel
theorem dX2_move_77 : decode cX2_move 77 = .ok (.aload_n 0, 1) := by decide +kernel
theorem dX2_move_78 : decode cX2_move 78 = .ok (.dup, 1) := by decide +kernel
theorem dX2_move_79 : decode cX2_move 79 = .ok (.getfield 46, 3) := by decide +kernel
theorem dX2_move_82 : decode cX2_move 82 = .ok (.iconst 1, 1) := by decide +kernel
theorem dX2_move_83 : decode cX2_move 83 = .ok (.iadd, 1) := by decide +kernel
theorem dX2_move_84 : decode cX2_move 84 = .ok (.putfield 46, 3) := by decide +kernel
theorem dX2_move_87 : decode cX2_move 87 = .ok (.aload_n 0, 1) := by decide +kernel
theorem dX2_move_88 : decode cX2_move 88 = .ok (.iload_n 1, 1) := by decide +kernel
theorem dX2_move_89 : decode cX2_move 89 = .ok (.iload_n 2, 1) := by decide +kernel
theorem dX2_move_90 : decode cX2_move 90 = .ok (.iload_n 3, 1) := by decide +kernel
theorem dX2_move_91 : decode cX2_move 91 = .ok (.invokevirtual 114, 3) := by decide +kernel
theorem dX2_move_94 : decode cX2_move 94 = .ok (.aload_n 0, 1) := by decide +kernel
theorem dX2_move_95 : decode cX2_move 95 = .ok (.invokevirtual 122, 3) := by decide +kernel
theorem dX2_move_98 : decode cX2_move 98 = .ok (.pop, 1) := by decide +kernel
theorem dX2_move_99 : decode cX2_move 99 = .ok (.iload_n 3, 1) := by decide +kernel
theorem dX2_move_100 : decode cX2_move 100 = .ok (.ireturn, 1) := by decide +kernel
theorem dX2_place_0 : decode cX2_place 0 = .ok (.iload_n 1, 1) := by decide +kernel
theorem dX2_place_1 : decode cX2_place 1 = .ok (.iconst 0, 1) := by decide +kernel
theorem dX2_place_2 : decode cX2_place 2 = .ok (.bipush 59, 2) := by decide +kernel
theorem dX2_place_4 : decode cX2_place 4 = .ok (.invokestatic 106, 3) := by decide +kernel
theorem dX2_place_7 : decode cX2_place 7 = .ok (.ifCond .eq 34, 3) := by decide +kernel
theorem dX2_place_10 : decode cX2_place 10 = .ok (.aload_n 0, 1) := by decide +kernel
theorem dX2_place_11 : decode cX2_place 11 = .ok (.getfield 15, 3) := by decide +kernel
theorem dX2_place_14 : decode cX2_place 14 = .ok (.iload_n 1, 1) := by decide +kernel
theorem dX2_place_15 : decode cX2_place 15 = .ok (.iload_n 2, 1) := by decide +kernel
theorem dX2_place_16 : decode cX2_place 16 = .ok (.iastore, 1) := by decide +kernel
theorem dX2_place_17 : decode cX2_place 17 = .ok (.aload_n 0, 1) := by decide +kernel
theorem dX2_place_18 : decode cX2_place 18 = .ok (.iload_n 1, 1) := by decide +kernel
theorem dX2_place_19 : decode cX2_place 19 = .ok (.iload_n 3, 1) := by decide +kernel
theorem dX2_place_20 : decode cX2_place 20 = .ok (.invokevirtual 129, 3) := by decide +kernel
theorem dX2_place_23 : decode cX2_place 23 = .ok (.aload_n 0, 1) := by decide +kernel
theorem dX2_place_24 : decode cX2_place 24 = .ok (.iload_n 1, 1) := by decide +kernel
theorem dX2_place_25 : decode cX2_place 25 = .ok (.invokevirtual 133, 3) := by decide +kernel
theorem dX2_place_28 : decode cX2_place 28 = .ok (.ifCond .eq 13, 3) := by decide +kernel
theorem dX2_place_31 : decode cX2_place 31 = .ok (.aload_n 0, 1) := by decide +kernel
theorem dX2_place_32 : decode cX2_place 32 = .ok (.dup, 1) := by decide +kernel
theorem dX2_place_33 : decode cX2_place 33 = .ok (.getfield 52, 3) := by decide +kernel
theorem dX2_place_36 : decode cX2_place 36 = .ok (.iconst 1, 1) := by decide +kernel
theorem dX2_place_37 : decode cX2_place 37 = .ok (.iadd, 1) := by decide +kernel
theorem dX2_place_38 : decode cX2_place 38 = .ok (.putfield 52, 3) := by decide +kernel
theorem dX2_place_41 : decode cX2_place 41 = .ok (.return_, 1) := by decide +kernel
theorem dX2_occupy_0 : decode cX2_occupy 0 = .ok (.iload_n 1, 1) := by decide +kernel
theorem dX2_occupy_1 : decode cX2_occupy 1 = .ok (.iconst 0, 1) := by decide +kernel
theorem dX2_occupy_2 : decode cX2_occupy 2 = .ok (.bipush 59, 2) := by decide +kernel
theorem dX2_occupy_4 : decode cX2_occupy 4 = .ok (.invokestatic 106, 3) := by decide +kernel
theorem dX2_occupy_7 : decode cX2_occupy 7 = .ok (.ifCond .eq 12, 3) := by decide +kernel
theorem dX2_occupy_10 : decode cX2_occupy 10 = .ok (.aload_n 0, 1) := by decide +kernel
theorem dX2_occupy_11 : decode cX2_occupy 11 = .ok (.getfield 15, 3) := by decide +kernel
theorem dX2_occupy_14 : decode cX2_occupy 14 = .ok (.iload_n 1, 1) := by decide +kernel
theorem dX2_occupy_15 : decode cX2_occupy 15 = .ok (.iaload, 1) := by decide +kernel
theorem dX2_occupy_16 : decode cX2_occupy 16 = .ok (.goto 5, 3) := by decide +kernel
theorem dX2_occupy_19 : decode cX2_occupy 19 = .ok (.bipush (-9), 2) := by decide +kernel
theorem dX2_occupy_21 : decode cX2_occupy 21 = .ok (.istore_n 3, 1) := by decide +kernel
theorem dX2_occupy_22 : decode cX2_occupy 22 = .ok (.iload_n 2, 1) := by decide +kernel
theorem dX2_occupy_23 : decode cX2_occupy 23 = .ok (.bipush (-9), 2) := by decide +kernel
theorem dX2_occupy_25 : decode cX2_occupy 25 = .ok (.if_icmp .eq 33, 3) := by decide +kernel
theorem dX2_occupy_28 : decode cX2_occupy 28 = .ok (.aload_n 0, 1) := by decide +kernel
theorem dX2_occupy_29 : decode cX2_occupy 29 = .ok (.getfield 32, 3) := by decide +kernel
theorem dX2_occupy_32 : decode cX2_occupy 32 = .ok (.iload_n 3, 1) := by decide +kernel
theorem dX2_occupy_33 : decode cX2_occupy 33 = .ok (.invokevirtual 91, 3) := by decide +kernel
theorem dX2_occupy_36 : decode cX2_occupy 36 = .ok (.ifCond .eq 22, 3) := by decide +kernel
theorem dX2_occupy_39 : decode cX2_occupy 39 = .ok (.aload_n 0, 1) := by decide +kernel
theorem dX2_occupy_40 : decode cX2_occupy 40 = .ok (.getfield 19, 3) := by decide +kernel
theorem dX2_occupy_43 : decode cX2_occupy 43 = .ok (.iload_n 1, 1) := by decide +kernel
theorem dX2_occupy_44 : decode cX2_occupy 44 = .ok (.iload_n 2, 1) := by decide +kernel
theorem dX2_occupy_45 : decode cX2_occupy 45 = .ok (.iastore, 1) := by decide +kernel
theorem dX2_occupy_46 : decode cX2_occupy 46 = .ok (.aload_n 0, 1) := by decide +kernel
theorem dX2_occupy_47 : decode cX2_occupy 47 = .ok (.getfield 25, 3) := by decide +kernel
theorem dX2_occupy_50 : decode cX2_occupy 50 = .ok (.iload_n 3, 1) := by decide +kernel
theorem dX2_occupy_51 : decode cX2_occupy 51 = .ok (.dup2, 1) := by decide +kernel
theorem dX2_occupy_52 : decode cX2_occupy 52 = .ok (.iaload, 1) := by decide +kernel
theorem dX2_occupy_53 : decode cX2_occupy 53 = .ok (.iconst 1, 1) := by decide +kernel
theorem dX2_occupy_54 : decode cX2_occupy 54 = .ok (.iload_n 2, 1) := by decide +kernel
theorem dX2_occupy_55 : decode cX2_occupy 55 = .ok (.ishl, 1) := by decide +kernel
theorem dX2_occupy_56 : decode cX2_occupy 56 = .ok (.ior, 1) := by decide +kernel
theorem dX2_occupy_57 : decode cX2_occupy 57 = .ok (.iastore, 1) := by decide +kernel
theorem dX2_occupy_58 : decode cX2_occupy 58 = .ok (.return_, 1) := by decide +kernel
theorem dX2_release_0 : decode cX2_release 0 = .ok (.aload_n 0, 1) := by decide +kernel
theorem dX2_release_1 : decode cX2_release 1 = .ok (.iload_n 1, 1) := by decide +kernel
theorem dX2_release_2 : decode cX2_release 2 = .ok (.invokevirtual 76, 3) := by decide +kernel
theorem dX2_release_5 : decode cX2_release 5 = .ok (.ifCond .eq 14, 3) := by decide +kernel
theorem dX2_release_8 : decode cX2_release 8 = .ok (.aload_n 0, 1) := by decide +kernel
theorem dX2_release_9 : decode cX2_release 9 = .ok (.getfield 19, 3) := by decide +kernel
theorem dX2_release_12 : decode cX2_release 12 = .ok (.iload_n 1, 1) := by decide +kernel
theorem dX2_release_13 : decode cX2_release 13 = .ok (.iaload, 1) := by decide +kernel
theorem dX2_release_14 : decode cX2_release 14 = .ok (.bipush (-9), 2) := by decide +kernel
theorem dX2_release_16 : decode cX2_release 16 = .ok (.if_icmp .ne 4, 3) := by decide +kernel
theorem dX2_release_19 : decode cX2_release 19 = .ok (.return_, 1) := by decide +kernel
theorem dX2_release_20 : decode cX2_release 20 = .ok (.aload_n 0, 1) := by decide +kernel
theorem dX2_release_21 : decode cX2_release 21 = .ok (.getfield 15, 3) := by decide +kernel
theorem dX2_release_24 : decode cX2_release 24 = .ok (.iload_n 1, 1) := by decide +kernel
theorem dX2_release_25 : decode cX2_release 25 = .ok (.iaload, 1) := by decide +kernel
theorem dX2_release_26 : decode cX2_release 26 = .ok (.istore_n 2, 1) := by decide +kernel
theorem dX2_release_27 : decode cX2_release 27 = .ok (.aload_n 0, 1) := by decide +kernel
theorem dX2_release_28 : decode cX2_release 28 = .ok (.getfield 32, 3) := by decide +kernel
theorem dX2_release_31 : decode cX2_release 31 = .ok (.iload_n 2, 1) := by decide +kernel
theorem dX2_release_32 : decode cX2_release 32 = .ok (.invokevirtual 91, 3) := by decide +kernel
theorem dX2_release_35 : decode cX2_release 35 = .ok (.ifCond .eq 30, 3) := by decide +kernel
theorem dX2_release_38 : decode cX2_release 38 = .ok (.aload_n 0, 1) := by decide +kernel
theorem dX2_release_39 : decode cX2_release 39 = .ok (.getfield 25, 3) := by decide +kernel
theorem dX2_release_42 : decode cX2_release 42 = .ok (.iload_n 2, 1) := by decide +kernel
theorem dX2_release_43 : decode cX2_release 43 = .ok (.dup2, 1) := by decide +kernel
theorem dX2_release_44 : decode cX2_release 44 = .ok (.iaload, 1) := by decide +kernel
theorem dX2_release_45 : decode cX2_release 45 = .ok (.iconst 1, 1) := by decide +kernel
theorem dX2_release_46 : decode cX2_release 46 = .ok (.aload_n 0, 1) := by decide +kernel
theorem dX2_release_47 : decode cX2_release 47 = .ok (.getfield 19, 3) := by decide +kernel
theorem dX2_release_50 : decode cX2_release 50 = .ok (.iload_n 1, 1) := by decide +kernel
theorem dX2_release_51 : decode cX2_release 51 = .ok (.iaload, 1) := by decide +kernel
theorem dX2_release_52 : decode cX2_release 52 = .ok (.ishl, 1) := by decide +kernel
theorem dX2_release_53 : decode cX2_release 53 = .ok (.iconst (-1), 1) := by decide +kernel
theorem dX2_release_54 : decode cX2_release 54 = .ok (.ixor, 1) := by decide +kernel
theorem dX2_release_55 : decode cX2_release 55 = .ok (.iand, 1) := by decide +kernel
theorem dX2_release_56 : decode cX2_release 56 = .ok (.iastore, 1) := by decide +kernel
theorem dX2_release_57 : decode cX2_release 57 = .ok (.aload_n 0, 1) := by decide +kernel
theorem dX2_release_58 : decode cX2_release 58 = .ok (.getfield 19, 3) := by decide +kernel
theorem dX2_release_61 : decode cX2_release 61 = .ok (.iload_n 1, 1) := by decide +kernel
theorem dX2_release_62 : decode cX2_release 62 = .ok (.bipush (-9), 2) := by decide +kernel
theorem dX2_release_64 : decode cX2_release 64 = .ok (.iastore, 1) := by decide +kernel
theorem dX2_release_65 : decode cX2_release 65 = .ok (.return_, 1) := by decide +kernel
theorem dX2_fixedAccepts_0 : decode cX2_fixedAccepts 0 = .ok (.iconst 0, 1) := by decide +kernel
theorem dX2_fixedAccepts_1 : decode cX2_fixedAccepts 1 = .ok (.istore_n 2, 1) := by decide +kernel
theorem dX2_fixedAccepts_2 : decode cX2_fixedAccepts 2 = .ok (.iconst 0, 1) := by decide +kernel
theorem dX2_fixedAccepts_3 : decode cX2_fixedAccepts 3 = .ok (.istore_n 3, 1) := by decide +kernel
theorem dX2_fixedAccepts_4 : decode cX2_fixedAccepts 4 = .ok (.iload_n 3, 1) := by decide +kernel
theorem dX2_fixedAccepts_5 : decode cX2_fixedAccepts 5 = .ok (.bipush 60, 2) := by decide +kernel
theorem dX2_fixedAccepts_7 : decode cX2_fixedAccepts 7 = .ok (.if_icmp .ge 32, 3) := by decide +kernel
theorem dX2_fixedAccepts_10 : decode cX2_fixedAccepts 10 = .ok (.aload_n 0, 1) := by decide +kernel
theorem dX2_fixedAccepts_11 : decode cX2_fixedAccepts 11 = .ok (.getfield 22, 3) := by decide +kernel
theorem dX2_fixedAccepts_14 : decode cX2_fixedAccepts 14 = .ok (.iload_n 3, 1) := by decide +kernel
theorem dX2_fixedAccepts_15 : decode cX2_fixedAccepts 15 = .ok (.iaload, 1) := by decide +kernel
theorem dX2_fixedAccepts_16 : decode cX2_fixedAccepts 16 = .ok (.iconst 1, 1) := by decide +kernel
theorem dX2_fixedAccepts_17 : decode cX2_fixedAccepts 17 = .ok (.if_icmp .ne 16, 3) := by decide +kernel
theorem dX2_fixedAccepts_20 : decode cX2_fixedAccepts 20 = .ok (.aload_n 0, 1) := by decide +kernel
theorem dX2_fixedAccepts_21 : decode cX2_fixedAccepts 21 = .ok (.getfield 15, 3) := by decide +kernel
theorem dX2_fixedAccepts_24 : decode cX2_fixedAccepts 24 = .ok (.iload_n 3, 1) := by decide +kernel
theorem dX2_fixedAccepts_25 : decode cX2_fixedAccepts 25 = .ok (.iaload, 1) := by decide +kernel
theorem dX2_fixedAccepts_26 : decode cX2_fixedAccepts 26 = .ok (.iload_n 1, 1) := by decide +kernel
theorem dX2_fixedAccepts_27 : decode cX2_fixedAccepts 27 = .ok (.if_icmp .ne 6, 3) := by decide +kernel
theorem dX2_fixedAccepts_30 : decode cX2_fixedAccepts 30 = .ok (.iinc 2 1, 3) := by decide +kernel
theorem dX2_fixedAccepts_33 : decode cX2_fixedAccepts 33 = .ok (.iinc 3 1, 3) := by decide +kernel
theorem dX2_fixedAccepts_36 : decode cX2_fixedAccepts 36 = .ok (.goto (-32), 3) := by decide +kernel
theorem dX2_fixedAccepts_39 : decode cX2_fixedAccepts 39 = .ok (.iload_n 2, 1) := by decide +kernel
theorem dX2_fixedAccepts_40 : decode cX2_fixedAccepts 40 = .ok (.aload_n 0, 1) := by decide +kernel
theorem dX2_fixedAccepts_41 : decode cX2_fixedAccepts 41 = .ok (.getfield 32, 3) := by decide +kernel
theorem dX2_fixedAccepts_44 : decode cX2_fixedAccepts 44 = .ok (.getfield 136, 3) := by decide +kernel
theorem dX2_fixedAccepts_47 : decode cX2_fixedAccepts 47 = .ok (.if_icmp .ge 7, 3) := by decide +kernel
theorem dX2_fixedAccepts_50 : decode cX2_fixedAccepts 50 = .ok (.iconst 1, 1) := by decide +kernel
theorem dX2_fixedAccepts_51 : decode cX2_fixedAccepts 51 = .ok (.goto 4, 3) := by decide +kernel
theorem dX2_fixedAccepts_54 : decode cX2_fixedAccepts 54 = .ok (.iconst 0, 1) := by decide +kernel
theorem dX2_fixedAccepts_55 : decode cX2_fixedAccepts 55 = .ok (.ireturn, 1) := by decide +kernel
theorem dX2_returnCalls_0 : decode cX2_returnCalls 0 = .ok (.aload_n 0, 1) := by decide +kernel
theorem dX2_returnCalls_1 : decode cX2_returnCalls 1 = .ok (.getfield 9, 3) := by decide +kernel
theorem dX2_returnCalls_4 : decode cX2_returnCalls 4 = .ok (.ifCond .ne 5, 3) := by decide +kernel
theorem dX2_returnCalls_7 : decode cX2_returnCalls 7 = .ok (.iconst 0, 1) := by decide +kernel
theorem dX2_returnCalls_8 : decode cX2_returnCalls 8 = .ok (.ireturn, 1) := by decide +kernel
theorem dX2_returnCalls_9 : decode cX2_returnCalls 9 = .ok (.iconst 0, 1) := by decide +kernel
theorem dX2_returnCalls_10 : decode cX2_returnCalls 10 = .ok (.istore_n 1, 1) := by decide +kernel
theorem dX2_returnCalls_11 : decode cX2_returnCalls 11 = .ok (.iconst 0, 1) := by decide +kernel
theorem dX2_returnCalls_12 : decode cX2_returnCalls 12 = .ok (.istore_n 2, 1) := by decide +kernel
theorem dX2_returnCalls_13 : decode cX2_returnCalls 13 = .ok (.iload_n 2, 1) := by decide +kernel
theorem dX2_returnCalls_14 : decode cX2_returnCalls 14 = .ok (.bipush 60, 2) := by decide +kernel
theorem dX2_returnCalls_16 : decode cX2_returnCalls 16 = .ok (.if_icmp .ge 53, 3) := by decide +kernel
theorem dX2_returnCalls_19 : decode cX2_returnCalls 19 = .ok (.aload_n 0, 1) := by decide +kernel
theorem dX2_returnCalls_20 : decode cX2_returnCalls 20 = .ok (.invokevirtual 139, 3) := by decide +kernel
theorem dX2_returnCalls_23 : decode cX2_returnCalls 23 = .ok (.istore_n 3, 1) := by decide +kernel
theorem dX2_returnCalls_24 : decode cX2_returnCalls 24 = .ok (.iload_n 3, 1) := by decide +kernel
theorem dX2_returnCalls_25 : decode cX2_returnCalls 25 = .ok (.bipush (-9), 2) := by decide +kernel
theorem dX2_returnCalls_27 : decode cX2_returnCalls 27 = .ok (.if_icmp .ne 6, 3) := by decide +kernel
theorem dX2_returnCalls_30 : decode cX2_returnCalls 30 = .ok (.goto 39, 3) := by decide +kernel
theorem dX2_returnCalls_33 : decode cX2_returnCalls 33 = .ok (.aload_n 0, 1) := by decide +kernel
theorem dX2_returnCalls_34 : decode cX2_returnCalls 34 = .ok (.aload_n 0, 1) := by decide +kernel
theorem dX2_returnCalls_35 : decode cX2_returnCalls 35 = .ok (.aload_n 0, 1) := by decide +kernel
theorem dX2_returnCalls_36 : decode cX2_returnCalls 36 = .ok (.iload_n 3, 1) := by decide +kernel
theorem dX2_returnCalls_37 : decode cX2_returnCalls 37 = .ok (.invokevirtual 84, 3) := by decide +kernel
theorem dX2_returnCalls_40 : decode cX2_returnCalls 40 = .ok (.invokevirtual 142, 3) := by decide +kernel
theorem dX2_returnCalls_43 : decode cX2_returnCalls 43 = .ok (.invokevirtual 145, 3) := by decide +kernel
theorem dX2_returnCalls_46 : decode cX2_returnCalls 46 = .ok (.istore 4, 2) := by decide +kernel
theorem dX2_returnCalls_48 : decode cX2_returnCalls 48 = .ok (.aload_n 0, 1) := by decide +kernel
theorem dX2_returnCalls_49 : decode cX2_returnCalls 49 = .ok (.iload_n 3, 1) := by decide +kernel
theorem dX2_returnCalls_50 : decode cX2_returnCalls 50 = .ok (.invokevirtual 118, 3) := by decide +kernel
theorem dX2_returnCalls_53 : decode cX2_returnCalls 53 = .ok (.aload_n 0, 1) := by decide +kernel
theorem dX2_returnCalls_54 : decode cX2_returnCalls 54 = .ok (.iload_n 3, 1) := by decide +kernel
theorem dX2_returnCalls_55 : decode cX2_returnCalls 55 = .ok (.iload 4, 2) := by decide +kernel
theorem dX2_returnCalls_57 : decode cX2_returnCalls 57 = .ok (.invokevirtual 129, 3) := by decide +kernel
theorem dX2_returnCalls_60 : decode cX2_returnCalls 60 = .ok (.iinc 1 1, 3) := by decide +kernel
theorem dX2_returnCalls_63 : decode cX2_returnCalls 63 = .ok (.iinc 2 1, 3) := by decide +kernel
theorem dX2_returnCalls_66 : decode cX2_returnCalls 66 = .ok (.goto (-53), 3) := by decide +kernel
theorem dX2_returnCalls_69 : decode cX2_returnCalls 69 = .ok (.aload_n 0, 1) := by decide +kernel
theorem dX2_returnCalls_70 : decode cX2_returnCalls 70 = .ok (.dup, 1) := by decide +kernel
theorem dX2_returnCalls_71 : decode cX2_returnCalls 71 = .ok (.getfield 55, 3) := by decide +kernel
theorem dX2_returnCalls_74 : decode cX2_returnCalls 74 = .ok (.iload_n 1, 1) := by decide +kernel
theorem dX2_returnCalls_75 : decode cX2_returnCalls 75 = .ok (.iadd, 1) := by decide +kernel
theorem dX2_returnCalls_76 : decode cX2_returnCalls 76 = .ok (.putfield 55, 3) := by decide +kernel
theorem dX2_returnCalls_79 : decode cX2_returnCalls 79 = .ok (.iload_n 1, 1) := by decide +kernel
theorem dX2_returnCalls_80 : decode cX2_returnCalls 80 = .ok (.ireturn, 1) := by decide +kernel
theorem dX2_nextToReturn_0 : decode cX2_nextToReturn 0 = .ok (.bipush (-9), 2) := by decide +kernel
theorem dX2_nextToReturn_2 : decode cX2_nextToReturn 2 = .ok (.istore_n 1, 1) := by decide +kernel
theorem dX2_nextToReturn_3 : decode cX2_nextToReturn 3 = .ok (.iconst 0, 1) := by decide +kernel
theorem dX2_nextToReturn_4 : decode cX2_nextToReturn 4 = .ok (.istore_n 2, 1) := by decide +kernel
theorem dX2_nextToReturn_5 : decode cX2_nextToReturn 5 = .ok (.iconst 0, 1) := by decide +kernel
theorem dX2_nextToReturn_6 : decode cX2_nextToReturn 6 = .ok (.istore_n 3, 1) := by decide +kernel
theorem dX2_nextToReturn_7 : decode cX2_nextToReturn 7 = .ok (.iload_n 3, 1) := by decide +kernel
theorem dX2_nextToReturn_8 : decode cX2_nextToReturn 8 = .ok (.bipush 60, 2) := by decide +kernel
theorem dX2_nextToReturn_10 : decode cX2_nextToReturn 10 = .ok (.if_icmp .ge 65, 3) := by decide +kernel
theorem dX2_nextToReturn_13 : decode cX2_nextToReturn 13 = .ok (.aload_n 0, 1) := by decide +kernel
theorem dX2_nextToReturn_14 : decode cX2_nextToReturn 14 = .ok (.iload_n 3, 1) := by decide +kernel
theorem dX2_nextToReturn_15 : decode cX2_nextToReturn 15 = .ok (.invokevirtual 133, 3) := by decide +kernel
theorem dX2_nextToReturn_18 : decode cX2_nextToReturn 18 = .ok (.ifCond .eq 51, 3) := by decide +kernel
theorem dX2_nextToReturn_21 : decode cX2_nextToReturn 21 = .ok (.aload_n 0, 1) := by decide +kernel
theorem dX2_nextToReturn_22 : decode cX2_nextToReturn 22 = .ok (.aload_n 0, 1) := by decide +kernel
theorem dX2_nextToReturn_23 : decode cX2_nextToReturn 23 = .ok (.iload_n 3, 1) := by decide +kernel
theorem dX2_nextToReturn_24 : decode cX2_nextToReturn 24 = .ok (.invokevirtual 84, 3) := by decide +kernel
theorem dX2_nextToReturn_27 : decode cX2_nextToReturn 27 = .ok (.invokevirtual 142, 3) := by decide +kernel
theorem dX2_nextToReturn_30 : decode cX2_nextToReturn 30 = .ok (.ifCond .eq 39, 3) := by decide +kernel
theorem dX2_nextToReturn_33 : decode cX2_nextToReturn 33 = .ok (.aload_n 0, 1) := by decide +kernel
theorem dX2_nextToReturn_34 : decode cX2_nextToReturn 34 = .ok (.getfield 32, 3) := by decide +kernel
theorem dX2_nextToReturn_37 : decode cX2_nextToReturn 37 = .ok (.aload_n 0, 1) := by decide +kernel
theorem dX2_nextToReturn_38 : decode cX2_nextToReturn 38 = .ok (.iload_n 3, 1) := by decide +kernel
theorem dX2_nextToReturn_39 : decode cX2_nextToReturn 39 = .ok (.invokevirtual 84, 3) := by decide +kernel
theorem dX2_nextToReturn_42 : decode cX2_nextToReturn 42 = .ok (.aload_n 0, 1) := by decide +kernel
theorem dX2_nextToReturn_43 : decode cX2_nextToReturn 43 = .ok (.iload_n 3, 1) := by decide +kernel
theorem dX2_nextToReturn_44 : decode cX2_nextToReturn 44 = .ok (.invokevirtual 80, 3) := by decide +kernel
theorem dX2_nextToReturn_47 : decode cX2_nextToReturn 47 = .ok (.invokevirtual 148, 3) := by decide +kernel
theorem dX2_nextToReturn_50 : decode cX2_nextToReturn 50 = .ok (.istore 4, 2) := by decide +kernel
theorem dX2_nextToReturn_52 : decode cX2_nextToReturn 52 = .ok (.iload_n 1, 1) := by decide +kernel
theorem dX2_nextToReturn_53 : decode cX2_nextToReturn 53 = .ok (.bipush (-9), 2) := by decide +kernel
theorem dX2_nextToReturn_55 : decode cX2_nextToReturn 55 = .ok (.if_icmp .eq 9, 3) := by decide +kernel
theorem dX2_nextToReturn_58 : decode cX2_nextToReturn 58 = .ok (.iload 4, 2) := by decide +kernel
theorem dX2_nextToReturn_60 : decode cX2_nextToReturn 60 = .ok (.iload_n 2, 1) := by decide +kernel
theorem dX2_nextToReturn_61 : decode cX2_nextToReturn 61 = .ok (.if_icmp .le 8, 3) := by decide +kernel
theorem dX2_nextToReturn_64 : decode cX2_nextToReturn 64 = .ok (.iload_n 3, 1) := by decide +kernel
theorem dX2_nextToReturn_65 : decode cX2_nextToReturn 65 = .ok (.istore_n 1, 1) := by decide +kernel
theorem dX2_nextToReturn_66 : decode cX2_nextToReturn 66 = .ok (.iload 4, 2) := by decide +kernel
theorem dX2_nextToReturn_68 : decode cX2_nextToReturn 68 = .ok (.istore_n 2, 1) := by decide +kernel
theorem dX2_nextToReturn_69 : decode cX2_nextToReturn 69 = .ok (.iinc 3 1, 3) := by decide +kernel
theorem dX2_nextToReturn_72 : decode cX2_nextToReturn 72 = .ok (.goto (-65), 3) := by decide +kernel
theorem dX2_nextToReturn_75 : decode cX2_nextToReturn 75 = .ok (.iload_n 1, 1) := by decide +kernel
theorem dX2_nextToReturn_76 : decode cX2_nextToReturn 76 = .ok (.ireturn, 1) := by decide +kernel
theorem dX2_isNominal_0 : decode cX2_isNominal 0 = .ok (.aload_n 0, 1) := by decide +kernel
theorem dX2_isNominal_1 : decode cX2_isNominal 1 = .ok (.getfield 32, 3) := by decide +kernel
theorem dX2_isNominal_4 : decode cX2_isNominal 4 = .ok (.iload_n 1, 1) := by decide +kernel
theorem dX2_isNominal_5 : decode cX2_isNominal 5 = .ok (.invokevirtual 151, 3) := by decide +kernel
theorem dX2_isNominal_8 : decode cX2_isNominal 8 = .ok (.iload_n 2, 1) := by decide +kernel
theorem dX2_isNominal_9 : decode cX2_isNominal 9 = .ok (.invokestatic 154, 3) := by decide +kernel
theorem dX2_isNominal_12 : decode cX2_isNominal 12 = .ok (.ireturn, 1) := by decide +kernel
theorem dX2_usedIn_0 : decode cX2_usedIn 0 = .ok (.iload_n 1, 1) := by decide +kernel
theorem dX2_usedIn_1 : decode cX2_usedIn 1 = .ok (.ifCond .lt 18, 3) := by decide +kernel
theorem dX2_usedIn_4 : decode cX2_usedIn 4 = .ok (.iload_n 1, 1) := by decide +kernel
theorem dX2_usedIn_5 : decode cX2_usedIn 5 = .ok (.bipush 25, 2) := by decide +kernel
theorem dX2_usedIn_7 : decode cX2_usedIn 7 = .ok (.if_icmp .ge 12, 3) := by decide +kernel
theorem dX2_usedIn_10 : decode cX2_usedIn 10 = .ok (.aload_n 0, 1) := by decide +kernel
theorem dX2_usedIn_11 : decode cX2_usedIn 11 = .ok (.getfield 25, 3) := by decide +kernel
theorem dX2_usedIn_14 : decode cX2_usedIn 14 = .ok (.iload_n 1, 1) := by decide +kernel
theorem dX2_usedIn_15 : decode cX2_usedIn 15 = .ok (.iaload, 1) := by decide +kernel
theorem dX2_usedIn_16 : decode cX2_usedIn 16 = .ok (.goto 4, 3) := by decide +kernel
theorem dX2_usedIn_19 : decode cX2_usedIn 19 = .ok (.iconst 0, 1) := by decide +kernel
theorem dX2_usedIn_20 : decode cX2_usedIn 20 = .ok (.ireturn, 1) := by decide +kernel
theorem dX2_availableIn_0 : decode cX2_availableIn 0 = .ok (.aload_n 0, 1) := by decide +kernel
theorem dX2_availableIn_1 : decode cX2_availableIn 1 = .ok (.iload_n 1, 1) := by decide +kernel
theorem dX2_availableIn_2 : decode cX2_availableIn 2 = .ok (.invokevirtual 157, 3) := by decide +kernel
theorem dX2_availableIn_5 : decode cX2_availableIn 5 = .ok (.istore_n 2, 1) := by decide +kernel
theorem dX2_availableIn_6 : decode cX2_availableIn 6 = .ok (.aload_n 0, 1) := by decide +kernel
theorem dX2_availableIn_7 : decode cX2_availableIn 7 = .ok (.getfield 32, 3) := by decide +kernel
theorem dX2_availableIn_10 : decode cX2_availableIn 10 = .ok (.iload_n 1, 1) := by decide +kernel
theorem dX2_availableIn_11 : decode cX2_availableIn 11 = .ok (.invokevirtual 160, 3) := by decide +kernel
theorem dX2_availableIn_14 : decode cX2_availableIn 14 = .ok (.istore_n 3, 1) := by decide +kernel
theorem dX2_availableIn_15 : decode cX2_availableIn 15 = .ok (.iconst 0, 1) := by decide +kernel
theorem dX2_availableIn_16 : decode cX2_availableIn 16 = .ok (.istore 4, 2) := by decide +kernel
theorem dX2_availableIn_18 : decode cX2_availableIn 18 = .ok (.iload 4, 2) := by decide +kernel
theorem dX2_availableIn_20 : decode cX2_availableIn 20 = .ok (.bipush 25, 2) := by decide +kernel
theorem dX2_availableIn_22 : decode cX2_availableIn 22 = .ok (.if_icmp .ge 28, 3) := by decide +kernel
theorem dX2_availableIn_25 : decode cX2_availableIn 25 = .ok (.iload_n 3, 1) := by decide +kernel
theorem dX2_availableIn_26 : decode cX2_availableIn 26 = .ok (.iload 4, 2) := by decide +kernel
theorem dX2_availableIn_28 : decode cX2_availableIn 28 = .ok (.invokestatic 154, 3) := by decide +kernel
theorem dX2_availableIn_31 : decode cX2_availableIn 31 = .ok (.ifCond .eq 13, 3) := by decide +kernel
theorem dX2_availableIn_34 : decode cX2_availableIn 34 = .ok (.iload_n 2, 1) := by decide +kernel
theorem dX2_availableIn_35 : decode cX2_availableIn 35 = .ok (.aload_n 0, 1) := by decide +kernel
theorem dX2_availableIn_36 : decode cX2_availableIn 36 = .ok (.getfield 25, 3) := by decide +kernel
theorem dX2_availableIn_39 : decode cX2_availableIn 39 = .ok (.iload 4, 2) := by decide +kernel
theorem dX2_availableIn_41 : decode cX2_availableIn 41 = .ok (.iaload, 1) := by decide +kernel
theorem dX2_availableIn_42 : decode cX2_availableIn 42 = .ok (.ior, 1) := by decide +kernel
theorem dX2_availableIn_43 : decode cX2_availableIn 43 = .ok (.istore_n 2, 1) := by decide +kernel
theorem dX2_availableIn_44 : decode cX2_availableIn 44 = .ok (.iinc 4 1, 3) := by decide +kernel
theorem dX2_availableIn_47 : decode cX2_availableIn 47 = .ok (.goto (-29), 3) := by decide +kernel
theorem dX2_availableIn_50 : decode cX2_availableIn 50 = .ok (.iconst 1, 1) := by decide +kernel
theorem dX2_availableIn_51 : decode cX2_availableIn 51 = .ok (.aload_n 0, 1) := by decide +kernel
theorem dX2_availableIn_52 : decode cX2_availableIn 52 = .ok (.getfield 32, 3) := by decide +kernel
theorem dX2_availableIn_55 : decode cX2_availableIn 55 = .ok (.getfield 163, 3) := by decide +kernel
theorem dX2_availableIn_58 : decode cX2_availableIn 58 = .ok (.ishl, 1) := by decide +kernel
theorem dX2_availableIn_59 : decode cX2_availableIn 59 = .ok (.iconst 1, 1) := by decide +kernel
theorem dX2_availableIn_60 : decode cX2_availableIn 60 = .ok (.isub, 1) := by decide +kernel
theorem dX2_availableIn_61 : decode cX2_availableIn 61 = .ok (.iload_n 2, 1) := by decide +kernel
theorem dX2_availableIn_62 : decode cX2_availableIn 62 = .ok (.iconst (-1), 1) := by decide +kernel
theorem dX2_availableIn_63 : decode cX2_availableIn 63 = .ok (.ixor, 1) := by decide +kernel
theorem dX2_availableIn_64 : decode cX2_availableIn 64 = .ok (.iand, 1) := by decide +kernel
theorem dX2_availableIn_65 : decode cX2_availableIn 65 = .ok (.ireturn, 1) := by decide +kernel
theorem dX2_availableNominals_0 : decode cX2_availableNominals 0 = .ok (.aload_n 0, 1) := by decide +kernel
theorem dX2_availableNominals_1 : decode cX2_availableNominals 1 = .ok (.iload_n 1, 1) := by decide +kernel
theorem dX2_availableNominals_2 : decode cX2_availableNominals 2 = .ok (.invokevirtual 166, 3) := by decide +kernel
theorem dX2_availableNominals_5 : decode cX2_availableNominals 5 = .ok (.aload_n 0, 1) := by decide +kernel
theorem dX2_availableNominals_6 : decode cX2_availableNominals 6 = .ok (.getfield 32, 3) := by decide +kernel
theorem dX2_availableNominals_9 : decode cX2_availableNominals 9 = .ok (.iload_n 1, 1) := by decide +kernel
theorem dX2_availableNominals_10 : decode cX2_availableNominals 10 = .ok (.invokevirtual 151, 3) := by decide +kernel
theorem dX2_availableNominals_13 : decode cX2_availableNominals 13 = .ok (.iand, 1) := by decide +kernel
theorem dX2_availableNominals_14 : decode cX2_availableNominals 14 = .ok (.ireturn, 1) := by decide +kernel
theorem dX2_chooseChannel_0 : decode cX2_chooseChannel 0 = .ok (.aload_n 0, 1) := by decide +kernel
theorem dX2_chooseChannel_1 : decode cX2_chooseChannel 1 = .ok (.iload_n 1, 1) := by decide +kernel
theorem dX2_chooseChannel_2 : decode cX2_chooseChannel 2 = .ok (.invokevirtual 166, 3) := by decide +kernel
theorem dX2_chooseChannel_5 : decode cX2_chooseChannel 5 = .ok (.istore_n 2, 1) := by decide +kernel
theorem dX2_chooseChannel_6 : decode cX2_chooseChannel 6 = .ok (.iload_n 2, 1) := by decide +kernel
theorem dX2_chooseChannel_7 : decode cX2_chooseChannel 7 = .ok (.aload_n 0, 1) := by decide +kernel
theorem dX2_chooseChannel_8 : decode cX2_chooseChannel 8 = .ok (.getfield 32, 3) := by decide +kernel
theorem dX2_chooseChannel_11 : decode cX2_chooseChannel 11 = .ok (.iload_n 1, 1) := by decide +kernel
theorem dX2_chooseChannel_12 : decode cX2_chooseChannel 12 = .ok (.invokevirtual 151, 3) := by decide +kernel
theorem dX2_chooseChannel_15 : decode cX2_chooseChannel 15 = .ok (.iand, 1) := by decide +kernel
theorem dX2_chooseChannel_16 : decode cX2_chooseChannel 16 = .ok (.istore_n 3, 1) := by decide +kernel
theorem dX2_chooseChannel_17 : decode cX2_chooseChannel 17 = .ok (.iload_n 3, 1) := by decide +kernel
theorem dX2_chooseChannel_18 : decode cX2_chooseChannel 18 = .ok (.ifCond .eq 9, 3) := by decide +kernel
theorem dX2_chooseChannel_21 : decode cX2_chooseChannel 21 = .ok (.aload_n 0, 1) := by decide +kernel
theorem dX2_chooseChannel_22 : decode cX2_chooseChannel 22 = .ok (.iload_n 3, 1) := by decide +kernel
theorem dX2_chooseChannel_23 : decode cX2_chooseChannel 23 = .ok (.invokevirtual 145, 3) := by decide +kernel
theorem dX2_chooseChannel_26 : decode cX2_chooseChannel 26 = .ok (.ireturn, 1) := by decide +kernel
theorem dX2_chooseChannel_27 : decode cX2_chooseChannel 27 = .ok (.aload_n 0, 1) := by decide +kernel
theorem dX2_chooseChannel_28 : decode cX2_chooseChannel 28 = .ok (.iload_n 1, 1) := by decide +kernel
theorem dX2_chooseChannel_29 : decode cX2_chooseChannel 29 = .ok (.iload_n 2, 1) := by decide +kernel
theorem dX2_chooseChannel_30 : decode cX2_chooseChannel 30 = .ok (.invokevirtual 169, 3) := by decide +kernel
theorem dX2_chooseChannel_33 : decode cX2_chooseChannel 33 = .ok (.istore 4, 2) := by decide +kernel
theorem dX2_chooseChannel_35 : decode cX2_chooseChannel 35 = .ok (.iload 4, 2) := by decide +kernel
theorem dX2_chooseChannel_37 : decode cX2_chooseChannel 37 = .ok (.bipush (-9), 2) := by decide +kernel
theorem dX2_chooseChannel_39 : decode cX2_chooseChannel 39 = .ok (.if_icmp .ne 8, 3) := by decide +kernel
theorem dX2_chooseChannel_42 : decode cX2_chooseChannel 42 = .ok (.bipush (-9), 2) := by decide +kernel
theorem dX2_chooseChannel_44 : decode cX2_chooseChannel 44 = .ok (.goto 18, 3) := by decide +kernel
theorem dX2_chooseChannel_47 : decode cX2_chooseChannel 47 = .ok (.aload_n 0, 1) := by decide +kernel
theorem dX2_chooseChannel_48 : decode cX2_chooseChannel 48 = .ok (.iload_n 2, 1) := by decide +kernel
theorem dX2_chooseChannel_49 : decode cX2_chooseChannel 49 = .ok (.aload_n 0, 1) := by decide +kernel
theorem dX2_chooseChannel_50 : decode cX2_chooseChannel 50 = .ok (.getfield 32, 3) := by decide +kernel
theorem dX2_chooseChannel_53 : decode cX2_chooseChannel 53 = .ok (.iload 4, 2) := by decide +kernel
theorem dX2_chooseChannel_55 : decode cX2_chooseChannel 55 = .ok (.invokevirtual 151, 3) := by decide +kernel
theorem dX2_chooseChannel_58 : decode cX2_chooseChannel 58 = .ok (.iand, 1) := by decide +kernel
theorem dX2_chooseChannel_59 : decode cX2_chooseChannel 59 = .ok (.invokevirtual 172, 3) := by decide +kernel
theorem dX2_chooseChannel_62 : decode cX2_chooseChannel 62 = .ok (.ireturn, 1) := by decide +kernel
theorem dX2_chooseDonor_0 : decode cX2_chooseDonor 0 = .ok (.aload_n 0, 1) := by decide +kernel
theorem dX2_chooseDonor_1 : decode cX2_chooseDonor 1 = .ok (.iload_n 1, 1) := by decide +kernel
theorem dX2_chooseDonor_2 : decode cX2_chooseDonor 2 = .ok (.invokevirtual 166, 3) := by decide +kernel
theorem dX2_chooseDonor_5 : decode cX2_chooseDonor 5 = .ok (.istore_n 2, 1) := by decide +kernel
theorem dX2_chooseDonor_6 : decode cX2_chooseDonor 6 = .ok (.iload_n 2, 1) := by decide +kernel
theorem dX2_chooseDonor_7 : decode cX2_chooseDonor 7 = .ok (.aload_n 0, 1) := by decide +kernel
theorem dX2_chooseDonor_8 : decode cX2_chooseDonor 8 = .ok (.getfield 32, 3) := by decide +kernel
theorem dX2_chooseDonor_11 : decode cX2_chooseDonor 11 = .ok (.iload_n 1, 1) := by decide +kernel
theorem dX2_chooseDonor_12 : decode cX2_chooseDonor 12 = .ok (.invokevirtual 151, 3) := by decide +kernel
theorem dX2_chooseDonor_15 : decode cX2_chooseDonor 15 = .ok (.iand, 1) := by decide +kernel
theorem dX2_chooseDonor_16 : decode cX2_chooseDonor 16 = .ok (.ifCond .eq 7, 3) := by decide +kernel
theorem dX2_chooseDonor_19 : decode cX2_chooseDonor 19 = .ok (.iconst 1, 1) := by decide +kernel
theorem dX2_chooseDonor_20 : decode cX2_chooseDonor 20 = .ok (.goto 4, 3) := by decide +kernel
theorem dX2_chooseDonor_23 : decode cX2_chooseDonor 23 = .ok (.iconst 0, 1) := by decide +kernel
theorem dX2_chooseDonor_24 : decode cX2_chooseDonor 24 = .ok (.istore_n 3, 1) := by decide +kernel
theorem dX2_chooseDonor_25 : decode cX2_chooseDonor 25 = .ok (.iload_n 3, 1) := by decide +kernel
theorem dX2_chooseDonor_26 : decode cX2_chooseDonor 26 = .ok (.ifCond .eq 8, 3) := by decide +kernel
theorem dX2_chooseDonor_29 : decode cX2_chooseDonor 29 = .ok (.bipush (-9), 2) := by decide +kernel
theorem dX2_chooseDonor_31 : decode cX2_chooseDonor 31 = .ok (.goto 9, 3) := by decide +kernel
theorem dX2_chooseDonor_34 : decode cX2_chooseDonor 34 = .ok (.aload_n 0, 1) := by decide +kernel
theorem dX2_chooseDonor_35 : decode cX2_chooseDonor 35 = .ok (.iload_n 1, 1) := by decide +kernel
theorem dX2_chooseDonor_36 : decode cX2_chooseDonor 36 = .ok (.iload_n 2, 1) := by decide +kernel
theorem dX2_chooseDonor_37 : decode cX2_chooseDonor 37 = .ok (.invokevirtual 169, 3) := by decide +kernel
theorem dX2_chooseDonor_40 : decode cX2_chooseDonor 40 = .ok (.ireturn, 1) := by decide +kernel
theorem dX2_bestDonor_0 : decode cX2_bestDonor 0 = .ok (.bipush (-9), 2) := by decide +kernel
theorem dX2_bestDonor_2 : decode cX2_bestDonor 2 = .ok (.istore_n 3, 1) := by decide +kernel
theorem dX2_bestDonor_3 : decode cX2_bestDonor 3 = .ok (.bipush 25, 2) := by decide +kernel
theorem dX2_bestDonor_5 : decode cX2_bestDonor 5 = .ok (.istore 4, 2) := by decide +kernel
theorem dX2_bestDonor_7 : decode cX2_bestDonor 7 = .ok (.iconst 0, 1) := by decide +kernel
theorem dX2_bestDonor_8 : decode cX2_bestDonor 8 = .ok (.istore 5, 2) := by decide +kernel
theorem dX2_bestDonor_10 : decode cX2_bestDonor 10 = .ok (.iload 5, 2) := by decide +kernel
theorem dX2_bestDonor_12 : decode cX2_bestDonor 12 = .ok (.aload_n 0, 1) := by decide +kernel
theorem dX2_bestDonor_13 : decode cX2_bestDonor 13 = .ok (.getfield 32, 3) := by decide +kernel
theorem dX2_bestDonor_16 : decode cX2_bestDonor 16 = .ok (.getfield 175, 3) := by decide +kernel
theorem dX2_bestDonor_19 : decode cX2_bestDonor 19 = .ok (.if_icmp .ge 99, 3) := by decide +kernel
theorem dX2_bestDonor_22 : decode cX2_bestDonor 22 = .ok (.aload_n 0, 1) := by decide +kernel
theorem dX2_bestDonor_23 : decode cX2_bestDonor 23 = .ok (.getfield 32, 3) := by decide +kernel
theorem dX2_bestDonor_26 : decode cX2_bestDonor 26 = .ok (.iload_n 1, 1) := by decide +kernel
theorem dX2_bestDonor_27 : decode cX2_bestDonor 27 = .ok (.iload 5, 2) := by decide +kernel
theorem dX2_bestDonor_29 : decode cX2_bestDonor 29 = .ok (.invokevirtual 125, 3) := by decide +kernel
theorem dX2_bestDonor_32 : decode cX2_bestDonor 32 = .ok (.iconst 1, 1) := by decide +kernel
theorem dX2_bestDonor_33 : decode cX2_bestDonor 33 = .ok (.if_icmp .ne 7, 3) := by decide +kernel
theorem dX2_bestDonor_36 : decode cX2_bestDonor 36 = .ok (.iconst 1, 1) := by decide +kernel
theorem dX2_bestDonor_37 : decode cX2_bestDonor 37 = .ok (.goto 4, 3) := by decide +kernel
theorem dX2_bestDonor_40 : decode cX2_bestDonor 40 = .ok (.iconst 0, 1) := by decide +kernel
theorem dX2_bestDonor_41 : decode cX2_bestDonor 41 = .ok (.istore 6, 2) := by decide +kernel
theorem dX2_bestDonor_43 : decode cX2_bestDonor 43 = .ok (.iload 6, 2) := by decide +kernel
theorem dX2_bestDonor_45 : decode cX2_bestDonor 45 = .ok (.ifCond .eq 67, 3) := by decide +kernel
theorem dX2_bestDonor_48 : decode cX2_bestDonor 48 = .ok (.iload_n 2, 1) := by decide +kernel
theorem dX2_bestDonor_49 : decode cX2_bestDonor 49 = .ok (.aload_n 0, 1) := by decide +kernel
theorem dX2_bestDonor_50 : decode cX2_bestDonor 50 = .ok (.getfield 32, 3) := by decide +kernel
theorem dX2_bestDonor_53 : decode cX2_bestDonor 53 = .ok (.iload 5, 2) := by decide +kernel
theorem dX2_bestDonor_55 : decode cX2_bestDonor 55 = .ok (.invokevirtual 151, 3) := by decide +kernel
theorem dX2_bestDonor_58 : decode cX2_bestDonor 58 = .ok (.iand, 1) := by decide +kernel
theorem dX2_bestDonor_59 : decode cX2_bestDonor 59 = .ok (.ifCond .eq 53, 3) := by decide +kernel
theorem dX2_bestDonor_62 : decode cX2_bestDonor 62 = .ok (.aload_n 0, 1) := by decide +kernel
theorem dX2_bestDonor_63 : decode cX2_bestDonor 63 = .ok (.iload 5, 2) := by decide +kernel
theorem dX2_bestDonor_65 : decode cX2_bestDonor 65 = .ok (.invokevirtual 142, 3) := by decide +kernel
theorem dX2_bestDonor_68 : decode cX2_bestDonor 68 = .ok (.invokestatic 178, 3) := by decide +kernel
theorem dX2_bestDonor_71 : decode cX2_bestDonor 71 = .ok (.istore 7, 2) := by decide +kernel
theorem dX2_bestDonor_73 : decode cX2_bestDonor 73 = .ok (.iload 7, 2) := by decide +kernel
theorem dX2_bestDonor_75 : decode cX2_bestDonor 75 = .ok (.aload_n 0, 1) := by decide +kernel
theorem dX2_bestDonor_76 : decode cX2_bestDonor 76 = .ok (.getfield 67, 3) := by decide +kernel
theorem dX2_bestDonor_79 : decode cX2_bestDonor 79 = .ok (.if_icmp .le 15, 3) := by decide +kernel
theorem dX2_bestDonor_82 : decode cX2_bestDonor 82 = .ok (.aload_n 0, 1) := by decide +kernel
theorem dX2_bestDonor_83 : decode cX2_bestDonor 83 = .ok (.iload 5, 2) := by decide +kernel
theorem dX2_bestDonor_85 : decode cX2_bestDonor 85 = .ok (.iload 7, 2) := by decide +kernel
theorem dX2_bestDonor_87 : decode cX2_bestDonor 87 = .ok (.iload_n 1, 1) := by decide +kernel
theorem dX2_bestDonor_88 : decode cX2_bestDonor 88 = .ok (.invokevirtual 183, 3) := by decide +kernel
theorem dX2_bestDonor_91 : decode cX2_bestDonor 91 = .ok (.goto 5, 3) := by decide +kernel
theorem dX2_bestDonor_94 : decode cX2_bestDonor 94 = .ok (.bipush 25, 2) := by decide +kernel
theorem dX2_bestDonor_96 : decode cX2_bestDonor 96 = .ok (.istore 8, 2) := by decide +kernel
theorem dX2_bestDonor_98 : decode cX2_bestDonor 98 = .ok (.iload 8, 2) := by decide +kernel
theorem dX2_bestDonor_100 : decode cX2_bestDonor 100 = .ok (.iload 4, 2) := by decide +kernel
theorem dX2_bestDonor_102 : decode cX2_bestDonor 102 = .ok (.if_icmp .ge 10, 3) := by decide +kernel
theorem dX2_bestDonor_105 : decode cX2_bestDonor 105 = .ok (.iload 5, 2) := by decide +kernel
theorem dX2_bestDonor_107 : decode cX2_bestDonor 107 = .ok (.istore_n 3, 1) := by decide +kernel
theorem dX2_bestDonor_108 : decode cX2_bestDonor 108 = .ok (.iload 8, 2) := by decide +kernel
theorem dX2_bestDonor_110 : decode cX2_bestDonor 110 = .ok (.istore 4, 2) := by decide +kernel
theorem dX2_bestDonor_112 : decode cX2_bestDonor 112 = .ok (.iinc 5 1, 3) := by decide +kernel
theorem dX2_bestDonor_115 : decode cX2_bestDonor 115 = .ok (.goto (-105), 3) := by decide +kernel
theorem dX2_bestDonor_118 : decode cX2_bestDonor 118 = .ok (.iload_n 3, 1) := by decide +kernel
theorem dX2_bestDonor_119 : decode cX2_bestDonor 119 = .ok (.ireturn, 1) := by decide +kernel
theorem dX2_rankOf_0 : decode cX2_rankOf 0 = .ok (.aload_n 0, 1) := by decide +kernel
theorem dX2_rankOf_1 : decode cX2_rankOf 1 = .ok (.getfield 64, 3) := by decide +kernel
theorem dX2_rankOf_4 : decode cX2_rankOf 4 = .ok (.lookupswitch 48 #[(0, 28), (2, 31)], 28) := by decide +kernel
theorem dX2_rankOf_32 : decode cX2_rankOf 32 = .ok (.iload_n 2, 1) := by decide +kernel
theorem dX2_rankOf_33 : decode cX2_rankOf 33 = .ok (.ineg, 1) := by decide +kernel
theorem dX2_rankOf_34 : decode cX2_rankOf 34 = .ok (.ireturn, 1) := by decide +kernel
theorem dX2_rankOf_35 : decode cX2_rankOf 35 = .ok (.aload_n 0, 1) := by decide +kernel
theorem dX2_rankOf_36 : decode cX2_rankOf 36 = .ok (.getfield 32, 3) := by decide +kernel
theorem dX2_rankOf_39 : decode cX2_rankOf 39 = .ok (.iload_n 3, 1) := by decide +kernel
theorem dX2_rankOf_40 : decode cX2_rankOf 40 = .ok (.aload_n 0, 1) := by decide +kernel
theorem dX2_rankOf_41 : decode cX2_rankOf 41 = .ok (.getfield 32, 3) := by decide +kernel
theorem dX2_rankOf_44 : decode cX2_rankOf 44 = .ok (.iload_n 1, 1) := by decide +kernel
theorem dX2_rankOf_45 : decode cX2_rankOf 45 = .ok (.invokevirtual 187, 3) := by decide +kernel
theorem dX2_rankOf_48 : decode cX2_rankOf 48 = .ok (.invokevirtual 148, 3) := by decide +kernel
theorem dX2_rankOf_51 : decode cX2_rankOf 51 = .ok (.ireturn, 1) := by decide +kernel
theorem dX2_rankOf_52 : decode cX2_rankOf 52 = .ok (.iconst 0, 1) := by decide +kernel
theorem dX2_rankOf_53 : decode cX2_rankOf 53 = .ok (.ireturn, 1) := by decide +kernel
theorem dX2_lowestOf_0 : decode cX2_lowestOf 0 = .ok (.iconst 0, 1) := by decide +kernel
theorem dX2_lowestOf_1 : decode cX2_lowestOf 1 = .ok (.istore_n 2, 1) := by decide +kernel
theorem dX2_lowestOf_2 : decode cX2_lowestOf 2 = .ok (.iload_n 2, 1) := by decide +kernel
theorem dX2_lowestOf_3 : decode cX2_lowestOf 3 = .ok (.aload_n 0, 1) := by decide +kernel
theorem dX2_lowestOf_4 : decode cX2_lowestOf 4 = .ok (.getfield 32, 3) := by decide +kernel
theorem dX2_lowestOf_7 : decode cX2_lowestOf 7 = .ok (.getfield 163, 3) := by decide +kernel
theorem dX2_lowestOf_10 : decode cX2_lowestOf 10 = .ok (.if_icmp .ge 19, 3) := by decide +kernel
theorem dX2_lowestOf_13 : decode cX2_lowestOf 13 = .ok (.iload_n 1, 1) := by decide +kernel
theorem dX2_lowestOf_14 : decode cX2_lowestOf 14 = .ok (.iload_n 2, 1) := by decide +kernel
theorem dX2_lowestOf_15 : decode cX2_lowestOf 15 = .ok (.invokestatic 154, 3) := by decide +kernel
theorem dX2_lowestOf_18 : decode cX2_lowestOf 18 = .ok (.ifCond .eq 5, 3) := by decide +kernel
theorem dX2_lowestOf_21 : decode cX2_lowestOf 21 = .ok (.iload_n 2, 1) := by decide +kernel
theorem dX2_lowestOf_22 : decode cX2_lowestOf 22 = .ok (.ireturn, 1) := by decide +kernel
theorem dX2_lowestOf_23 : decode cX2_lowestOf 23 = .ok (.iinc 2 1, 3) := by decide +kernel
theorem dX2_lowestOf_26 : decode cX2_lowestOf 26 = .ok (.goto (-24), 3) := by decide +kernel
theorem dX2_lowestOf_29 : decode cX2_lowestOf 29 = .ok (.bipush (-9), 2) := by decide +kernel
theorem dX2_lowestOf_31 : decode cX2_lowestOf 31 = .ok (.ireturn, 1) := by decide +kernel
theorem dX2_greatestOf_0 : decode cX2_greatestOf 0 = .ok (.aload_n 0, 1) := by decide +kernel
theorem dX2_greatestOf_1 : decode cX2_greatestOf 1 = .ok (.getfield 32, 3) := by decide +kernel
theorem dX2_greatestOf_4 : decode cX2_greatestOf 4 = .ok (.getfield 163, 3) := by decide +kernel
theorem dX2_greatestOf_7 : decode cX2_greatestOf 7 = .ok (.iconst 1, 1) := by decide +kernel
theorem dX2_greatestOf_8 : decode cX2_greatestOf 8 = .ok (.isub, 1) := by decide +kernel
theorem dX2_greatestOf_9 : decode cX2_greatestOf 9 = .ok (.istore_n 2, 1) := by decide +kernel
theorem dX2_greatestOf_10 : decode cX2_greatestOf 10 = .ok (.iload_n 2, 1) := by decide +kernel
theorem dX2_greatestOf_11 : decode cX2_greatestOf 11 = .ok (.ifCond .lt 19, 3) := by decide +kernel
theorem dX2_greatestOf_14 : decode cX2_greatestOf 14 = .ok (.iload_n 1, 1) := by decide +kernel
theorem dX2_greatestOf_15 : decode cX2_greatestOf 15 = .ok (.iload_n 2, 1) := by decide +kernel
theorem dX2_greatestOf_16 : decode cX2_greatestOf 16 = .ok (.invokestatic 154, 3) := by decide +kernel
theorem dX2_greatestOf_19 : decode cX2_greatestOf 19 = .ok (.ifCond .eq 5, 3) := by decide +kernel
theorem dX2_greatestOf_22 : decode cX2_greatestOf 22 = .ok (.iload_n 2, 1) := by decide +kernel
theorem dX2_greatestOf_23 : decode cX2_greatestOf 23 = .ok (.ireturn, 1) := by decide +kernel
theorem dX2_greatestOf_24 : decode cX2_greatestOf 24 = .ok (.iinc 2 (-1), 3) := by decide +kernel
theorem dX2_greatestOf_27 : decode cX2_greatestOf 27 = .ok (.goto (-17), 3) := by decide +kernel
theorem dX2_greatestOf_30 : decode cX2_greatestOf 30 = .ok (.bipush (-9), 2) := by decide +kernel
theorem dX2_greatestOf_32 : decode cX2_greatestOf 32 = .ok (.ireturn, 1) := by decide +kernel
theorem dX3_init_0 : decode cX3_init 0 = .ok (.aload_n 0, 1) := by decide +kernel
theorem dX3_init_1 : decode cX3_init 1 = .ok (.invokespecial 3, 3) := by decide +kernel
theorem dX3_init_4 : decode cX3_init 4 = .ok (.aload_n 0, 1) := by decide +kernel
theorem dX3_init_5 : decode cX3_init 5 = .ok (.bipush 33, 2) := by decide +kernel
theorem dX3_init_7 : decode cX3_init 7 = .ok (.newarray .int, 2) := by decide +kernel
theorem dX3_init_9 : decode cX3_init 9 = .ok (.putfield 9, 3) := by decide +kernel
theorem dX3_init_12 : decode cX3_init 12 = .ok (.aload_n 0, 1) := by decide +kernel
