theorem dX2_lowestOf_26 : decode cX2_lowestOf 26 = .ok (.goto (-24), 3) := by decide +kernel
theorem dX2_lowestOf_29 : decode cX2_lowestOf 29 = .ok (.bipush (-9), 2) := by decide +kernel
theorem dX2_lowestOf_31 : decode cX2_lowestOf 31 = .ok (.ireturn, 1) := by decide +kernel
theorem dX2_greatestOf_0 : decode cX2_greatestOf 0 = .ok (.aload_n 0, 1) := by decide +kernel
theorem dX2_greatestOf_1 : decode cX2_greatestOf 1 = .ok (.getfield 32, 3) := by decide +kernel
theorem dX2_greatestOf_4 : decode cX2_greatestOf 4 = .ok (.getfield 163, 3) := by decide +kernel
theorem dX2_greatestOf_7 : decode cX2_greatestOf 7 = .ok (.iconst 1, 1) := by decide +kernel
theorem dX2_greatestOf_8 : decode cX2_greatestOf 8 = .ok (.isub, 1) := by decide +kernel
theorem dX2_greatestOf_9 : decode cX2_greatestOf 9 = .ok (.istore_n 2, 1) := by decide +kernel
theorem dX2_greatestOf_10 : decode cX2_greatestOf 10 = .ok (.iload_n 2, 1) := by decide +kernel
theorem dX2_greatestOf_11 : decode cX2_greatestOf 11 = .ok (.ifCond .lt 19, 3) := by decide +kernel
theorem dX2_greatestOf_14 : decode cX2_greatestOf 14 = .ok (.iload_n 1, 1) := by decide +kernel
theorem dX2_greatestOf_15 : decode cX2_greatestOf 15 = .ok (.iload_n 2, 1) := by decide +kernel
theorem dX2_greatestOf_16 : decode cX2_greatestOf 16 = .ok (.invokestatic 154, 3) := by decide +kernel
theorem dX2_greatestOf_19 : decode cX2_greatestOf 19 = .ok (.ifCond .eq 5, 3) := by decide +kernel
theorem dX2_greatestOf_22 : decode cX2_greatestOf 22 = .ok (.iload_n 2, 1) := by decide +kernel
theorem dX2_greatestOf_23 : decode cX2_greatestOf 23 = .ok (.ireturn, 1) := by decide +kernel
theorem dX2_greatestOf_24 : decode cX2_greatestOf 24 = .ok (.iinc 2 (-1), 3) := by decide +kernel
theorem dX2_greatestOf_27 : decode cX2_greatestOf 27 = .ok (.goto (-17), 3) := by decide +kernel
theorem dX2_greatestOf_30 : decode cX2_greatestOf 30 = .ok (.bipush (-9), 2) := by decide +kernel
theorem dX2_greatestOf_32 : decode cX2_greatestOf 32 = .ok (.ireturn, 1) := by decide +kernel
theorem dX3_init_0 : decode cX3_init 0 = .ok (.aload_n 0, 1) := by decide +kernel
theorem dX3_init_1 : decode cX3_init 1 = .ok (.invokespecial 3, 3) := by decide +kernel
theorem dX3_init_4 : decode cX3_init 4 = .ok (.aload_n 0, 1) := by decide +kernel
theorem dX3_init_5 : decode cX3_init 5 = .ok (.bipush 33, 2) := by decide +kernel
theorem dX3_init_7 : decode cX3_init 7 = .ok (.newarray .int, 2) := by decide +kernel
theorem dX3_init_9 : decode cX3_init 9 = .ok (.putfield 9, 3) := by decide +kernel
theorem dX3_init_12 : decode cX3_init 12 = .ok (.aload_n 0, 1) := by decide +kernel
theorem dX3_init_13 : decode cX3_init 13 = .ok (.bipush 33, 2) := by decide +kernel
theorem dX3_init_15 : decode cX3_init 15 = .ok (.newarray .int, 2) := by decide +kernel
theorem dX3_init_17 : decode cX3_init 17 = .ok (.putfield 15, 3) := by decide +kernel
theorem dX3_init_20 : decode cX3_init 20 = .ok (.aload_n 0, 1) := by decide +kernel
theorem dX3_init_21 : decode cX3_init 21 = .ok (.bipush 33, 2) := by decide +kernel
theorem dX3_init_23 : decode cX3_init 23 = .ok (.newarray .int, 2) := by decide +kernel
theorem dX3_init_25 : decode cX3_init 25 = .ok (.putfield 18, 3) := by decide +kernel
theorem dX3_init_28 : decode cX3_init 28 = .ok (.aload_n 0, 1) := by decide +kernel
theorem dX3_init_29 : decode cX3_init 29 = .ok (.bipush 100, 2) := by decide +kernel
theorem dX3_init_31 : decode cX3_init 31 = .ok (.newarray .int, 2) := by decide +kernel
theorem dX3_init_33 : decode cX3_init 33 = .ok (.putfield 21, 3) := by decide +kernel
theorem dX3_init_36 : decode cX3_init 36 = .ok (.return_, 1) := by decide +kernel
theorem dX3_append_0 : decode cX3_append 0 = .ok (.aload_n 0, 1) := by decide +kernel
theorem dX3_append_1 : decode cX3_append 1 = .ok (.getfield 24, 3) := by decide +kernel
theorem dX3_append_4 : decode cX3_append 4 = .ok (.iconst 0, 1) := by decide +kernel
theorem dX3_append_5 : decode cX3_append 5 = .ok (.bipush 99, 2) := by decide +kernel
theorem dX3_append_7 : decode cX3_append 7 = .ok (.invokestatic 28, 3) := by decide +kernel
theorem dX3_append_10 : decode cX3_append 10 = .ok (.ifCond .ne 5, 3) := by decide +kernel
theorem dX3_append_13 : decode cX3_append 13 = .ok (.iconst 0, 1) := by decide +kernel
theorem dX3_append_14 : decode cX3_append 14 = .ok (.ireturn, 1) := by decide +kernel
theorem dX3_append_15 : decode cX3_append 15 = .ok (.aload_n 0, 1) := by decide +kernel
theorem dX3_append_16 : decode cX3_append 16 = .ok (.getfield 21, 3) := by decide +kernel
theorem dX3_append_19 : decode cX3_append 19 = .ok (.aload_n 0, 1) := by decide +kernel
theorem dX3_append_20 : decode cX3_append 20 = .ok (.getfield 24, 3) := by decide +kernel
theorem dX3_append_23 : decode cX3_append 23 = .ok (.iload_n 1, 1) := by decide +kernel
theorem dX3_append_24 : decode cX3_append 24 = .ok (.iastore, 1) := by decide +kernel
theorem dX3_append_25 : decode cX3_append 25 = .ok (.aload_n 0, 1) := by decide +kernel
theorem dX3_append_26 : decode cX3_append 26 = .ok (.dup, 1) := by decide +kernel
theorem dX3_append_27 : decode cX3_append 27 = .ok (.getfield 24, 3) := by decide +kernel
theorem dX3_append_30 : decode cX3_append 30 = .ok (.iconst 1, 1) := by decide +kernel
theorem dX3_append_31 : decode cX3_append 31 = .ok (.iadd, 1) := by decide +kernel
theorem dX3_append_32 : decode cX3_append 32 = .ok (.putfield 24, 3) := by decide +kernel
theorem dX3_append_35 : decode cX3_append 35 = .ok (.iconst 1, 1) := by decide +kernel
theorem dX3_append_36 : decode cX3_append 36 = .ok (.ireturn, 1) := by decide +kernel
theorem dX3_read_0 : decode cX3_read 0 = .ok (.aload_n 0, 1) := by decide +kernel
theorem dX3_read_1 : decode cX3_read 1 = .ok (.iconst 0, 1) := by decide +kernel
theorem dX3_read_2 : decode cX3_read 2 = .ok (.putfield 32, 3) := by decide +kernel
theorem dX3_read_5 : decode cX3_read 5 = .ok (.aload_n 0, 1) := by decide +kernel
theorem dX3_read_6 : decode cX3_read 6 = .ok (.iconst 0, 1) := by decide +kernel
theorem dX3_read_7 : decode cX3_read 7 = .ok (.putfield 35, 3) := by decide +kernel
theorem dX3_read_10 : decode cX3_read 10 = .ok (.iconst 0, 1) := by decide +kernel
theorem dX3_read_11 : decode cX3_read 11 = .ok (.istore_n 1, 1) := by decide +kernel
theorem dX3_read_12 : decode cX3_read 12 = .ok (.iload_n 1, 1) := by decide +kernel
theorem dX3_read_13 : decode cX3_read 13 = .ok (.bipush 33, 2) := by decide +kernel
theorem dX3_read_15 : decode cX3_read 15 = .ok (.if_icmp .gt 46, 3) := by decide +kernel
theorem dX3_read_18 : decode cX3_read 18 = .ok (.aload_n 0, 1) := by decide +kernel
theorem dX3_read_19 : decode cX3_read 19 = .ok (.invokevirtual 38, 3) := by decide +kernel
theorem dX3_read_22 : decode cX3_read 22 = .ok (.aload_n 0, 1) := by decide +kernel
theorem dX3_read_23 : decode cX3_read 23 = .ok (.getfield 32, 3) := by decide +kernel
theorem dX3_read_26 : decode cX3_read 26 = .ok (.aload_n 0, 1) := by decide +kernel
theorem dX3_read_27 : decode cX3_read 27 = .ok (.getfield 24, 3) := by decide +kernel
theorem dX3_read_30 : decode cX3_read 30 = .ok (.if_icmp .lt 16, 3) := by decide +kernel
theorem dX3_read_33 : decode cX3_read 33 = .ok (.aload_n 0, 1) := by decide +kernel
theorem dX3_read_34 : decode cX3_read 34 = .ok (.getfield 35, 3) := by decide +kernel
theorem dX3_read_37 : decode cX3_read 37 = .ok (.ifCond .le 7, 3) := by decide +kernel
theorem dX3_read_40 : decode cX3_read 40 = .ok (.iconst 1, 1) := by decide +kernel
theorem dX3_read_41 : decode cX3_read 41 = .ok (.goto 4, 3) := by decide +kernel
theorem dX3_read_44 : decode cX3_read 44 = .ok (.iconst 0, 1) := by decide +kernel
theorem dX3_read_45 : decode cX3_read 45 = .ok (.ireturn, 1) := by decide +kernel
theorem dX3_read_46 : decode cX3_read 46 = .ok (.aload_n 0, 1) := by decide +kernel
theorem dX3_read_47 : decode cX3_read 47 = .ok (.invokevirtual 41, 3) := by decide +kernel
theorem dX3_read_50 : decode cX3_read 50 = .ok (.ifCond .ne 5, 3) := by decide +kernel
theorem dX3_read_53 : decode cX3_read 53 = .ok (.iconst 0, 1) := by decide +kernel
theorem dX3_read_54 : decode cX3_read 54 = .ok (.ireturn, 1) := by decide +kernel
theorem dX3_read_55 : decode cX3_read 55 = .ok (.iinc 1 1, 3) := by decide +kernel
theorem dX3_read_58 : decode cX3_read 58 = .ok (.goto (-46), 3) := by decide +kernel
theorem dX3_read_61 : decode cX3_read 61 = .ok (.iconst 1, 1) := by decide +kernel
theorem dX3_read_62 : decode cX3_read 62 = .ok (.ireturn, 1) := by decide +kernel
theorem dX3_readCommand_0 : decode cX3_readCommand 0 = .ok (.aload_n 0, 1) := by decide +kernel
theorem dX3_readCommand_1 : decode cX3_readCommand 1 = .ok (.invokevirtual 45, 3) := by decide +kernel
theorem dX3_readCommand_4 : decode cX3_readCommand 4 = .ok (.istore_n 1, 1) := by decide +kernel
theorem dX3_readCommand_5 : decode cX3_readCommand 5 = .ok (.iload_n 1, 1) := by decide +kernel
theorem dX3_readCommand_6 : decode cX3_readCommand 6 = .ok (.bipush 115, 2) := by decide +kernel
theorem dX3_readCommand_8 : decode cX3_readCommand 8 = .ok (.if_icmp .eq 17, 3) := by decide +kernel
theorem dX3_readCommand_11 : decode cX3_readCommand 11 = .ok (.iload_n 1, 1) := by decide +kernel
theorem dX3_readCommand_12 : decode cX3_readCommand 12 = .ok (.bipush 101, 2) := by decide +kernel
theorem dX3_readCommand_14 : decode cX3_readCommand 14 = .ok (.if_icmp .eq 11, 3) := by decide +kernel
theorem dX3_readCommand_17 : decode cX3_readCommand 17 = .ok (.iload_n 1, 1) := by decide +kernel
theorem dX3_readCommand_18 : decode cX3_readCommand 18 = .ok (.bipush 104, 2) := by decide +kernel
theorem dX3_readCommand_20 : decode cX3_readCommand 20 = .ok (.if_icmp .eq 5, 3) := by decide +kernel
theorem dX3_readCommand_23 : decode cX3_readCommand 23 = .ok (.iconst 0, 1) := by decide +kernel
theorem dX3_readCommand_24 : decode cX3_readCommand 24 = .ok (.ireturn, 1) := by decide +kernel
theorem dX3_readCommand_25 : decode cX3_readCommand 25 = .ok (.aload_n 0, 1) := by decide +kernel
theorem dX3_readCommand_26 : decode cX3_readCommand 26 = .ok (.dup, 1) := by decide +kernel
theorem dX3_readCommand_27 : decode cX3_readCommand 27 = .ok (.getfield 32, 3) := by decide +kernel
theorem dX3_readCommand_30 : decode cX3_readCommand 30 = .ok (.iconst 1, 1) := by decide +kernel
theorem dX3_readCommand_31 : decode cX3_readCommand 31 = .ok (.iadd, 1) := by decide +kernel
theorem dX3_readCommand_32 : decode cX3_readCommand 32 = .ok (.putfield 32, 3) := by decide +kernel
theorem dX3_readCommand_35 : decode cX3_readCommand 35 = .ok (.aload_n 0, 1) := by decide +kernel
theorem dX3_readCommand_36 : decode cX3_readCommand 36 = .ok (.invokevirtual 49, 3) := by decide +kernel
theorem dX3_readCommand_39 : decode cX3_readCommand 39 = .ok (.istore_n 2, 1) := by decide +kernel
theorem dX3_readCommand_40 : decode cX3_readCommand 40 = .ok (.iload_n 2, 1) := by decide +kernel
theorem dX3_readCommand_41 : decode cX3_readCommand 41 = .ok (.bipush (-9), 2) := by decide +kernel
theorem dX3_readCommand_43 : decode cX3_readCommand 43 = .ok (.if_icmp .ne 5, 3) := by decide +kernel
theorem dX3_readCommand_46 : decode cX3_readCommand 46 = .ok (.iconst 0, 1) := by decide +kernel
theorem dX3_readCommand_47 : decode cX3_readCommand 47 = .ok (.ireturn, 1) := by decide +kernel
theorem dX3_readCommand_48 : decode cX3_readCommand 48 = .ok (.iconst 0, 1) := by decide +kernel
theorem dX3_readCommand_49 : decode cX3_readCommand 49 = .ok (.istore_n 3, 1) := by decide +kernel
theorem dX3_readCommand_50 : decode cX3_readCommand 50 = .ok (.iload_n 1, 1) := by decide +kernel
theorem dX3_readCommand_51 : decode cX3_readCommand 51 = .ok (.bipush 104, 2) := by decide +kernel
theorem dX3_readCommand_53 : decode cX3_readCommand 53 = .ok (.if_icmp .ne 22, 3) := by decide +kernel
theorem dX3_readCommand_56 : decode cX3_readCommand 56 = .ok (.aload_n 0, 1) := by decide +kernel
theorem dX3_readCommand_57 : decode cX3_readCommand 57 = .ok (.bipush 44, 2) := by decide +kernel
theorem dX3_readCommand_59 : decode cX3_readCommand 59 = .ok (.invokevirtual 52, 3) := by decide +kernel
theorem dX3_readCommand_62 : decode cX3_readCommand 62 = .ok (.ifCond .eq 10, 3) := by decide +kernel
theorem dX3_readCommand_65 : decode cX3_readCommand 65 = .ok (.aload_n 0, 1) := by decide +kernel
theorem dX3_readCommand_66 : decode cX3_readCommand 66 = .ok (.invokevirtual 49, 3) := by decide +kernel
theorem dX3_readCommand_69 : decode cX3_readCommand 69 = .ok (.goto 5, 3) := by decide +kernel
theorem dX3_readCommand_72 : decode cX3_readCommand 72 = .ok (.bipush (-9), 2) := by decide +kernel
theorem dX3_readCommand_74 : decode cX3_readCommand 74 = .ok (.istore_n 3, 1) := by decide +kernel
theorem dX3_readCommand_75 : decode cX3_readCommand 75 = .ok (.iload_n 3, 1) := by decide +kernel
theorem dX3_readCommand_76 : decode cX3_readCommand 76 = .ok (.bipush (-9), 2) := by decide +kernel
theorem dX3_readCommand_78 : decode cX3_readCommand 78 = .ok (.if_icmp .eq 12, 3) := by decide +kernel
theorem dX3_readCommand_81 : decode cX3_readCommand 81 = .ok (.aload_n 0, 1) := by decide +kernel
theorem dX3_readCommand_82 : decode cX3_readCommand 82 = .ok (.bipush 59, 2) := by decide +kernel
theorem dX3_readCommand_84 : decode cX3_readCommand 84 = .ok (.invokevirtual 52, 3) := by decide +kernel
theorem dX3_readCommand_87 : decode cX3_readCommand 87 = .ok (.ifCond .ne 5, 3) := by decide +kernel
theorem dX3_readCommand_90 : decode cX3_readCommand 90 = .ok (.iconst 0, 1) := by decide +kernel
theorem dX3_readCommand_91 : decode cX3_readCommand 91 = .ok (.ireturn, 1) := by decide +kernel
theorem dX3_readCommand_92 : decode cX3_readCommand 92 = .ok (.aload_n 0, 1) := by decide +kernel
theorem dX3_readCommand_93 : decode cX3_readCommand 93 = .ok (.iload_n 1, 1) := by decide +kernel
theorem dX3_readCommand_94 : decode cX3_readCommand 94 = .ok (.iload_n 2, 1) := by decide +kernel
theorem dX3_readCommand_95 : decode cX3_readCommand 95 = .ok (.iload_n 3, 1) := by decide +kernel
theorem dX3_readCommand_96 : decode cX3_readCommand 96 = .ok (.invokevirtual 56, 3) := by decide +kernel
theorem dX3_readCommand_99 : decode cX3_readCommand 99 = .ok (.ireturn, 1) := by decide +kernel
theorem dX3_readNumber_0 : decode cX3_readNumber 0 = .ok (.aload_n 0, 1) := by decide +kernel
theorem dX3_readNumber_1 : decode cX3_readNumber 1 = .ok (.invokevirtual 38, 3) := by decide +kernel
theorem dX3_readNumber_4 : decode cX3_readNumber 4 = .ok (.aload_n 0, 1) := by decide +kernel
theorem dX3_readNumber_5 : decode cX3_readNumber 5 = .ok (.invokevirtual 59, 3) := by decide +kernel
theorem dX3_readNumber_8 : decode cX3_readNumber 8 = .ok (.istore_n 1, 1) := by decide +kernel
theorem dX3_readNumber_9 : decode cX3_readNumber 9 = .ok (.iload_n 1, 1) := by decide +kernel
theorem dX3_readNumber_10 : decode cX3_readNumber 10 = .ok (.bipush (-9), 2) := by decide +kernel
theorem dX3_readNumber_12 : decode cX3_readNumber 12 = .ok (.if_icmp .ne 6, 3) := by decide +kernel
theorem dX3_readNumber_15 : decode cX3_readNumber 15 = .ok (.bipush (-9), 2) := by decide +kernel
theorem dX3_readNumber_17 : decode cX3_readNumber 17 = .ok (.ireturn, 1) := by decide +kernel
theorem dX3_readNumber_18 : decode cX3_readNumber 18 = .ok (.aload_n 0, 1) := by decide +kernel
theorem dX3_readNumber_19 : decode cX3_readNumber 19 = .ok (.dup, 1) := by decide +kernel
theorem dX3_readNumber_20 : decode cX3_readNumber 20 = .ok (.getfield 32, 3) := by decide +kernel
theorem dX3_readNumber_23 : decode cX3_readNumber 23 = .ok (.iconst 1, 1) := by decide +kernel
theorem dX3_readNumber_24 : decode cX3_readNumber 24 = .ok (.iadd, 1) := by decide +kernel
theorem dX3_readNumber_25 : decode cX3_readNumber 25 = .ok (.putfield 32, 3) := by decide +kernel
theorem dX3_readNumber_28 : decode cX3_readNumber 28 = .ok (.aload_n 0, 1) := by decide +kernel
theorem dX3_readNumber_29 : decode cX3_readNumber 29 = .ok (.invokevirtual 59, 3) := by decide +kernel
theorem dX3_readNumber_32 : decode cX3_readNumber 32 = .ok (.istore_n 2, 1) := by decide +kernel
theorem dX3_readNumber_33 : decode cX3_readNumber 33 = .ok (.iload_n 1, 1) := by decide +kernel
theorem dX3_readNumber_34 : decode cX3_readNumber 34 = .ok (.ifCond .eq 9, 3) := by decide +kernel
theorem dX3_readNumber_37 : decode cX3_readNumber 37 = .ok (.iload_n 2, 1) := by decide +kernel
theorem dX3_readNumber_38 : decode cX3_readNumber 38 = .ok (.bipush (-9), 2) := by decide +kernel
theorem dX3_readNumber_40 : decode cX3_readNumber 40 = .ok (.if_icmp .ne 5, 3) := by decide +kernel
theorem dX3_readNumber_43 : decode cX3_readNumber 43 = .ok (.iload_n 1, 1) := by decide +kernel
theorem dX3_readNumber_44 : decode cX3_readNumber 44 = .ok (.ireturn, 1) := by decide +kernel
theorem dX3_readNumber_45 : decode cX3_readNumber 45 = .ok (.aload_n 0, 1) := by decide +kernel
theorem dX3_readNumber_46 : decode cX3_readNumber 46 = .ok (.dup, 1) := by decide +kernel
theorem dX3_readNumber_47 : decode cX3_readNumber 47 = .ok (.getfield 32, 3) := by decide +kernel
theorem dX3_readNumber_50 : decode cX3_readNumber 50 = .ok (.iconst 1, 1) := by decide +kernel
theorem dX3_readNumber_51 : decode cX3_readNumber 51 = .ok (.iadd, 1) := by decide +kernel
theorem dX3_readNumber_52 : decode cX3_readNumber 52 = .ok (.putfield 32, 3) := by decide +kernel
theorem dX3_readNumber_55 : decode cX3_readNumber 55 = .ok (.iload_n 1, 1) := by decide +kernel
theorem dX3_readNumber_56 : decode cX3_readNumber 56 = .ok (.bipush 10, 2) := by decide +kernel
theorem dX3_readNumber_58 : decode cX3_readNumber 58 = .ok (.imul, 1) := by decide +kernel
theorem dX3_readNumber_59 : decode cX3_readNumber 59 = .ok (.iload_n 2, 1) := by decide +kernel
theorem dX3_readNumber_60 : decode cX3_readNumber 60 = .ok (.iadd, 1) := by decide +kernel
theorem dX3_readNumber_61 : decode cX3_readNumber 61 = .ok (.ireturn, 1) := by decide +kernel
theorem dX3_readSign_0 : decode cX3_readSign 0 = .ok (.aload_n 0, 1) := by decide +kernel
theorem dX3_readSign_1 : decode cX3_readSign 1 = .ok (.invokevirtual 38, 3) := by decide +kernel
theorem dX3_readSign_4 : decode cX3_readSign 4 = .ok (.aload_n 0, 1) := by decide +kernel
theorem dX3_readSign_5 : decode cX3_readSign 5 = .ok (.invokevirtual 45, 3) := by decide +kernel
theorem dX3_readSign_8 : decode cX3_readSign 8 = .ok (.iload_n 1, 1) := by decide +kernel
theorem dX3_readSign_9 : decode cX3_readSign 9 = .ok (.if_icmp .eq 5, 3) := by decide +kernel
theorem dX3_readSign_12 : decode cX3_readSign 12 = .ok (.iconst 0, 1) := by decide +kernel
theorem dX3_readSign_13 : decode cX3_readSign 13 = .ok (.ireturn, 1) := by decide +kernel
theorem dX3_readSign_14 : decode cX3_readSign 14 = .ok (.aload_n 0, 1) := by decide +kernel
theorem dX3_readSign_15 : decode cX3_readSign 15 = .ok (.dup, 1) := by decide +kernel
theorem dX3_readSign_16 : decode cX3_readSign 16 = .ok (.getfield 32, 3) := by decide +kernel
theorem dX3_readSign_19 : decode cX3_readSign 19 = .ok (.iconst 1, 1) := by decide +kernel
theorem dX3_readSign_20 : decode cX3_readSign 20 = .ok (.iadd, 1) := by decide +kernel
theorem dX3_readSign_21 : decode cX3_readSign 21 = .ok (.putfield 32, 3) := by decide +kernel
theorem dX3_readSign_24 : decode cX3_readSign 24 = .ok (.iconst 1, 1) := by decide +kernel
theorem dX3_readSign_25 : decode cX3_readSign 25 = .ok (.ireturn, 1) := by decide +kernel
theorem dX3_keep_0 : decode cX3_keep 0 = .ok (.aload_n 0, 1) := by decide +kernel
theorem dX3_keep_1 : decode cX3_keep 1 = .ok (.getfield 35, 3) := by decide +kernel
theorem dX3_keep_4 : decode cX3_keep 4 = .ok (.iconst 0, 1) := by decide +kernel
theorem dX3_keep_5 : decode cX3_keep 5 = .ok (.bipush 32, 2) := by decide +kernel
theorem dX3_keep_7 : decode cX3_keep 7 = .ok (.invokestatic 28, 3) := by decide +kernel
theorem dX3_keep_10 : decode cX3_keep 10 = .ok (.ifCond .ne 5, 3) := by decide +kernel
theorem dX3_keep_13 : decode cX3_keep 13 = .ok (.iconst 0, 1) := by decide +kernel
theorem dX3_keep_14 : decode cX3_keep 14 = .ok (.ireturn, 1) := by decide +kernel
theorem dX3_keep_15 : decode cX3_keep 15 = .ok (.aload_n 0, 1) := by decide +kernel
theorem dX3_keep_16 : decode cX3_keep 16 = .ok (.getfield 9, 3) := by decide +kernel
theorem dX3_keep_19 : decode cX3_keep 19 = .ok (.aload_n 0, 1) := by decide +kernel
theorem dX3_keep_20 : decode cX3_keep 20 = .ok (.getfield 35, 3) := by decide +kernel
theorem dX3_keep_23 : decode cX3_keep 23 = .ok (.iload_n 1, 1) := by decide +kernel
theorem dX3_keep_24 : decode cX3_keep 24 = .ok (.iastore, 1) := by decide +kernel
theorem dX3_keep_25 : decode cX3_keep 25 = .ok (.aload_n 0, 1) := by decide +kernel
theorem dX3_keep_26 : decode cX3_keep 26 = .ok (.getfield 15, 3) := by decide +kernel
theorem dX3_keep_29 : decode cX3_keep 29 = .ok (.aload_n 0, 1) := by decide +kernel
theorem dX3_keep_30 : decode cX3_keep 30 = .ok (.getfield 35, 3) := by decide +kernel
theorem dX3_keep_33 : decode cX3_keep 33 = .ok (.iload_n 2, 1) := by decide +kernel
theorem dX3_keep_34 : decode cX3_keep 34 = .ok (.iastore, 1) := by decide +kernel
theorem dX3_keep_35 : decode cX3_keep 35 = .ok (.aload_n 0, 1) := by decide +kernel
theorem dX3_keep_36 : decode cX3_keep 36 = .ok (.getfield 18, 3) := by decide +kernel
theorem dX3_keep_39 : decode cX3_keep 39 = .ok (.aload_n 0, 1) := by decide +kernel
theorem dX3_keep_40 : decode cX3_keep 40 = .ok (.getfield 35, 3) := by decide +kernel
theorem dX3_keep_43 : decode cX3_keep 43 = .ok (.iload_n 3, 1) := by decide +kernel
theorem dX3_keep_44 : decode cX3_keep 44 = .ok (.iastore, 1) := by decide +kernel
theorem dX3_keep_45 : decode cX3_keep 45 = .ok (.aload_n 0, 1) := by decide +kernel
theorem dX3_keep_46 : decode cX3_keep 46 = .ok (.dup, 1) := by decide +kernel
theorem dX3_keep_47 : decode cX3_keep 47 = .ok (.getfield 35, 3) := by decide +kernel
theorem dX3_keep_50 : decode cX3_keep 50 = .ok (.iconst 1, 1) := by decide +kernel
theorem dX3_keep_51 : decode cX3_keep 51 = .ok (.iadd, 1) := by decide +kernel
theorem dX3_keep_52 : decode cX3_keep 52 = .ok (.putfield 35, 3) := by decide +kernel
theorem dX3_keep_55 : decode cX3_keep 55 = .ok (.iconst 1, 1) := by decide +kernel
theorem dX3_keep_56 : decode cX3_keep 56 = .ok (.ireturn, 1) := by decide +kernel
theorem dX3_skipSpaces_0 : decode cX3_skipSpaces 0 = .ok (.iconst 0, 1) := by decide +kernel
theorem dX3_skipSpaces_1 : decode cX3_skipSpaces 1 = .ok (.istore_n 1, 1) := by decide +kernel
theorem dX3_skipSpaces_2 : decode cX3_skipSpaces 2 = .ok (.iload_n 1, 1) := by decide +kernel
theorem dX3_skipSpaces_3 : decode cX3_skipSpaces 3 = .ok (.bipush 100, 2) := by decide +kernel
theorem dX3_skipSpaces_5 : decode cX3_skipSpaces 5 = .ok (.if_icmp .ge 28, 3) := by decide +kernel
theorem dX3_skipSpaces_8 : decode cX3_skipSpaces 8 = .ok (.aload_n 0, 1) := by decide +kernel
theorem dX3_skipSpaces_9 : decode cX3_skipSpaces 9 = .ok (.invokevirtual 45, 3) := by decide +kernel
theorem dX3_skipSpaces_12 : decode cX3_skipSpaces 12 = .ok (.bipush 32, 2) := by decide +kernel
theorem dX3_skipSpaces_14 : decode cX3_skipSpaces 14 = .ok (.if_icmp .ne 19, 3) := by decide +kernel
theorem dX3_skipSpaces_17 : decode cX3_skipSpaces 17 = .ok (.aload_n 0, 1) := by decide +kernel
theorem dX3_skipSpaces_18 : decode cX3_skipSpaces 18 = .ok (.dup, 1) := by decide +kernel
theorem dX3_skipSpaces_19 : decode cX3_skipSpaces 19 = .ok (.getfield 32, 3) := by decide +kernel
theorem dX3_skipSpaces_22 : decode cX3_skipSpaces 22 = .ok (.iconst 1, 1) := by decide +kernel
theorem dX3_skipSpaces_23 : decode cX3_skipSpaces 23 = .ok (.iadd, 1) := by decide +kernel
theorem dX3_skipSpaces_24 : decode cX3_skipSpaces 24 = .ok (.putfield 32, 3) := by decide +kernel
theorem dX3_skipSpaces_27 : decode cX3_skipSpaces 27 = .ok (.iinc 1 1, 3) := by decide +kernel
theorem dX3_skipSpaces_30 : decode cX3_skipSpaces 30 = .ok (.goto (-28), 3) := by decide +kernel
theorem dX3_skipSpaces_33 : decode cX3_skipSpaces 33 = .ok (.return_, 1) := by decide +kernel
theorem dX3_digit_0 : decode cX3_digit 0 = .ok (.aload_n 0, 1) := by decide +kernel
theorem dX3_digit_1 : decode cX3_digit 1 = .ok (.invokevirtual 45, 3) := by decide +kernel
theorem dX3_digit_4 : decode cX3_digit 4 = .ok (.istore_n 1, 1) := by decide +kernel
theorem dX3_digit_5 : decode cX3_digit 5 = .ok (.iload_n 1, 1) := by decide +kernel
theorem dX3_digit_6 : decode cX3_digit 6 = .ok (.bipush 48, 2) := by decide +kernel
theorem dX3_digit_8 : decode cX3_digit 8 = .ok (.bipush 57, 2) := by decide +kernel
theorem dX3_digit_10 : decode cX3_digit 10 = .ok (.invokestatic 28, 3) := by decide +kernel
theorem dX3_digit_13 : decode cX3_digit 13 = .ok (.ifCond .eq 10, 3) := by decide +kernel
theorem dX3_digit_16 : decode cX3_digit 16 = .ok (.iload_n 1, 1) := by decide +kernel
theorem dX3_digit_17 : decode cX3_digit 17 = .ok (.bipush 48, 2) := by decide +kernel
theorem dX3_digit_19 : decode cX3_digit 19 = .ok (.isub, 1) := by decide +kernel
theorem dX3_digit_20 : decode cX3_digit 20 = .ok (.goto 5, 3) := by decide +kernel
theorem dX3_digit_23 : decode cX3_digit 23 = .ok (.bipush (-9), 2) := by decide +kernel
theorem dX3_digit_25 : decode cX3_digit 25 = .ok (.ireturn, 1) := by decide +kernel
theorem dX3_character_0 : decode cX3_character 0 = .ok (.aload_n 0, 1) := by decide +kernel
theorem dX3_character_1 : decode cX3_character 1 = .ok (.getfield 32, 3) := by decide +kernel
theorem dX3_character_4 : decode cX3_character 4 = .ok (.ifCond .lt 27, 3) := by decide +kernel
theorem dX3_character_7 : decode cX3_character 7 = .ok (.aload_n 0, 1) := by decide +kernel
theorem dX3_character_8 : decode cX3_character 8 = .ok (.getfield 32, 3) := by decide +kernel
theorem dX3_character_11 : decode cX3_character 11 = .ok (.aload_n 0, 1) := by decide +kernel
theorem dX3_character_12 : decode cX3_character 12 = .ok (.getfield 24, 3) := by decide +kernel
theorem dX3_character_15 : decode cX3_character 15 = .ok (.if_icmp .ge 16, 3) := by decide +kernel
theorem dX3_character_18 : decode cX3_character 18 = .ok (.aload_n 0, 1) := by decide +kernel
theorem dX3_character_19 : decode cX3_character 19 = .ok (.getfield 32, 3) := by decide +kernel
theorem dX3_character_22 : decode cX3_character 22 = .ok (.bipush 100, 2) := by decide +kernel
theorem dX3_character_24 : decode cX3_character 24 = .ok (.if_icmp .ge 7, 3) := by decide +kernel
theorem dX3_character_27 : decode cX3_character 27 = .ok (.iconst 1, 1) := by decide +kernel
theorem dX3_character_28 : decode cX3_character 28 = .ok (.goto 4, 3) := by decide +kernel
theorem dX3_character_31 : decode cX3_character 31 = .ok (.iconst 0, 1) := by decide +kernel
theorem dX3_character_32 : decode cX3_character 32 = .ok (.istore_n 1, 1) := by decide +kernel
theorem dX3_character_33 : decode cX3_character 33 = .ok (.iload_n 1, 1) := by decide +kernel
theorem dX3_character_34 : decode cX3_character 34 = .ok (.ifCond .eq 15, 3) := by decide +kernel
theorem dX3_character_37 : decode cX3_character 37 = .ok (.aload_n 0, 1) := by decide +kernel
theorem dX3_character_38 : decode cX3_character 38 = .ok (.getfield 21, 3) := by decide +kernel
theorem dX3_character_41 : decode cX3_character 41 = .ok (.aload_n 0, 1) := by decide +kernel
theorem dX3_character_42 : decode cX3_character 42 = .ok (.getfield 32, 3) := by decide +kernel
theorem dX3_character_45 : decode cX3_character 45 = .ok (.iaload, 1) := by decide +kernel
theorem dX3_character_46 : decode cX3_character 46 = .ok (.goto 5, 3) := by decide +kernel
theorem dX3_character_49 : decode cX3_character 49 = .ok (.bipush (-9), 2) := by decide +kernel
theorem dX3_character_51 : decode cX3_character 51 = .ok (.ireturn, 1) := by decide +kernel
theorem dX4_init_0 : decode cX4_init 0 = .ok (.aload_n 0, 1) := by decide +kernel
theorem dX4_init_1 : decode cX4_init 1 = .ok (.invokespecial 3, 3) := by decide +kernel
theorem dX4_init_4 : decode cX4_init 4 = .ok (.new 9, 3) := by decide +kernel
theorem dX4_init_7 : decode cX4_init 7 = .ok (.dup, 1) := by decide +kernel
theorem dX4_init_8 : decode cX4_init 8 = .ok (.iconst 3, 1) := by decide +kernel
theorem dX4_init_9 : decode cX4_init 9 = .ok (.iconst 4, 1) := by decide +kernel
theorem dX4_init_10 : decode cX4_init 10 = .ok (.iconst 2, 1) := by decide +kernel
theorem dX4_init_11 : decode cX4_init 11 = .ok (.iconst 2, 1) := by decide +kernel
theorem dX4_init_12 : decode cX4_init 12 = .ok (.invokespecial 11, 3) := by decide +kernel
theorem dX4_init_15 : decode cX4_init 15 = .ok (.astore_n 1, 1) := by decide +kernel
theorem dX4_init_16 : decode cX4_init 16 = .ok (.aload_n 0, 1) := by decide +kernel
theorem dX4_init_17 : decode cX4_init 17 = .ok (.new 14, 3) := by decide +kernel
theorem dX4_init_20 : decode cX4_init 20 = .ok (.dup, 1) := by decide +kernel
theorem dX4_init_21 : decode cX4_init 21 = .ok (.aload_n 1, 1) := by decide +kernel
theorem dX4_init_22 : decode cX4_init 22 = .ok (.invokespecial 16, 3) := by decide +kernel
theorem dX4_init_25 : decode cX4_init 25 = .ok (.putfield 19, 3) := by decide +kernel
theorem dX4_init_28 : decode cX4_init 28 = .ok (.aload_n 0, 1) := by decide +kernel
theorem dX4_init_29 : decode cX4_init 29 = .ok (.new 23, 3) := by decide +kernel
theorem dX4_init_32 : decode cX4_init 32 = .ok (.dup, 1) := by decide +kernel
theorem dX4_init_33 : decode cX4_init 33 = .ok (.aload_n 1, 1) := by decide +kernel
theorem dX4_init_34 : decode cX4_init 34 = .ok (.invokespecial 25, 3) := by decide +kernel
theorem dX4_init_37 : decode cX4_init 37 = .ok (.putfield 26, 3) := by decide +kernel
theorem dX4_init_40 : decode cX4_init 40 = .ok (.aload_n 0, 1) := by decide +kernel
theorem dX4_init_41 : decode cX4_init 41 = .ok (.iconst 2, 1) := by decide +kernel
theorem dX4_init_42 : decode cX4_init 42 = .ok (.anewarray 14, 3) := by decide +kernel
theorem dX4_init_45 : decode cX4_init 45 = .ok (.putfield 30, 3) := by decide +kernel
theorem dX4_init_48 : decode cX4_init 48 = .ok (.aload_n 0, 1) := by decide +kernel
theorem dX4_init_49 : decode cX4_init 49 = .ok (.new 34, 3) := by decide +kernel
theorem dX4_init_52 : decode cX4_init 52 = .ok (.dup, 1) := by decide +kernel
theorem dX4_init_53 : decode cX4_init 53 = .ok (.invokespecial 36, 3) := by decide +kernel
theorem dX4_init_56 : decode cX4_init 56 = .ok (.putfield 37, 3) := by decide +kernel
theorem dX4_init_59 : decode cX4_init 59 = .ok (.return_, 1) := by decide +kernel
theorem dX4_configure_0 : decode cX4_configure 0 = .ok (.iload_n 1, 1) := by decide +kernel
theorem dX4_configure_1 : decode cX4_configure 1 = .ok (.iconst 1, 1) := by decide +kernel
theorem dX4_configure_2 : decode cX4_configure 2 = .ok (.iconst 5, 1) := by decide +kernel
theorem dX4_configure_3 : decode cX4_configure 3 = .ok (.invokestatic 41, 3) := by decide +kernel
theorem dX4_configure_6 : decode cX4_configure 6 = .ok (.ifCond .eq 35, 3) := by decide +kernel
theorem dX4_configure_9 : decode cX4_configure 9 = .ok (.iload_n 2, 1) := by decide +kernel
theorem dX4_configure_10 : decode cX4_configure 10 = .ok (.iconst 1, 1) := by decide +kernel
theorem dX4_configure_11 : decode cX4_configure 11 = .ok (.iconst 5, 1) := by decide +kernel
theorem dX4_configure_12 : decode cX4_configure 12 = .ok (.invokestatic 41, 3) := by decide +kernel
theorem dX4_configure_15 : decode cX4_configure 15 = .ok (.ifCond .eq 26, 3) := by decide +kernel
theorem dX4_configure_18 : decode cX4_configure 18 = .ok (.iload_n 3, 1) := by decide +kernel
theorem dX4_configure_19 : decode cX4_configure 19 = .ok (.iconst 2, 1) := by decide +kernel
theorem dX4_configure_20 : decode cX4_configure 20 = .ok (.iconst 3, 1) := by decide +kernel
theorem dX4_configure_21 : decode cX4_configure 21 = .ok (.invokestatic 41, 3) := by decide +kernel
theorem dX4_configure_24 : decode cX4_configure 24 = .ok (.ifCond .eq 17, 3) := by decide +kernel
theorem dX4_configure_27 : decode cX4_configure 27 = .ok (.iload 4, 2) := by decide +kernel
theorem dX4_configure_29 : decode cX4_configure 29 = .ok (.iconst 1, 1) := by decide +kernel
theorem dX4_configure_30 : decode cX4_configure 30 = .ok (.iconst 4, 1) := by decide +kernel
theorem dX4_configure_31 : decode cX4_configure 31 = .ok (.invokestatic 41, 3) := by decide +kernel
theorem dX4_configure_34 : decode cX4_configure 34 = .ok (.ifCond .eq 7, 3) := by decide +kernel
theorem dX4_configure_37 : decode cX4_configure 37 = .ok (.iconst 1, 1) := by decide +kernel
theorem dX4_configure_38 : decode cX4_configure 38 = .ok (.goto 4, 3) := by decide +kernel
theorem dX4_configure_41 : decode cX4_configure 41 = .ok (.iconst 0, 1) := by decide +kernel
theorem dX4_configure_42 : decode cX4_configure 42 = .ok (.istore 5, 2) := by decide +kernel
theorem dX4_configure_44 : decode cX4_configure 44 = .ok (.iload 5, 2) := by decide +kernel
theorem dX4_configure_46 : decode cX4_configure 46 = .ok (.ifCond .ne 5, 3) := by decide +kernel
theorem dX4_configure_49 : decode cX4_configure 49 = .ok (.iconst (-1), 1) := by decide +kernel
theorem dX4_configure_50 : decode cX4_configure 50 = .ok (.ireturn, 1) := by decide +kernel
theorem dX4_configure_51 : decode cX4_configure 51 = .ok (.aload_n 0, 1) := by decide +kernel
theorem dX4_configure_52 : decode cX4_configure 52 = .ok (.getfield 26, 3) := by decide +kernel
theorem dX4_configure_55 : decode cX4_configure 55 = .ok (.aload_n 0, 1) := by decide +kernel
theorem dX4_configure_56 : decode cX4_configure 56 = .ok (.getfield 19, 3) := by decide +kernel
theorem dX4_configure_59 : decode cX4_configure 59 = .ok (.invokevirtual 45, 3) := by decide +kernel
theorem dX4_configure_62 : decode cX4_configure 62 = .ok (.aload_n 0, 1) := by decide +kernel
theorem dX4_configure_63 : decode cX4_configure 63 = .ok (.getfield 19, 3) := by decide +kernel
theorem dX4_configure_66 : decode cX4_configure 66 = .ok (.new 9, 3) := by decide +kernel
theorem dX4_configure_69 : decode cX4_configure 69 = .ok (.dup, 1) := by decide +kernel
theorem dX4_configure_70 : decode cX4_configure 70 = .ok (.iload_n 1, 1) := by decide +kernel
theorem dX4_configure_71 : decode cX4_configure 71 = .ok (.iload_n 2, 1) := by decide +kernel
theorem dX4_configure_72 : decode cX4_configure 72 = .ok (.iload_n 3, 1) := by decide +kernel
theorem dX4_configure_73 : decode cX4_configure 73 = .ok (.iload 4, 2) := by decide +kernel
theorem dX4_configure_75 : decode cX4_configure 75 = .ok (.invokespecial 11, 3) := by decide +kernel
theorem dX4_configure_78 : decode cX4_configure 78 = .ok (.invokevirtual 49, 3) := by decide +kernel
theorem dX4_configure_81 : decode cX4_configure 81 = .ok (.aload_n 0, 1) := by decide +kernel
theorem dX4_configure_82 : decode cX4_configure 82 = .ok (.getfield 19, 3) := by decide +kernel
theorem dX4_configure_85 : decode cX4_configure 85 = .ok (.getfield 52, 3) := by decide +kernel
theorem dX4_configure_88 : decode cX4_configure 88 = .ok (.getfield 56, 3) := by decide +kernel
theorem dX4_configure_91 : decode cX4_configure 91 = .ok (.ireturn, 1) := by decide +kernel
theorem dX4_setStrategy_0 : decode cX4_setStrategy 0 = .ok (.iload_n 1, 1) := by decide +kernel
theorem dX4_setStrategy_1 : decode cX4_setStrategy 1 = .ok (.iconst 0, 1) := by decide +kernel
theorem dX4_setStrategy_2 : decode cX4_setStrategy 2 = .ok (.iconst 2, 1) := by decide +kernel
theorem dX4_setStrategy_3 : decode cX4_setStrategy 3 = .ok (.invokestatic 41, 3) := by decide +kernel
theorem dX4_setStrategy_6 : decode cX4_setStrategy 6 = .ok (.ifCond .ne 5, 3) := by decide +kernel
theorem dX4_setStrategy_9 : decode cX4_setStrategy 9 = .ok (.iconst (-1), 1) := by decide +kernel
theorem dX4_setStrategy_10 : decode cX4_setStrategy 10 = .ok (.ireturn, 1) := by decide +kernel
theorem dX4_setStrategy_11 : decode cX4_setStrategy 11 = .ok (.aload_n 0, 1) := by decide +kernel
theorem dX4_setStrategy_12 : decode cX4_setStrategy 12 = .ok (.getfield 26, 3) := by decide +kernel
theorem dX4_setStrategy_15 : decode cX4_setStrategy 15 = .ok (.aload_n 0, 1) := by decide +kernel
theorem dX4_setStrategy_16 : decode cX4_setStrategy 16 = .ok (.getfield 19, 3) := by decide +kernel
theorem dX4_setStrategy_19 : decode cX4_setStrategy 19 = .ok (.invokevirtual 45, 3) := by decide +kernel
theorem dX4_setStrategy_22 : decode cX4_setStrategy 22 = .ok (.aload_n 0, 1) := by decide +kernel
theorem dX4_setStrategy_23 : decode cX4_setStrategy 23 = .ok (.getfield 19, 3) := by decide +kernel
theorem dX4_setStrategy_26 : decode cX4_setStrategy 26 = .ok (.getfield 60, 3) := by decide +kernel
theorem dX4_setStrategy_29 : decode cX4_setStrategy 29 = .ok (.istore_n 2, 1) := by decide +kernel
theorem dX4_setStrategy_30 : decode cX4_setStrategy 30 = .ok (.aload_n 0, 1) := by decide +kernel
theorem dX4_setStrategy_31 : decode cX4_setStrategy 31 = .ok (.getfield 19, 3) := by decide +kernel
theorem dX4_setStrategy_34 : decode cX4_setStrategy 34 = .ok (.iload_n 1, 1) := by decide +kernel
theorem dX4_setStrategy_35 : decode cX4_setStrategy 35 = .ok (.putfield 60, 3) := by decide +kernel
theorem dX4_setStrategy_38 : decode cX4_setStrategy 38 = .ok (.iload_n 2, 1) := by decide +kernel
theorem dX4_setStrategy_39 : decode cX4_setStrategy 39 = .ok (.ireturn, 1) := by decide +kernel
theorem dX4_setReserve_0 : decode cX4_setReserve 0 = .ok (.iload_n 1, 1) := by decide +kernel
theorem dX4_setReserve_1 : decode cX4_setReserve 1 = .ok (.iconst 0, 1) := by decide +kernel
theorem dX4_setReserve_2 : decode cX4_setReserve 2 = .ok (.iconst 3, 1) := by decide +kernel
theorem dX4_setReserve_3 : decode cX4_setReserve 3 = .ok (.invokestatic 41, 3) := by decide +kernel
theorem dX4_setReserve_6 : decode cX4_setReserve 6 = .ok (.ifCond .ne 5, 3) := by decide +kernel
theorem dX4_setReserve_9 : decode cX4_setReserve 9 = .ok (.iconst (-1), 1) := by decide +kernel
theorem dX4_setReserve_10 : decode cX4_setReserve 10 = .ok (.ireturn, 1) := by decide +kernel
theorem dX4_setReserve_11 : decode cX4_setReserve 11 = .ok (.aload_n 0, 1) := by decide +kernel
theorem dX4_setReserve_12 : decode cX4_setReserve 12 = .ok (.getfield 26, 3) := by decide +kernel
theorem dX4_setReserve_15 : decode cX4_setReserve 15 = .ok (.aload_n 0, 1) := by decide +kernel
theorem dX4_setReserve_16 : decode cX4_setReserve 16 = .ok (.getfield 19, 3) := by decide +kernel
theorem dX4_setReserve_19 : decode cX4_setReserve 19 = .ok (.invokevirtual 45, 3) := by decide +kernel
theorem dX4_setReserve_22 : decode cX4_setReserve 22 = .ok (.aload_n 0, 1) := by decide +kernel
theorem dX4_setReserve_23 : decode cX4_setReserve 23 = .ok (.getfield 19, 3) := by decide +kernel
theorem dX4_setReserve_26 : decode cX4_setReserve 26 = .ok (.getfield 63, 3) := by decide +kernel
theorem dX4_setReserve_29 : decode cX4_setReserve 29 = .ok (.istore_n 2, 1) := by decide +kernel
theorem dX4_setReserve_30 : decode cX4_setReserve 30 = .ok (.aload_n 0, 1) := by decide +kernel
theorem dX4_setReserve_31 : decode cX4_setReserve 31 = .ok (.getfield 19, 3) := by decide +kernel
theorem dX4_setReserve_34 : decode cX4_setReserve 34 = .ok (.iload_n 1, 1) := by decide +kernel
theorem dX4_setReserve_35 : decode cX4_setReserve 35 = .ok (.putfield 63, 3) := by decide +kernel
theorem dX4_setReserve_38 : decode cX4_setReserve 38 = .ok (.iload_n 2, 1) := by decide +kernel
theorem dX4_setReserve_39 : decode cX4_setReserve 39 = .ok (.ireturn, 1) := by decide +kernel
theorem dX4_setReturning_0 : decode cX4_setReturning 0 = .ok (.iload_n 1, 1) := by decide +kernel
theorem dX4_setReturning_1 : decode cX4_setReturning 1 = .ok (.iconst 0, 1) := by decide +kernel
theorem dX4_setReturning_2 : decode cX4_setReturning 2 = .ok (.iconst 1, 1) := by decide +kernel
theorem dX4_setReturning_3 : decode cX4_setReturning 3 = .ok (.invokestatic 41, 3) := by decide +kernel
theorem dX4_setReturning_6 : decode cX4_setReturning 6 = .ok (.ifCond .ne 5, 3) := by decide +kernel
theorem dX4_setReturning_9 : decode cX4_setReturning 9 = .ok (.iconst (-1), 1) := by decide +kernel
theorem dX4_setReturning_10 : decode cX4_setReturning 10 = .ok (.ireturn, 1) := by decide +kernel
theorem dX4_setReturning_11 : decode cX4_setReturning 11 = .ok (.aload_n 0, 1) := by decide +kernel
theorem dX4_setReturning_12 : decode cX4_setReturning 12 = .ok (.getfield 26, 3) := by decide +kernel
theorem dX4_setReturning_15 : decode cX4_setReturning 15 = .ok (.aload_n 0, 1) := by decide +kernel
theorem dX4_setReturning_16 : decode cX4_setReturning 16 = .ok (.getfield 19, 3) := by decide +kernel
theorem dX4_setReturning_19 : decode cX4_setReturning 19 = .ok (.invokevirtual 45, 3) := by decide +kernel
theorem dX4_setReturning_22 : decode cX4_setReturning 22 = .ok (.aload_n 0, 1) := by decide +kernel
theorem dX4_setReturning_23 : decode cX4_setReturning 23 = .ok (.getfield 19, 3) := by decide +kernel
theorem dX4_setReturning_26 : decode cX4_setReturning 26 = .ok (.iload_n 1, 1) := by decide +kernel
theorem dX4_setReturning_27 : decode cX4_setReturning 27 = .ok (.iconst 1, 1) := by decide +kernel
theorem dX4_setReturning_28 : decode cX4_setReturning 28 = .ok (.if_icmp .ne 7, 3) := by decide +kernel
theorem dX4_setReturning_31 : decode cX4_setReturning 31 = .ok (.iconst 1, 1) := by decide +kernel
theorem dX4_setReturning_32 : decode cX4_setReturning 32 = .ok (.goto 4, 3) := by decide +kernel
theorem dX4_setReturning_35 : decode cX4_setReturning 35 = .ok (.iconst 0, 1) := by decide +kernel
theorem dX4_setReturning_36 : decode cX4_setReturning 36 = .ok (.putfield 66, 3) := by decide +kernel
theorem dX4_setReturning_39 : decode cX4_setReturning 39 = .ok (.aload_n 0, 1) := by decide +kernel
theorem dX4_setReturning_40 : decode cX4_setReturning 40 = .ok (.getfield 19, 3) := by decide +kernel
theorem dX4_setReturning_43 : decode cX4_setReturning 43 = .ok (.invokevirtual 70, 3) := by decide +kernel
theorem dX4_setReturning_46 : decode cX4_setReturning 46 = .ok (.ireturn, 1) := by decide +kernel
theorem dX4_cellCount_0 : decode cX4_cellCount 0 = .ok (.aload_n 0, 1) := by decide +kernel
theorem dX4_cellCount_1 : decode cX4_cellCount 1 = .ok (.getfield 19, 3) := by decide +kernel
theorem dX4_cellCount_4 : decode cX4_cellCount 4 = .ok (.getfield 52, 3) := by decide +kernel
theorem dX4_cellCount_7 : decode cX4_cellCount 7 = .ok (.getfield 74, 3) := by decide +kernel
theorem dX4_cellCount_10 : decode cX4_cellCount 10 = .ok (.ireturn, 1) := by decide +kernel
theorem dX4_channelCount_0 : decode cX4_channelCount 0 = .ok (.aload_n 0, 1) := by decide +kernel
theorem dX4_channelCount_1 : decode cX4_channelCount 1 = .ok (.getfield 19, 3) := by decide +kernel
theorem dX4_channelCount_4 : decode cX4_channelCount 4 = .ok (.getfield 52, 3) := by decide +kernel
theorem dX4_channelCount_7 : decode cX4_channelCount 7 = .ok (.getfield 56, 3) := by decide +kernel
theorem dX4_channelCount_10 : decode cX4_channelCount 10 = .ok (.ireturn, 1) := by decide +kernel
theorem dX4_groupOf_0 : decode cX4_groupOf 0 = .ok (.aload_n 0, 1) := by decide +kernel
theorem dX4_groupOf_1 : decode cX4_groupOf 1 = .ok (.iload_n 1, 1) := by decide +kernel
theorem dX4_groupOf_2 : decode cX4_groupOf 2 = .ok (.invokevirtual 77, 3) := by decide +kernel
theorem dX4_groupOf_5 : decode cX4_groupOf 5 = .ok (.ifCond .eq 17, 3) := by decide +kernel
theorem dX4_groupOf_8 : decode cX4_groupOf 8 = .ok (.aload_n 0, 1) := by decide +kernel
theorem dX4_groupOf_9 : decode cX4_groupOf 9 = .ok (.getfield 19, 3) := by decide +kernel
theorem dX4_groupOf_12 : decode cX4_groupOf 12 = .ok (.getfield 52, 3) := by decide +kernel
theorem dX4_groupOf_15 : decode cX4_groupOf 15 = .ok (.iload_n 1, 1) := by decide +kernel
theorem dX4_groupOf_16 : decode cX4_groupOf 16 = .ok (.invokevirtual 81, 3) := by decide +kernel
theorem dX4_groupOf_19 : decode cX4_groupOf 19 = .ok (.goto 4, 3) := by decide +kernel
theorem dX4_groupOf_22 : decode cX4_groupOf 22 = .ok (.iconst (-1), 1) := by decide +kernel
theorem dX4_groupOf_23 : decode cX4_groupOf 23 = .ok (.ireturn, 1) := by decide +kernel
theorem dX4_distance_0 : decode cX4_distance 0 = .ok (.aload_n 0, 1) := by decide +kernel
theorem dX4_distance_1 : decode cX4_distance 1 = .ok (.iload_n 1, 1) := by decide +kernel
theorem dX4_distance_2 : decode cX4_distance 2 = .ok (.invokevirtual 77, 3) := by decide +kernel
theorem dX4_distance_5 : decode cX4_distance 5 = .ok (.ifCond .eq 26, 3) := by decide +kernel
theorem dX4_distance_8 : decode cX4_distance 8 = .ok (.aload_n 0, 1) := by decide +kernel
theorem dX4_distance_9 : decode cX4_distance 9 = .ok (.iload_n 2, 1) := by decide +kernel
theorem dX4_distance_10 : decode cX4_distance 10 = .ok (.invokevirtual 77, 3) := by decide +kernel
theorem dX4_distance_13 : decode cX4_distance 13 = .ok (.ifCond .eq 18, 3) := by decide +kernel
theorem dX4_distance_16 : decode cX4_distance 16 = .ok (.aload_n 0, 1) := by decide +kernel
theorem dX4_distance_17 : decode cX4_distance 17 = .ok (.getfield 19, 3) := by decide +kernel
theorem dX4_distance_20 : decode cX4_distance 20 = .ok (.getfield 52, 3) := by decide +kernel
theorem dX4_distance_23 : decode cX4_distance 23 = .ok (.iload_n 1, 1) := by decide +kernel
theorem dX4_distance_24 : decode cX4_distance 24 = .ok (.iload_n 2, 1) := by decide +kernel
theorem dX4_distance_25 : decode cX4_distance 25 = .ok (.invokevirtual 85, 3) := by decide +kernel
theorem dX4_distance_28 : decode cX4_distance 28 = .ok (.goto 4, 3) := by decide +kernel
theorem dX4_distance_31 : decode cX4_distance 31 = .ok (.iconst (-1), 1) := by decide +kernel
theorem dX4_distance_32 : decode cX4_distance 32 = .ok (.ireturn, 1) := by decide +kernel
theorem dX4_startCall_0 : decode cX4_startCall 0 = .ok (.aload_n 0, 1) := by decide +kernel
theorem dX4_startCall_1 : decode cX4_startCall 1 = .ok (.getfield 19, 3) := by decide +kernel
theorem dX4_startCall_4 : decode cX4_startCall 4 = .ok (.iload_n 1, 1) := by decide +kernel
theorem dX4_startCall_5 : decode cX4_startCall 5 = .ok (.invokevirtual 89, 3) := by decide +kernel
theorem dX4_startCall_8 : decode cX4_startCall 8 = .ok (.istore_n 2, 1) := by decide +kernel
theorem dX4_startCall_9 : decode cX4_startCall 9 = .ok (.iload_n 2, 1) := by decide +kernel
theorem dX4_startCall_10 : decode cX4_startCall 10 = .ok (.ifCond .eq 5, 3) := by decide +kernel
theorem dX4_startCall_13 : decode cX4_startCall 13 = .ok (.iload_n 2, 1) := by decide +kernel
theorem dX4_startCall_14 : decode cX4_startCall 14 = .ok (.ireturn, 1) := by decide +kernel
theorem dX4_startCall_15 : decode cX4_startCall 15 = .ok (.aload_n 0, 1) := by decide +kernel
theorem dX4_startCall_16 : decode cX4_startCall 16 = .ok (.getfield 26, 3) := by decide +kernel
theorem dX4_startCall_19 : decode cX4_startCall 19 = .ok (.aload_n 0, 1) := by decide +kernel
theorem dX4_startCall_20 : decode cX4_startCall 20 = .ok (.getfield 19, 3) := by decide +kernel
theorem dX4_startCall_23 : decode cX4_startCall 23 = .ok (.invokevirtual 45, 3) := by decide +kernel
theorem dX4_startCall_26 : decode cX4_startCall 26 = .ok (.aload_n 0, 1) := by decide +kernel
theorem dX4_startCall_27 : decode cX4_startCall 27 = .ok (.getfield 19, 3) := by decide +kernel
theorem dX4_startCall_30 : decode cX4_startCall 30 = .ok (.iload_n 1, 1) := by decide +kernel
theorem dX4_startCall_31 : decode cX4_startCall 31 = .ok (.invokevirtual 92, 3) := by decide +kernel
theorem dX4_startCall_34 : decode cX4_startCall 34 = .ok (.ireturn, 1) := by decide +kernel
theorem dX4_endCall_0 : decode cX4_endCall 0 = .ok (.aload_n 0, 1) := by decide +kernel
theorem dX4_endCall_1 : decode cX4_endCall 1 = .ok (.getfield 19, 3) := by decide +kernel
theorem dX4_endCall_4 : decode cX4_endCall 4 = .ok (.iload_n 1, 1) := by decide +kernel
theorem dX4_endCall_5 : decode cX4_endCall 5 = .ok (.invokevirtual 95, 3) := by decide +kernel
theorem dX4_endCall_8 : decode cX4_endCall 8 = .ok (.ifCond .ne 6, 3) := by decide +kernel
theorem dX4_endCall_11 : decode cX4_endCall 11 = .ok (.bipush (-4), 2) := by decide +kernel
theorem dX4_endCall_13 : decode cX4_endCall 13 = .ok (.ireturn, 1) := by decide +kernel
theorem dX4_endCall_14 : decode cX4_endCall 14 = .ok (.aload_n 0, 1) := by decide +kernel
theorem dX4_endCall_15 : decode cX4_endCall 15 = .ok (.getfield 26, 3) := by decide +kernel
theorem dX4_endCall_18 : decode cX4_endCall 18 = .ok (.aload_n 0, 1) := by decide +kernel
theorem dX4_endCall_19 : decode cX4_endCall 19 = .ok (.getfield 19, 3) := by decide +kernel
theorem dX4_endCall_22 : decode cX4_endCall 22 = .ok (.invokevirtual 45, 3) := by decide +kernel
theorem dX4_endCall_25 : decode cX4_endCall 25 = .ok (.aload_n 0, 1) := by decide +kernel
theorem dX4_endCall_26 : decode cX4_endCall 26 = .ok (.getfield 19, 3) := by decide +kernel
theorem dX4_endCall_29 : decode cX4_endCall 29 = .ok (.iload_n 1, 1) := by decide +kernel
theorem dX4_endCall_30 : decode cX4_endCall 30 = .ok (.invokevirtual 98, 3) := by decide +kernel
theorem dX4_endCall_33 : decode cX4_endCall 33 = .ok (.ireturn, 1) := by decide +kernel
theorem dX4_handOver_0 : decode cX4_handOver 0 = .ok (.aload_n 0, 1) := by decide +kernel
theorem dX4_handOver_1 : decode cX4_handOver 1 = .ok (.getfield 19, 3) := by decide +kernel
theorem dX4_handOver_4 : decode cX4_handOver 4 = .ok (.iload_n 1, 1) := by decide +kernel
theorem dX4_handOver_5 : decode cX4_handOver 5 = .ok (.iload_n 2, 1) := by decide +kernel
theorem dX4_handOver_6 : decode cX4_handOver 6 = .ok (.invokevirtual 101, 3) := by decide +kernel
theorem dX4_handOver_9 : decode cX4_handOver 9 = .ok (.istore_n 3, 1) := by decide +kernel
theorem dX4_handOver_10 : decode cX4_handOver 10 = .ok (.iload_n 3, 1) := by decide +kernel
theorem dX4_handOver_11 : decode cX4_handOver 11 = .ok (.ifCond .eq 5, 3) := by decide +kernel
theorem dX4_handOver_14 : decode cX4_handOver 14 = .ok (.iload_n 3, 1) := by decide +kernel
theorem dX4_handOver_15 : decode cX4_handOver 15 = .ok (.ireturn, 1) := by decide +kernel
theorem dX4_handOver_16 : decode cX4_handOver 16 = .ok (.aload_n 0, 1) := by decide +kernel
theorem dX4_handOver_17 : decode cX4_handOver 17 = .ok (.getfield 26, 3) := by decide +kernel
theorem dX4_handOver_20 : decode cX4_handOver 20 = .ok (.aload_n 0, 1) := by decide +kernel
theorem dX4_handOver_21 : decode cX4_handOver 21 = .ok (.getfield 19, 3) := by decide +kernel
theorem dX4_handOver_24 : decode cX4_handOver 24 = .ok (.invokevirtual 45, 3) := by decide +kernel
theorem dX4_handOver_27 : decode cX4_handOver 27 = .ok (.aload_n 0, 1) := by decide +kernel
theorem dX4_handOver_28 : decode cX4_handOver 28 = .ok (.getfield 19, 3) := by decide +kernel
theorem dX4_handOver_31 : decode cX4_handOver 31 = .ok (.iload_n 1, 1) := by decide +kernel
theorem dX4_handOver_32 : decode cX4_handOver 32 = .ok (.iload_n 2, 1) := by decide +kernel
theorem dX4_handOver_33 : decode cX4_handOver 33 = .ok (.invokevirtual 104, 3) := by decide +kernel
theorem dX4_handOver_36 : decode cX4_handOver 36 = .ok (.ireturn, 1) := by decide +kernel
theorem dX4_cellOf_0 : decode cX4_cellOf 0 = .ok (.aload_n 0, 1) := by decide +kernel
theorem dX4_cellOf_1 : decode cX4_cellOf 1 = .ok (.getfield 19, 3) := by decide +kernel
theorem dX4_cellOf_4 : decode cX4_cellOf 4 = .ok (.iload_n 1, 1) := by decide +kernel
theorem dX4_cellOf_5 : decode cX4_cellOf 5 = .ok (.invokevirtual 95, 3) := by decide +kernel
theorem dX4_cellOf_8 : decode cX4_cellOf 8 = .ok (.ifCond .eq 14, 3) := by decide +kernel
theorem dX4_cellOf_11 : decode cX4_cellOf 11 = .ok (.aload_n 0, 1) := by decide +kernel
theorem dX4_cellOf_12 : decode cX4_cellOf 12 = .ok (.getfield 19, 3) := by decide +kernel
theorem dX4_cellOf_15 : decode cX4_cellOf 15 = .ok (.iload_n 1, 1) := by decide +kernel
theorem dX4_cellOf_16 : decode cX4_cellOf 16 = .ok (.invokevirtual 107, 3) := by decide +kernel
theorem dX4_cellOf_19 : decode cX4_cellOf 19 = .ok (.goto 5, 3) := by decide +kernel
theorem dX4_cellOf_22 : decode cX4_cellOf 22 = .ok (.bipush (-4), 2) := by decide +kernel
theorem dX4_cellOf_24 : decode cX4_cellOf 24 = .ok (.ireturn, 1) := by decide +kernel
theorem dX4_channelOf_0 : decode cX4_channelOf 0 = .ok (.aload_n 0, 1) := by decide +kernel
theorem dX4_channelOf_1 : decode cX4_channelOf 1 = .ok (.getfield 19, 3) := by decide +kernel
theorem dX4_channelOf_4 : decode cX4_channelOf 4 = .ok (.iload_n 1, 1) := by decide +kernel
theorem dX4_channelOf_5 : decode cX4_channelOf 5 = .ok (.invokevirtual 95, 3) := by decide +kernel
theorem dX4_channelOf_8 : decode cX4_channelOf 8 = .ok (.ifCond .eq 14, 3) := by decide +kernel
theorem dX4_channelOf_11 : decode cX4_channelOf 11 = .ok (.aload_n 0, 1) := by decide +kernel
theorem dX4_channelOf_12 : decode cX4_channelOf 12 = .ok (.getfield 19, 3) := by decide +kernel
theorem dX4_channelOf_15 : decode cX4_channelOf 15 = .ok (.iload_n 1, 1) := by decide +kernel
theorem dX4_channelOf_16 : decode cX4_channelOf 16 = .ok (.invokevirtual 110, 3) := by decide +kernel
theorem dX4_channelOf_19 : decode cX4_channelOf 19 = .ok (.goto 5, 3) := by decide +kernel
theorem dX4_channelOf_22 : decode cX4_channelOf 22 = .ok (.bipush (-4), 2) := by decide +kernel
theorem dX4_channelOf_24 : decode cX4_channelOf 24 = .ok (.ireturn, 1) := by decide +kernel
theorem dX4_isBorrowed_0 : decode cX4_isBorrowed 0 = .ok (.aload_n 0, 1) := by decide +kernel
theorem dX4_isBorrowed_1 : decode cX4_isBorrowed 1 = .ok (.getfield 19, 3) := by decide +kernel
theorem dX4_isBorrowed_4 : decode cX4_isBorrowed 4 = .ok (.iload_n 1, 1) := by decide +kernel
theorem dX4_isBorrowed_5 : decode cX4_isBorrowed 5 = .ok (.invokevirtual 95, 3) := by decide +kernel
theorem dX4_isBorrowed_8 : decode cX4_isBorrowed 8 = .ok (.ifCond .eq 17, 3) := by decide +kernel
theorem dX4_isBorrowed_11 : decode cX4_isBorrowed 11 = .ok (.aload_n 0, 1) := by decide +kernel
theorem dX4_isBorrowed_12 : decode cX4_isBorrowed 12 = .ok (.getfield 19, 3) := by decide +kernel
theorem dX4_isBorrowed_15 : decode cX4_isBorrowed 15 = .ok (.iload_n 1, 1) := by decide +kernel
theorem dX4_isBorrowed_16 : decode cX4_isBorrowed 16 = .ok (.invokevirtual 113, 3) := by decide +kernel
theorem dX4_isBorrowed_19 : decode cX4_isBorrowed 19 = .ok (.invokestatic 116, 3) := by decide +kernel
theorem dX4_isBorrowed_22 : decode cX4_isBorrowed 22 = .ok (.goto 5, 3) := by decide +kernel
theorem dX4_isBorrowed_25 : decode cX4_isBorrowed 25 = .ok (.bipush (-4), 2) := by decide +kernel
theorem dX4_isBorrowed_27 : decode cX4_isBorrowed 27 = .ok (.ireturn, 1) := by decide +kernel
theorem dX4_isInFixedScheme_0 : decode cX4_isInFixedScheme 0 = .ok (.aload_n 0, 1) := by decide +kernel
theorem dX4_isInFixedScheme_1 : decode cX4_isInFixedScheme 1 = .ok (.getfield 19, 3) := by decide +kernel
theorem dX4_isInFixedScheme_4 : decode cX4_isInFixedScheme 4 = .ok (.iload_n 1, 1) := by decide +kernel
theorem dX4_isInFixedScheme_5 : decode cX4_isInFixedScheme 5 = .ok (.invokevirtual 95, 3) := by decide +kernel
theorem dX4_isInFixedScheme_8 : decode cX4_isInFixedScheme 8 = .ok (.ifCond .eq 17, 3) := by decide +kernel
theorem dX4_isInFixedScheme_11 : decode cX4_isInFixedScheme 11 = .ok (.aload_n 0, 1) := by decide +kernel
theorem dX4_isInFixedScheme_12 : decode cX4_isInFixedScheme 12 = .ok (.getfield 19, 3) := by decide +kernel
theorem dX4_isInFixedScheme_15 : decode cX4_isInFixedScheme 15 = .ok (.iload_n 1, 1) := by decide +kernel
theorem dX4_isInFixedScheme_16 : decode cX4_isInFixedScheme 16 = .ok (.invokevirtual 120, 3) := by decide +kernel
theorem dX4_isInFixedScheme_19 : decode cX4_isInFixedScheme 19 = .ok (.invokestatic 116, 3) := by decide +kernel
theorem dX4_isInFixedScheme_22 : decode cX4_isInFixedScheme 22 = .ok (.goto 5, 3) := by decide +kernel
theorem dX4_isInFixedScheme_25 : decode cX4_isInFixedScheme 25 = .ok (.bipush (-4), 2) := by decide +kernel
theorem dX4_isInFixedScheme_27 : decode cX4_isInFixedScheme 27 = .ok (.ireturn, 1) := by decide +kernel
theorem dX4_isAvailable_0 : decode cX4_isAvailable 0 = .ok (.aload_n 0, 1) := by decide +kernel
theorem dX4_isAvailable_1 : decode cX4_isAvailable 1 = .ok (.iload_n 1, 1) := by decide +kernel
theorem dX4_isAvailable_2 : decode cX4_isAvailable 2 = .ok (.invokevirtual 77, 3) := by decide +kernel
theorem dX4_isAvailable_5 : decode cX4_isAvailable 5 = .ok (.ifCond .eq 11, 3) := by decide +kernel
theorem dX4_isAvailable_8 : decode cX4_isAvailable 8 = .ok (.aload_n 0, 1) := by decide +kernel
theorem dX4_isAvailable_9 : decode cX4_isAvailable 9 = .ok (.iload_n 2, 1) := by decide +kernel
theorem dX4_isAvailable_10 : decode cX4_isAvailable 10 = .ok (.invokevirtual 123, 3) := by decide +kernel
theorem dX4_isAvailable_13 : decode cX4_isAvailable 13 = .ok (.ifCond .ne 5, 3) := by decide +kernel
theorem dX4_isAvailable_16 : decode cX4_isAvailable 16 = .ok (.iconst (-1), 1) := by decide +kernel
theorem dX4_isAvailable_17 : decode cX4_isAvailable 17 = .ok (.ireturn, 1) := by decide +kernel
theorem dX4_isAvailable_18 : decode cX4_isAvailable 18 = .ok (.aload_n 0, 1) := by decide +kernel
theorem dX4_isAvailable_19 : decode cX4_isAvailable 19 = .ok (.getfield 19, 3) := by decide +kernel
theorem dX4_isAvailable_22 : decode cX4_isAvailable 22 = .ok (.iload_n 1, 1) := by decide +kernel
theorem dX4_isAvailable_23 : decode cX4_isAvailable 23 = .ok (.invokevirtual 126, 3) := by decide +kernel
theorem dX4_isAvailable_26 : decode cX4_isAvailable 26 = .ok (.iload_n 2, 1) := by decide +kernel
theorem dX4_isAvailable_27 : decode cX4_isAvailable 27 = .ok (.invokestatic 129, 3) := by decide +kernel
theorem dX4_isAvailable_30 : decode cX4_isAvailable 30 = .ok (.invokestatic 116, 3) := by decide +kernel
theorem dX4_isAvailable_33 : decode cX4_isAvailable 33 = .ok (.ireturn, 1) := by decide +kernel
theorem dX4_lockCount_0 : decode cX4_lockCount 0 = .ok (.aload_n 0, 1) := by decide +kernel
theorem dX4_lockCount_1 : decode cX4_lockCount 1 = .ok (.iload_n 1, 1) := by decide +kernel
theorem dX4_lockCount_2 : decode cX4_lockCount 2 = .ok (.invokevirtual 77, 3) := by decide +kernel
theorem dX4_lockCount_5 : decode cX4_lockCount 5 = .ok (.ifCond .eq 11, 3) := by decide +kernel
theorem dX4_lockCount_8 : decode cX4_lockCount 8 = .ok (.aload_n 0, 1) := by decide +kernel
theorem dX4_lockCount_9 : decode cX4_lockCount 9 = .ok (.iload_n 2, 1) := by decide +kernel
theorem dX4_lockCount_10 : decode cX4_lockCount 10 = .ok (.invokevirtual 123, 3) := by decide +kernel
theorem dX4_lockCount_13 : decode cX4_lockCount 13 = .ok (.ifCond .ne 5, 3) := by decide +kernel
theorem dX4_lockCount_16 : decode cX4_lockCount 16 = .ok (.iconst (-1), 1) := by decide +kernel
theorem dX4_lockCount_17 : decode cX4_lockCount 17 = .ok (.ireturn, 1) := by decide +kernel
theorem dX4_lockCount_18 : decode cX4_lockCount 18 = .ok (.aload_n 0, 1) := by decide +kernel
theorem dX4_lockCount_19 : decode cX4_lockCount 19 = .ok (.getfield 19, 3) := by decide +kernel
theorem dX4_lockCount_22 : decode cX4_lockCount 22 = .ok (.iload_n 1, 1) := by decide +kernel
theorem dX4_lockCount_23 : decode cX4_lockCount 23 = .ok (.iload_n 2, 1) := by decide +kernel
theorem dX4_lockCount_24 : decode cX4_lockCount 24 = .ok (.invokevirtual 133, 3) := by decide +kernel
theorem dX4_lockCount_27 : decode cX4_lockCount 27 = .ok (.ireturn, 1) := by decide +kernel
theorem dX4_burden_0 : decode cX4_burden 0 = .ok (.aload_n 0, 1) := by decide +kernel
theorem dX4_burden_1 : decode cX4_burden 1 = .ok (.iload_n 1, 1) := by decide +kernel
theorem dX4_burden_2 : decode cX4_burden 2 = .ok (.invokevirtual 77, 3) := by decide +kernel
theorem dX4_burden_5 : decode cX4_burden 5 = .ok (.ifCond .eq 11, 3) := by decide +kernel
theorem dX4_burden_8 : decode cX4_burden 8 = .ok (.aload_n 0, 1) := by decide +kernel
theorem dX4_burden_9 : decode cX4_burden 9 = .ok (.iload_n 2, 1) := by decide +kernel
theorem dX4_burden_10 : decode cX4_burden 10 = .ok (.invokevirtual 123, 3) := by decide +kernel
theorem dX4_burden_13 : decode cX4_burden 13 = .ok (.ifCond .ne 5, 3) := by decide +kernel
theorem dX4_burden_16 : decode cX4_burden 16 = .ok (.iconst (-1), 1) := by decide +kernel
theorem dX4_burden_17 : decode cX4_burden 17 = .ok (.ireturn, 1) := by decide +kernel
theorem dX4_burden_18 : decode cX4_burden 18 = .ok (.aload_n 0, 1) := by decide +kernel
theorem dX4_burden_19 : decode cX4_burden 19 = .ok (.getfield 19, 3) := by decide +kernel
theorem dX4_burden_22 : decode cX4_burden 22 = .ok (.getfield 52, 3) := by decide +kernel
theorem dX4_burden_25 : decode cX4_burden 25 = .ok (.iload_n 1, 1) := by decide +kernel
theorem dX4_burden_26 : decode cX4_burden 26 = .ok (.iload_n 2, 1) := by decide +kernel
theorem dX4_burden_27 : decode cX4_burden 27 = .ok (.invokevirtual 136, 3) := by decide +kernel
theorem dX4_burden_30 : decode cX4_burden 30 = .ok (.ireturn, 1) := by decide +kernel
theorem dX4_availableCount_0 : decode cX4_availableCount 0 = .ok (.aload_n 0, 1) := by decide +kernel
theorem dX4_availableCount_1 : decode cX4_availableCount 1 = .ok (.iload_n 1, 1) := by decide +kernel
theorem dX4_availableCount_2 : decode cX4_availableCount 2 = .ok (.invokevirtual 77, 3) := by decide +kernel
theorem dX4_availableCount_5 : decode cX4_availableCount 5 = .ok (.ifCond .eq 17, 3) := by decide +kernel
theorem dX4_availableCount_8 : decode cX4_availableCount 8 = .ok (.aload_n 0, 1) := by decide +kernel
theorem dX4_availableCount_9 : decode cX4_availableCount 9 = .ok (.getfield 19, 3) := by decide +kernel
theorem dX4_availableCount_12 : decode cX4_availableCount 12 = .ok (.iload_n 1, 1) := by decide +kernel
theorem dX4_availableCount_13 : decode cX4_availableCount 13 = .ok (.invokevirtual 139, 3) := by decide +kernel
theorem dX4_availableCount_16 : decode cX4_availableCount 16 = .ok (.invokestatic 142, 3) := by decide +kernel
theorem dX4_availableCount_19 : decode cX4_availableCount 19 = .ok (.goto 4, 3) := by decide +kernel
theorem dX4_availableCount_22 : decode cX4_availableCount 22 = .ok (.iconst (-1), 1) := by decide +kernel
theorem dX4_availableCount_23 : decode cX4_availableCount 23 = .ok (.ireturn, 1) := by decide +kernel
theorem dX4_usedCount_0 : decode cX4_usedCount 0 = .ok (.aload_n 0, 1) := by decide +kernel
theorem dX4_usedCount_1 : decode cX4_usedCount 1 = .ok (.iload_n 1, 1) := by decide +kernel
theorem dX4_usedCount_2 : decode cX4_usedCount 2 = .ok (.invokevirtual 77, 3) := by decide +kernel
theorem dX4_usedCount_5 : decode cX4_usedCount 5 = .ok (.ifCond .eq 17, 3) := by decide +kernel
theorem dX4_usedCount_8 : decode cX4_usedCount 8 = .ok (.aload_n 0, 1) := by decide +kernel
theorem dX4_usedCount_9 : decode cX4_usedCount 9 = .ok (.getfield 19, 3) := by decide +kernel
theorem dX4_usedCount_12 : decode cX4_usedCount 12 = .ok (.iload_n 1, 1) := by decide +kernel
theorem dX4_usedCount_13 : decode cX4_usedCount 13 = .ok (.invokevirtual 147, 3) := by decide +kernel
theorem dX4_usedCount_16 : decode cX4_usedCount 16 = .ok (.invokestatic 142, 3) := by decide +kernel
theorem dX4_usedCount_19 : decode cX4_usedCount 19 = .ok (.goto 4, 3) := by decide +kernel
theorem dX4_usedCount_22 : decode cX4_usedCount 22 = .ok (.iconst (-1), 1) := by decide +kernel
theorem dX4_usedCount_23 : decode cX4_usedCount 23 = .ok (.ireturn, 1) := by decide +kernel
theorem dX4_lockedCount_0 : decode cX4_lockedCount 0 = .ok (.aload_n 0, 1) := by decide +kernel
theorem dX4_lockedCount_1 : decode cX4_lockedCount 1 = .ok (.iload_n 1, 1) := by decide +kernel
theorem dX4_lockedCount_2 : decode cX4_lockedCount 2 = .ok (.invokevirtual 77, 3) := by decide +kernel
theorem dX4_lockedCount_5 : decode cX4_lockedCount 5 = .ok (.ifCond .ne 5, 3) := by decide +kernel
theorem dX4_lockedCount_8 : decode cX4_lockedCount 8 = .ok (.iconst (-1), 1) := by decide +kernel
theorem dX4_lockedCount_9 : decode cX4_lockedCount 9 = .ok (.ireturn, 1) := by decide +kernel
theorem dX4_lockedCount_10 : decode cX4_lockedCount 10 = .ok (.aload_n 0, 1) := by decide +kernel
theorem dX4_lockedCount_11 : decode cX4_lockedCount 11 = .ok (.getfield 19, 3) := by decide +kernel
theorem dX4_lockedCount_14 : decode cX4_lockedCount 14 = .ok (.iload_n 1, 1) := by decide +kernel
theorem dX4_lockedCount_15 : decode cX4_lockedCount 15 = .ok (.invokevirtual 147, 3) := by decide +kernel
theorem dX4_lockedCount_18 : decode cX4_lockedCount 18 = .ok (.aload_n 0, 1) := by decide +kernel
theorem dX4_lockedCount_19 : decode cX4_lockedCount 19 = .ok (.getfield 19, 3) := by decide +kernel
theorem dX4_lockedCount_22 : decode cX4_lockedCount 22 = .ok (.iload_n 1, 1) := by decide +kernel
theorem dX4_lockedCount_23 : decode cX4_lockedCount 23 = .ok (.invokevirtual 126, 3) := by decide +kernel
theorem dX4_lockedCount_26 : decode cX4_lockedCount 26 = .ok (.ior, 1) := by decide +kernel
theorem dX4_lockedCount_27 : decode cX4_lockedCount 27 = .ok (.istore_n 2, 1) := by decide +kernel
theorem dX4_lockedCount_28 : decode cX4_lockedCount 28 = .ok (.aload_n 0, 1) := by decide +kernel
theorem dX4_lockedCount_29 : decode cX4_lockedCount 29 = .ok (.getfield 19, 3) := by decide +kernel
theorem dX4_lockedCount_32 : decode cX4_lockedCount 32 = .ok (.getfield 52, 3) := by decide +kernel
theorem dX4_lockedCount_35 : decode cX4_lockedCount 35 = .ok (.iload_n 1, 1) := by decide +kernel
theorem dX4_lockedCount_36 : decode cX4_lockedCount 36 = .ok (.invokevirtual 150, 3) := by decide +kernel
theorem dX4_lockedCount_39 : decode cX4_lockedCount 39 = .ok (.iload_n 2, 1) := by decide +kernel
theorem dX4_lockedCount_40 : decode cX4_lockedCount 40 = .ok (.iconst (-1), 1) := by decide +kernel
theorem dX4_lockedCount_41 : decode cX4_lockedCount 41 = .ok (.ixor, 1) := by decide +kernel
theorem dX4_lockedCount_42 : decode cX4_lockedCount 42 = .ok (.iand, 1) := by decide +kernel
theorem dX4_lockedCount_43 : decode cX4_lockedCount 43 = .ok (.invokestatic 142, 3) := by decide +kernel
theorem dX4_lockedCount_46 : decode cX4_lockedCount 46 = .ok (.ireturn, 1) := by decide +kernel
theorem dX4_nextChannel_0 : decode cX4_nextChannel 0 = .ok (.aload_n 0, 1) := by decide +kernel
theorem dX4_nextChannel_1 : decode cX4_nextChannel 1 = .ok (.iload_n 1, 1) := by decide +kernel
theorem dX4_nextChannel_2 : decode cX4_nextChannel 2 = .ok (.invokevirtual 77, 3) := by decide +kernel
theorem dX4_nextChannel_5 : decode cX4_nextChannel 5 = .ok (.ifCond .eq 14, 3) := by decide +kernel
theorem dX4_nextChannel_8 : decode cX4_nextChannel 8 = .ok (.aload_n 0, 1) := by decide +kernel
theorem dX4_nextChannel_9 : decode cX4_nextChannel 9 = .ok (.getfield 19, 3) := by decide +kernel
theorem dX4_nextChannel_12 : decode cX4_nextChannel 12 = .ok (.iload_n 1, 1) := by decide +kernel
theorem dX4_nextChannel_13 : decode cX4_nextChannel 13 = .ok (.invokevirtual 153, 3) := by decide +kernel
theorem dX4_nextChannel_16 : decode cX4_nextChannel 16 = .ok (.goto 4, 3) := by decide +kernel
theorem dX4_nextChannel_19 : decode cX4_nextChannel 19 = .ok (.iconst (-1), 1) := by decide +kernel
theorem dX4_nextChannel_20 : decode cX4_nextChannel 20 = .ok (.ireturn, 1) := by decide +kernel
theorem dX4_nextDonor_0 : decode cX4_nextDonor 0 = .ok (.aload_n 0, 1) := by decide +kernel
theorem dX4_nextDonor_1 : decode cX4_nextDonor 1 = .ok (.iload_n 1, 1) := by decide +kernel
theorem dX4_nextDonor_2 : decode cX4_nextDonor 2 = .ok (.invokevirtual 77, 3) := by decide +kernel
theorem dX4_nextDonor_5 : decode cX4_nextDonor 5 = .ok (.ifCond .eq 14, 3) := by decide +kernel
theorem dX4_nextDonor_8 : decode cX4_nextDonor 8 = .ok (.aload_n 0, 1) := by decide +kernel
theorem dX4_nextDonor_9 : decode cX4_nextDonor 9 = .ok (.getfield 19, 3) := by decide +kernel
theorem dX4_nextDonor_12 : decode cX4_nextDonor 12 = .ok (.iload_n 1, 1) := by decide +kernel
theorem dX4_nextDonor_13 : decode cX4_nextDonor 13 = .ok (.invokevirtual 156, 3) := by decide +kernel
theorem dX4_nextDonor_16 : decode cX4_nextDonor 16 = .ok (.goto 4, 3) := by decide +kernel
theorem dX4_nextDonor_19 : decode cX4_nextDonor 19 = .ok (.iconst (-1), 1) := by decide +kernel
theorem dX4_nextDonor_20 : decode cX4_nextDonor 20 = .ok (.ireturn, 1) := by decide +kernel
theorem dX4_blockingCells_0 : decode cX4_blockingCells 0 = .ok (.iconst 0, 1) := by decide +kernel
theorem dX4_blockingCells_1 : decode cX4_blockingCells 1 = .ok (.istore_n 1, 1) := by decide +kernel
theorem dX4_blockingCells_2 : decode cX4_blockingCells 2 = .ok (.iconst 0, 1) := by decide +kernel
theorem dX4_blockingCells_3 : decode cX4_blockingCells 3 = .ok (.istore_n 2, 1) := by decide +kernel
theorem dX4_blockingCells_4 : decode cX4_blockingCells 4 = .ok (.iload_n 2, 1) := by decide +kernel
theorem dX4_blockingCells_5 : decode cX4_blockingCells 5 = .ok (.aload_n 0, 1) := by decide +kernel
theorem dX4_blockingCells_6 : decode cX4_blockingCells 6 = .ok (.getfield 19, 3) := by decide +kernel
theorem dX4_blockingCells_9 : decode cX4_blockingCells 9 = .ok (.getfield 52, 3) := by decide +kernel
theorem dX4_blockingCells_12 : decode cX4_blockingCells 12 = .ok (.getfield 74, 3) := by decide +kernel
theorem dX4_blockingCells_15 : decode cX4_blockingCells 15 = .ok (.if_icmp .ge 25, 3) := by decide +kernel
theorem dX4_blockingCells_18 : decode cX4_blockingCells 18 = .ok (.aload_n 0, 1) := by decide +kernel
theorem dX4_blockingCells_19 : decode cX4_blockingCells 19 = .ok (.getfield 19, 3) := by decide +kernel
theorem dX4_blockingCells_22 : decode cX4_blockingCells 22 = .ok (.iload_n 2, 1) := by decide +kernel
theorem dX4_blockingCells_23 : decode cX4_blockingCells 23 = .ok (.invokevirtual 153, 3) := by decide +kernel
theorem dX4_blockingCells_26 : decode cX4_blockingCells 26 = .ok (.bipush (-9), 2) := by decide +kernel
theorem dX4_blockingCells_28 : decode cX4_blockingCells 28 = .ok (.if_icmp .ne 6, 3) := by decide +kernel
theorem dX4_blockingCells_31 : decode cX4_blockingCells 31 = .ok (.iinc 1 1, 3) := by decide +kernel
theorem dX4_blockingCells_34 : decode cX4_blockingCells 34 = .ok (.iinc 2 1, 3) := by decide +kernel
theorem dX4_blockingCells_37 : decode cX4_blockingCells 37 = .ok (.goto (-33), 3) := by decide +kernel
theorem dX4_blockingCells_40 : decode cX4_blockingCells 40 = .ok (.iload_n 1, 1) := by decide +kernel
theorem dX4_blockingCells_41 : decode cX4_blockingCells 41 = .ok (.ireturn, 1) := by decide +kernel
theorem dX4_callCount_0 : decode cX4_callCount 0 = .ok (.aload_n 0, 1) := by decide +kernel
theorem dX4_callCount_1 : decode cX4_callCount 1 = .ok (.getfield 19, 3) := by decide +kernel
theorem dX4_callCount_4 : decode cX4_callCount 4 = .ok (.invokevirtual 159, 3) := by decide +kernel
theorem dX4_callCount_7 : decode cX4_callCount 7 = .ok (.ireturn, 1) := by decide +kernel
theorem dX4_attempts_0 : decode cX4_attempts 0 = .ok (.aload_n 0, 1) := by decide +kernel
theorem dX4_attempts_1 : decode cX4_attempts 1 = .ok (.getfield 19, 3) := by decide +kernel
theorem dX4_attempts_4 : decode cX4_attempts 4 = .ok (.getfield 162, 3) := by decide +kernel
theorem dX4_attempts_7 : decode cX4_attempts 7 = .ok (.ireturn, 1) := by decide +kernel
theorem dX4_blocked_0 : decode cX4_blocked 0 = .ok (.aload_n 0, 1) := by decide +kernel
theorem dX4_blocked_1 : decode cX4_blocked 1 = .ok (.getfield 19, 3) := by decide +kernel
theorem dX4_blocked_4 : decode cX4_blocked 4 = .ok (.getfield 165, 3) := by decide +kernel
theorem dX4_blocked_7 : decode cX4_blocked 7 = .ok (.ireturn, 1) := by decide +kernel
theorem dX4_blockedInFixedScheme_0 : decode cX4_blockedInFixedScheme 0 = .ok (.aload_n 0, 1) := by decide +kernel
theorem dX4_blockedInFixedScheme_1 : decode cX4_blockedInFixedScheme 1 = .ok (.getfield 19, 3) := by decide +kernel
theorem dX4_blockedInFixedScheme_4 : decode cX4_blockedInFixedScheme 4 = .ok (.getfield 168, 3) := by decide +kernel
theorem dX4_blockedInFixedScheme_7 : decode cX4_blockedInFixedScheme 7 = .ok (.ireturn, 1) := by decide +kernel
theorem dX4_dropped_0 : decode cX4_dropped 0 = .ok (.aload_n 0, 1) := by decide +kernel
theorem dX4_dropped_1 : decode cX4_dropped 1 = .ok (.getfield 19, 3) := by decide +kernel
theorem dX4_dropped_4 : decode cX4_dropped 4 = .ok (.getfield 171, 3) := by decide +kernel
theorem dX4_dropped_7 : decode cX4_dropped 7 = .ok (.ireturn, 1) := by decide +kernel
theorem dX4_droppedInFixedScheme_0 : decode cX4_droppedInFixedScheme 0 = .ok (.aload_n 0, 1) := by decide +kernel
theorem dX4_droppedInFixedScheme_1 : decode cX4_droppedInFixedScheme 1 = .ok (.getfield 19, 3) := by decide +kernel
theorem dX4_droppedInFixedScheme_4 : decode cX4_droppedInFixedScheme 4 = .ok (.getfield 174, 3) := by decide +kernel
theorem dX4_droppedInFixedScheme_7 : decode cX4_droppedInFixedScheme 7 = .ok (.ireturn, 1) := by decide +kernel
theorem dX4_borrowings_0 : decode cX4_borrowings 0 = .ok (.aload_n 0, 1) := by decide +kernel
theorem dX4_borrowings_1 : decode cX4_borrowings 1 = .ok (.getfield 19, 3) := by decide +kernel
theorem dX4_borrowings_4 : decode cX4_borrowings 4 = .ok (.getfield 177, 3) := by decide +kernel
theorem dX4_borrowings_7 : decode cX4_borrowings 7 = .ok (.ireturn, 1) := by decide +kernel
theorem dX4_returns_0 : decode cX4_returns 0 = .ok (.aload_n 0, 1) := by decide +kernel
theorem dX4_returns_1 : decode cX4_returns 1 = .ok (.getfield 19, 3) := by decide +kernel
theorem dX4_returns_4 : decode cX4_returns 4 = .ok (.getfield 180, 3) := by decide +kernel
theorem dX4_returns_7 : decode cX4_returns 7 = .ok (.ireturn, 1) := by decide +kernel
theorem dX4_appendCharacter_0 : decode cX4_appendCharacter 0 = .ok (.iload_n 1, 1) := by decide +kernel
theorem dX4_appendCharacter_1 : decode cX4_appendCharacter 1 = .ok (.iconst 0, 1) := by decide +kernel
theorem dX4_appendCharacter_2 : decode cX4_appendCharacter 2 = .ok (.sipush 255, 3) := by decide +kernel
theorem dX4_appendCharacter_5 : decode cX4_appendCharacter 5 = .ok (.invokestatic 41, 3) := by decide +kernel
theorem dX4_appendCharacter_8 : decode cX4_appendCharacter 8 = .ok (.ifCond .ne 5, 3) := by decide +kernel
theorem dX4_appendCharacter_11 : decode cX4_appendCharacter 11 = .ok (.iconst (-1), 1) := by decide +kernel
theorem dX4_appendCharacter_12 : decode cX4_appendCharacter 12 = .ok (.ireturn, 1) := by decide +kernel
theorem dX4_appendCharacter_13 : decode cX4_appendCharacter 13 = .ok (.aload_n 0, 1) := by decide +kernel
theorem dX4_appendCharacter_14 : decode cX4_appendCharacter 14 = .ok (.getfield 37, 3) := by decide +kernel
theorem dX4_appendCharacter_17 : decode cX4_appendCharacter 17 = .ok (.iload_n 1, 1) := by decide +kernel
theorem dX4_appendCharacter_18 : decode cX4_appendCharacter 18 = .ok (.invokevirtual 183, 3) := by decide +kernel
theorem dX4_appendCharacter_21 : decode cX4_appendCharacter 21 = .ok (.ifCond .eq 13, 3) := by decide +kernel
theorem dX4_appendCharacter_24 : decode cX4_appendCharacter 24 = .ok (.aload_n 0, 1) := by decide +kernel
theorem dX4_appendCharacter_25 : decode cX4_appendCharacter 25 = .ok (.getfield 37, 3) := by decide +kernel
theorem dX4_appendCharacter_28 : decode cX4_appendCharacter 28 = .ok (.getfield 186, 3) := by decide +kernel
theorem dX4_appendCharacter_31 : decode cX4_appendCharacter 31 = .ok (.goto 5, 3) := by decide +kernel
theorem dX4_appendCharacter_34 : decode cX4_appendCharacter 34 = .ok (.bipush (-3), 2) := by decide +kernel
theorem dX4_appendCharacter_36 : decode cX4_appendCharacter 36 = .ok (.ireturn, 1) := by decide +kernel
theorem dX4_clearText_0 : decode cX4_clearText 0 = .ok (.aload_n 0, 1) := by decide +kernel
theorem dX4_clearText_1 : decode cX4_clearText 1 = .ok (.getfield 37, 3) := by decide +kernel
theorem dX4_clearText_4 : decode cX4_clearText 4 = .ok (.getfield 186, 3) := by decide +kernel
theorem dX4_clearText_7 : decode cX4_clearText 7 = .ok (.istore_n 1, 1) := by decide +kernel
theorem dX4_clearText_8 : decode cX4_clearText 8 = .ok (.aload_n 0, 1) := by decide +kernel
theorem dX4_clearText_9 : decode cX4_clearText 9 = .ok (.getfield 37, 3) := by decide +kernel
theorem dX4_clearText_12 : decode cX4_clearText 12 = .ok (.iconst 0, 1) := by decide +kernel
theorem dX4_clearText_13 : decode cX4_clearText 13 = .ok (.putfield 186, 3) := by decide +kernel
theorem dX4_clearText_16 : decode cX4_clearText 16 = .ok (.iload_n 1, 1) := by decide +kernel
theorem dX4_clearText_17 : decode cX4_clearText 17 = .ok (.ireturn, 1) := by decide +kernel
theorem dX4_runScript_0 : decode cX4_runScript 0 = .ok (.aload_n 0, 1) := by decide +kernel
theorem dX4_runScript_1 : decode cX4_runScript 1 = .ok (.getfield 37, 3) := by decide +kernel
theorem dX4_runScript_4 : decode cX4_runScript 4 = .ok (.invokevirtual 189, 3) := by decide +kernel
theorem dX4_runScript_7 : decode cX4_runScript 7 = .ok (.ifCond .ne 14, 3) := by decide +kernel
theorem dX4_runScript_10 : decode cX4_runScript 10 = .ok (.bipush (-10), 2) := by decide +kernel
theorem dX4_runScript_12 : decode cX4_runScript 12 = .ok (.aload_n 0, 1) := by decide +kernel
theorem dX4_runScript_13 : decode cX4_runScript 13 = .ok (.getfield 37, 3) := by decide +kernel
theorem dX4_runScript_16 : decode cX4_runScript 16 = .ok (.getfield 193, 3) := by decide +kernel
theorem dX4_runScript_19 : decode cX4_runScript 19 = .ok (.isub, 1) := by decide +kernel
theorem dX4_runScript_20 : decode cX4_runScript 20 = .ok (.ireturn, 1) := by decide +kernel
theorem dX4_runScript_21 : decode cX4_runScript 21 = .ok (.aload_n 0, 1) := by decide +kernel
theorem dX4_runScript_22 : decode cX4_runScript 22 = .ok (.getfield 26, 3) := by decide +kernel
theorem dX4_runScript_25 : decode cX4_runScript 25 = .ok (.aload_n 0, 1) := by decide +kernel
theorem dX4_runScript_26 : decode cX4_runScript 26 = .ok (.getfield 19, 3) := by decide +kernel
theorem dX4_runScript_29 : decode cX4_runScript 29 = .ok (.invokevirtual 45, 3) := by decide +kernel
theorem dX4_runScript_32 : decode cX4_runScript 32 = .ok (.iconst 0, 1) := by decide +kernel
theorem dX4_runScript_33 : decode cX4_runScript 33 = .ok (.istore_n 1, 1) := by decide +kernel
theorem dX4_runScript_34 : decode cX4_runScript 34 = .ok (.iconst 0, 1) := by decide +kernel
theorem dX4_runScript_35 : decode cX4_runScript 35 = .ok (.istore_n 2, 1) := by decide +kernel
theorem dX4_runScript_36 : decode cX4_runScript 36 = .ok (.iload_n 2, 1) := by decide +kernel
theorem dX4_runScript_37 : decode cX4_runScript 37 = .ok (.aload_n 0, 1) := by decide +kernel
theorem dX4_runScript_38 : decode cX4_runScript 38 = .ok (.getfield 37, 3) := by decide +kernel
theorem dX4_runScript_41 : decode cX4_runScript 41 = .ok (.getfield 196, 3) := by decide +kernel
theorem dX4_runScript_44 : decode cX4_runScript 44 = .ok (.if_icmp .ge 128, 3) := by decide +kernel
theorem dX4_runScript_47 : decode cX4_runScript 47 = .ok (.iload_n 2, 1) := by decide +kernel
theorem dX4_runScript_48 : decode cX4_runScript 48 = .ok (.bipush 33, 2) := by decide +kernel
theorem dX4_runScript_50 : decode cX4_runScript 50 = .ok (.if_icmp .ge 122, 3) := by decide +kernel
theorem dX4_runScript_53 : decode cX4_runScript 53 = .ok (.aload_n 0, 1) := by decide +kernel
theorem dX4_runScript_54 : decode cX4_runScript 54 = .ok (.getfield 37, 3) := by decide +kernel
theorem dX4_runScript_57 : decode cX4_runScript 57 = .ok (.getfield 199, 3) := by decide +kernel
theorem dX4_runScript_60 : decode cX4_runScript 60 = .ok (.iload_n 2, 1) := by decide +kernel
theorem dX4_runScript_61 : decode cX4_runScript 61 = .ok (.iaload, 1) := by decide +kernel
theorem dX4_runScript_62 : decode cX4_runScript 62 = .ok (.istore_n 3, 1) := by decide +kernel
theorem dX4_runScript_63 : decode cX4_runScript 63 = .ok (.aload_n 0, 1) := by decide +kernel
theorem dX4_runScript_64 : decode cX4_runScript 64 = .ok (.getfield 37, 3) := by decide +kernel
theorem dX4_runScript_67 : decode cX4_runScript 67 = .ok (.getfield 203, 3) := by decide +kernel
theorem dX4_runScript_70 : decode cX4_runScript 70 = .ok (.iload_n 2, 1) := by decide +kernel
theorem dX4_runScript_71 : decode cX4_runScript 71 = .ok (.iaload, 1) := by decide +kernel
theorem dX4_runScript_72 : decode cX4_runScript 72 = .ok (.istore 4, 2) := by decide +kernel
theorem dX4_runScript_74 : decode cX4_runScript 74 = .ok (.aload_n 0, 1) := by decide +kernel
theorem dX4_runScript_75 : decode cX4_runScript 75 = .ok (.getfield 37, 3) := by decide +kernel
theorem dX4_runScript_78 : decode cX4_runScript 78 = .ok (.getfield 206, 3) := by decide +kernel
theorem dX4_runScript_81 : decode cX4_runScript 81 = .ok (.iload_n 2, 1) := by decide +kernel
theorem dX4_runScript_82 : decode cX4_runScript 82 = .ok (.iaload, 1) := by decide +kernel
theorem dX4_runScript_83 : decode cX4_runScript 83 = .ok (.istore 5, 2) := by decide +kernel
theorem dX4_runScript_85 : decode cX4_runScript 85 = .ok (.aload_n 0, 1) := by decide +kernel
theorem dX4_runScript_86 : decode cX4_runScript 86 = .ok (.iload_n 3, 1) := by decide +kernel
theorem dX4_runScript_87 : decode cX4_runScript 87 = .ok (.iload 4, 2) := by decide +kernel
theorem dX4_runScript_89 : decode cX4_runScript 89 = .ok (.iload 5, 2) := by decide +kernel
theorem dX4_runScript_91 : decode cX4_runScript 91 = .ok (.invokevirtual 209, 3) := by decide +kernel
theorem dX4_runScript_94 : decode cX4_runScript 94 = .ok (.ifCond .ne 72, 3) := by decide +kernel
theorem dX4_runScript_97 : decode cX4_runScript 97 = .ok (.iinc 1 1, 3) := by decide +kernel
theorem dX4_runScript_100 : decode cX4_runScript 100 = .ok (.iload_n 3, 1) := by decide +kernel
theorem dX4_runScript_101 : decode cX4_runScript 101 = .ok (.lookupswitch 53 #[(101, 40), (115, 27)], 27) := by decide +kernel
theorem dX4_runScript_128 : decode cX4_runScript 128 = .ok (.aload_n 0, 1) := by decide +kernel
theorem dX4_runScript_129 : decode cX4_runScript 129 = .ok (.getfield 19, 3) := by decide +kernel
theorem dX4_runScript_132 : decode cX4_runScript 132 = .ok (.iload 4, 2) := by decide +kernel
theorem dX4_runScript_134 : decode cX4_runScript 134 = .ok (.invokevirtual 92, 3) := by decide +kernel
theorem dX4_runScript_137 : decode cX4_runScript 137 = .ok (.pop, 1) := by decide +kernel
theorem dX4_runScript_138 : decode cX4_runScript 138 = .ok (.goto 28, 3) := by decide +kernel
theorem dX4_runScript_141 : decode cX4_runScript 141 = .ok (.aload_n 0, 1) := by decide +kernel
theorem dX4_runScript_142 : decode cX4_runScript 142 = .ok (.getfield 19, 3) := by decide +kernel
theorem dX4_runScript_145 : decode cX4_runScript 145 = .ok (.iload 4, 2) := by decide +kernel
theorem dX4_runScript_147 : decode cX4_runScript 147 = .ok (.invokevirtual 98, 3) := by decide +kernel
theorem dX4_runScript_150 : decode cX4_runScript 150 = .ok (.pop, 1) := by decide +kernel
theorem dX4_runScript_151 : decode cX4_runScript 151 = .ok (.goto 15, 3) := by decide +kernel
theorem dX4_runScript_154 : decode cX4_runScript 154 = .ok (.aload_n 0, 1) := by decide +kernel
theorem dX4_runScript_155 : decode cX4_runScript 155 = .ok (.getfield 19, 3) := by decide +kernel
theorem dX4_runScript_158 : decode cX4_runScript 158 = .ok (.iload 4, 2) := by decide +kernel
theorem dX4_runScript_160 : decode cX4_runScript 160 = .ok (.iload 5, 2) := by decide +kernel
theorem dX4_runScript_162 : decode cX4_runScript 162 = .ok (.invokevirtual 104, 3) := by decide +kernel
theorem dX4_runScript_165 : decode cX4_runScript 165 = .ok (.pop, 1) := by decide +kernel
theorem dX4_runScript_166 : decode cX4_runScript 166 = .ok (.iinc 2 1, 3) := by decide +kernel
theorem dX4_runScript_169 : decode cX4_runScript 169 = .ok (.goto (-133), 3) := by decide +kernel
theorem dX4_runScript_172 : decode cX4_runScript 172 = .ok (.aload_n 0, 1) := by decide +kernel
theorem dX4_runScript_173 : decode cX4_runScript 173 = .ok (.getfield 37, 3) := by decide +kernel
theorem dX4_runScript_176 : decode cX4_runScript 176 = .ok (.iconst 0, 1) := by decide +kernel
theorem dX4_runScript_177 : decode cX4_runScript 177 = .ok (.putfield 186, 3) := by decide +kernel
theorem dX4_runScript_180 : decode cX4_runScript 180 = .ok (.iload_n 1, 1) := by decide +kernel
theorem dX4_runScript_181 : decode cX4_runScript 181 = .ok (.ireturn, 1) := by decide +kernel
theorem dX4_undo_0 : decode cX4_undo 0 = .ok (.aload_n 0, 1) := by decide +kernel
theorem dX4_undo_1 : decode cX4_undo 1 = .ok (.getfield 26, 3) := by decide +kernel
theorem dX4_undo_4 : decode cX4_undo 4 = .ok (.aload_n 0, 1) := by decide +kernel
theorem dX4_undo_5 : decode cX4_undo 5 = .ok (.getfield 19, 3) := by decide +kernel
theorem dX4_undo_8 : decode cX4_undo 8 = .ok (.invokevirtual 213, 3) := by decide +kernel
theorem dX4_undo_11 : decode cX4_undo 11 = .ok (.ifCond .eq 13, 3) := by decide +kernel
theorem dX4_undo_14 : decode cX4_undo 14 = .ok (.aload_n 0, 1) := by decide +kernel
theorem dX4_undo_15 : decode cX4_undo 15 = .ok (.getfield 26, 3) := by decide +kernel
theorem dX4_undo_18 : decode cX4_undo 18 = .ok (.getfield 217, 3) := by decide +kernel
theorem dX4_undo_21 : decode cX4_undo 21 = .ok (.goto 5, 3) := by decide +kernel
theorem dX4_undo_24 : decode cX4_undo 24 = .ok (.bipush (-2), 2) := by decide +kernel
theorem dX4_undo_26 : decode cX4_undo 26 = .ok (.ireturn, 1) := by decide +kernel
theorem dX4_save_0 : decode cX4_save 0 = .ok (.iload_n 1, 1) := by decide +kernel
theorem dX4_save_1 : decode cX4_save 1 = .ok (.iconst 0, 1) := by decide +kernel
theorem dX4_save_2 : decode cX4_save 2 = .ok (.iconst 1, 1) := by decide +kernel
theorem dX4_save_3 : decode cX4_save 3 = .ok (.invokestatic 41, 3) := by decide +kernel
theorem dX4_save_6 : decode cX4_save 6 = .ok (.ifCond .ne 5, 3) := by decide +kernel
theorem dX4_save_9 : decode cX4_save 9 = .ok (.iconst (-1), 1) := by decide +kernel
theorem dX4_save_10 : decode cX4_save 10 = .ok (.ireturn, 1) := by decide +kernel
theorem dX4_save_11 : decode cX4_save 11 = .ok (.aload_n 0, 1) := by decide +kernel
theorem dX4_save_12 : decode cX4_save 12 = .ok (.getfield 30, 3) := by decide +kernel
theorem dX4_save_15 : decode cX4_save 15 = .ok (.iload_n 1, 1) := by decide +kernel
theorem dX4_save_16 : decode cX4_save 16 = .ok (.aaload, 1) := by decide +kernel
theorem dX4_save_17 : decode cX4_save 17 = .ok (.astore_n 2, 1) := by decide +kernel
theorem dX4_save_18 : decode cX4_save 18 = .ok (.aload_n 2, 1) := by decide +kernel
theorem dX4_save_19 : decode cX4_save 19 = .ok (.ifnonnull 25, 3) := by decide +kernel
theorem dX4_save_22 : decode cX4_save 22 = .ok (.new 14, 3) := by decide +kernel
theorem dX4_save_25 : decode cX4_save 25 = .ok (.dup, 1) := by decide +kernel
theorem dX4_save_26 : decode cX4_save 26 = .ok (.aload_n 0, 1) := by decide +kernel
theorem dX4_save_27 : decode cX4_save 27 = .ok (.getfield 19, 3) := by decide +kernel
theorem dX4_save_30 : decode cX4_save 30 = .ok (.getfield 52, 3) := by decide +kernel
theorem dX4_save_33 : decode cX4_save 33 = .ok (.invokespecial 16, 3) := by decide +kernel
theorem dX4_save_36 : decode cX4_save 36 = .ok (.astore_n 2, 1) := by decide +kernel
theorem dX4_save_37 : decode cX4_save 37 = .ok (.aload_n 0, 1) := by decide +kernel
theorem dX4_save_38 : decode cX4_save 38 = .ok (.getfield 30, 3) := by decide +kernel
theorem dX4_save_41 : decode cX4_save 41 = .ok (.iload_n 1, 1) := by decide +kernel
theorem dX4_save_42 : decode cX4_save 42 = .ok (.aload_n 2, 1) := by decide +kernel
theorem dX4_save_43 : decode cX4_save 43 = .ok (.aastore, 1) := by decide +kernel
theorem dX4_save_44 : decode cX4_save 44 = .ok (.aload_n 2, 1) := by decide +kernel
theorem dX4_save_45 : decode cX4_save 45 = .ok (.aload_n 0, 1) := by decide +kernel
theorem dX4_save_46 : decode cX4_save 46 = .ok (.getfield 19, 3) := by decide +kernel
theorem dX4_save_49 : decode cX4_save 49 = .ok (.invokevirtual 220, 3) := by decide +kernel
theorem dX4_save_52 : decode cX4_save 52 = .ok (.aload_n 0, 1) := by decide +kernel
theorem dX4_save_53 : decode cX4_save 53 = .ok (.getfield 19, 3) := by decide +kernel
theorem dX4_save_56 : decode cX4_save 56 = .ok (.invokevirtual 159, 3) := by decide +kernel
theorem dX4_save_59 : decode cX4_save 59 = .ok (.ireturn, 1) := by decide +kernel
theorem dX4_restore_0 : decode cX4_restore 0 = .ok (.iload_n 1, 1) := by decide +kernel
theorem dX4_restore_1 : decode cX4_restore 1 = .ok (.iconst 0, 1) := by decide +kernel
theorem dX4_restore_2 : decode cX4_restore 2 = .ok (.iconst 1, 1) := by decide +kernel
theorem dX4_restore_3 : decode cX4_restore 3 = .ok (.invokestatic 41, 3) := by decide +kernel
theorem dX4_restore_6 : decode cX4_restore 6 = .ok (.ifCond .ne 5, 3) := by decide +kernel
theorem dX4_restore_9 : decode cX4_restore 9 = .ok (.iconst (-1), 1) := by decide +kernel
theorem dX4_restore_10 : decode cX4_restore 10 = .ok (.ireturn, 1) := by decide +kernel
theorem dX4_restore_11 : decode cX4_restore 11 = .ok (.aload_n 0, 1) := by decide +kernel
theorem dX4_restore_12 : decode cX4_restore 12 = .ok (.getfield 30, 3) := by decide +kernel
theorem dX4_restore_15 : decode cX4_restore 15 = .ok (.iload_n 1, 1) := by decide +kernel
theorem dX4_restore_16 : decode cX4_restore 16 = .ok (.aaload, 1) := by decide +kernel
theorem dX4_restore_17 : decode cX4_restore 17 = .ok (.astore_n 2, 1) := by decide +kernel
theorem dX4_restore_18 : decode cX4_restore 18 = .ok (.aload_n 2, 1) := by decide +kernel
theorem dX4_restore_19 : decode cX4_restore 19 = .ok (.ifnonnull 6, 3) := by decide +kernel
theorem dX4_restore_22 : decode cX4_restore 22 = .ok (.bipush (-2), 2) := by decide +kernel
theorem dX4_restore_24 : decode cX4_restore 24 = .ok (.ireturn, 1) := by decide +kernel
theorem dX4_restore_25 : decode cX4_restore 25 = .ok (.aload_n 0, 1) := by decide +kernel
theorem dX4_restore_26 : decode cX4_restore 26 = .ok (.getfield 19, 3) := by decide +kernel
theorem dX4_restore_29 : decode cX4_restore 29 = .ok (.aload_n 2, 1) := by decide +kernel
theorem dX4_restore_30 : decode cX4_restore 30 = .ok (.invokevirtual 220, 3) := by decide +kernel
theorem dX4_restore_33 : decode cX4_restore 33 = .ok (.aload_n 0, 1) := by decide +kernel
theorem dX4_restore_34 : decode cX4_restore 34 = .ok (.getfield 26, 3) := by decide +kernel
theorem dX4_restore_37 : decode cX4_restore 37 = .ok (.iconst 0, 1) := by decide +kernel
theorem dX4_restore_38 : decode cX4_restore 38 = .ok (.putfield 217, 3) := by decide +kernel
theorem dX4_restore_41 : decode cX4_restore 41 = .ok (.aload_n 0, 1) := by decide +kernel
theorem dX4_restore_42 : decode cX4_restore 42 = .ok (.getfield 19, 3) := by decide +kernel
theorem dX4_restore_45 : decode cX4_restore 45 = .ok (.invokevirtual 159, 3) := by decide +kernel
theorem dX4_restore_48 : decode cX4_restore 48 = .ok (.ireturn, 1) := by decide +kernel
theorem dX4_isCell_0 : decode cX4_isCell 0 = .ok (.aload_n 0, 1) := by decide +kernel
theorem dX4_isCell_1 : decode cX4_isCell 1 = .ok (.getfield 19, 3) := by decide +kernel
theorem dX4_isCell_4 : decode cX4_isCell 4 = .ok (.getfield 52, 3) := by decide +kernel
theorem dX4_isCell_7 : decode cX4_isCell 7 = .ok (.iload_n 1, 1) := by decide +kernel
theorem dX4_isCell_8 : decode cX4_isCell 8 = .ok (.invokevirtual 223, 3) := by decide +kernel
theorem dX4_isCell_11 : decode cX4_isCell 11 = .ok (.ireturn, 1) := by decide +kernel
theorem dX4_isChannel_0 : decode cX4_isChannel 0 = .ok (.iload_n 1, 1) := by decide +kernel
theorem dX4_isChannel_1 : decode cX4_isChannel 1 = .ok (.iconst 0, 1) := by decide +kernel
theorem dX4_isChannel_2 : decode cX4_isChannel 2 = .ok (.aload_n 0, 1) := by decide +kernel
theorem dX4_isChannel_3 : decode cX4_isChannel 3 = .ok (.getfield 19, 3) := by decide +kernel
theorem dX4_isChannel_6 : decode cX4_isChannel 6 = .ok (.getfield 52, 3) := by decide +kernel
theorem dX4_isChannel_9 : decode cX4_isChannel 9 = .ok (.getfield 56, 3) := by decide +kernel
theorem dX4_isChannel_12 : decode cX4_isChannel 12 = .ok (.iconst 1, 1) := by decide +kernel
theorem dX4_isChannel_13 : decode cX4_isChannel 13 = .ok (.isub, 1) := by decide +kernel
theorem dX4_isChannel_14 : decode cX4_isChannel 14 = .ok (.invokestatic 41, 3) := by decide +kernel
theorem dX4_isChannel_17 : decode cX4_isChannel 17 = .ok (.ireturn, 1) := by decide +kernel
theorem dX4_commandError_0 : decode cX4_commandError 0 = .ok (.iload_n 1, 1) := by decide +kernel
theorem dX4_commandError_1 : decode cX4_commandError 1 = .ok (.lookupswitch 54 #[(101, 36), (115, 27)], 27) := by decide +kernel
theorem dX4_commandError_28 : decode cX4_commandError 28 = .ok (.aload_n 0, 1) := by decide +kernel
theorem dX4_commandError_29 : decode cX4_commandError 29 = .ok (.getfield 19, 3) := by decide +kernel
theorem dX4_commandError_32 : decode cX4_commandError 32 = .ok (.iload_n 2, 1) := by decide +kernel
theorem dX4_commandError_33 : decode cX4_commandError 33 = .ok (.invokevirtual 89, 3) := by decide +kernel
theorem dX4_commandError_36 : decode cX4_commandError 36 = .ok (.ireturn, 1) := by decide +kernel
theorem dX4_commandError_37 : decode cX4_commandError 37 = .ok (.aload_n 0, 1) := by decide +kernel
theorem dX4_commandError_38 : decode cX4_commandError 38 = .ok (.getfield 19, 3) := by decide +kernel
theorem dX4_commandError_41 : decode cX4_commandError 41 = .ok (.iload_n 2, 1) := by decide +kernel
theorem dX4_commandError_42 : decode cX4_commandError 42 = .ok (.invokevirtual 95, 3) := by decide +kernel
theorem dX4_commandError_45 : decode cX4_commandError 45 = .ok (.ifCond .eq 7, 3) := by decide +kernel
theorem dX4_commandError_48 : decode cX4_commandError 48 = .ok (.iconst 0, 1) := by decide +kernel
theorem dX4_commandError_49 : decode cX4_commandError 49 = .ok (.goto 5, 3) := by decide +kernel
theorem dX4_commandError_52 : decode cX4_commandError 52 = .ok (.bipush (-4), 2) := by decide +kernel
theorem dX4_commandError_54 : decode cX4_commandError 54 = .ok (.ireturn, 1) := by decide +kernel
theorem dX4_commandError_55 : decode cX4_commandError 55 = .ok (.aload_n 0, 1) := by decide +kernel
theorem dX4_commandError_56 : decode cX4_commandError 56 = .ok (.getfield 19, 3) := by decide +kernel
theorem dX4_commandError_59 : decode cX4_commandError 59 = .ok (.iload_n 2, 1) := by decide +kernel
theorem dX4_commandError_60 : decode cX4_commandError 60 = .ok (.iload_n 3, 1) := by decide +kernel
theorem dX4_commandError_61 : decode cX4_commandError 61 = .ok (.invokevirtual 101, 3) := by decide +kernel
theorem dX4_commandError_64 : decode cX4_commandError 64 = .ok (.ireturn, 1) := by decide +kernel
theorem dX4_isBetween_0 : decode cX4_isBetween 0 = .ok (.iload_n 0, 1) := by decide +kernel
theorem dX4_isBetween_1 : decode cX4_isBetween 1 = .ok (.iload_n 1, 1) := by decide +kernel
theorem dX4_isBetween_2 : decode cX4_isBetween 2 = .ok (.if_icmp .lt 12, 3) := by decide +kernel
theorem dX4_isBetween_5 : decode cX4_isBetween 5 = .ok (.iload_n 0, 1) := by decide +kernel
theorem dX4_isBetween_6 : decode cX4_isBetween 6 = .ok (.iload_n 2, 1) := by decide +kernel
theorem dX4_isBetween_7 : decode cX4_isBetween 7 = .ok (.if_icmp .gt 7, 3) := by decide +kernel
theorem dX4_isBetween_10 : decode cX4_isBetween 10 = .ok (.iconst 1, 1) := by decide +kernel
theorem dX4_isBetween_11 : decode cX4_isBetween 11 = .ok (.goto 4, 3) := by decide +kernel
theorem dX4_isBetween_14 : decode cX4_isBetween 14 = .ok (.iconst 0, 1) := by decide +kernel
theorem dX4_isBetween_15 : decode cX4_isBetween 15 = .ok (.ireturn, 1) := by decide +kernel
theorem dX4_asNumber_0 : decode cX4_asNumber 0 = .ok (.iload_n 0, 1) := by decide +kernel
theorem dX4_asNumber_1 : decode cX4_asNumber 1 = .ok (.ifCond .eq 7, 3) := by decide +kernel
theorem dX4_asNumber_4 : decode cX4_asNumber 4 = .ok (.iconst 1, 1) := by decide +kernel
theorem dX4_asNumber_5 : decode cX4_asNumber 5 = .ok (.goto 4, 3) := by decide +kernel
theorem dX4_asNumber_8 : decode cX4_asNumber 8 = .ok (.iconst 0, 1) := by decide +kernel
theorem dX4_asNumber_9 : decode cX4_asNumber 9 = .ok (.ireturn, 1) := by decide +kernel
theorem dX4_contains_0 : decode cX4_contains 0 = .ok (.iload_n 0, 1) := by decide +kernel
theorem dX4_contains_1 : decode cX4_contains 1 = .ok (.iload_n 1, 1) := by decide +kernel
theorem dX4_contains_2 : decode cX4_contains 2 = .ok (.ishr, 1) := by decide +kernel
theorem dX4_contains_3 : decode cX4_contains 3 = .ok (.iconst 1, 1) := by decide +kernel
theorem dX4_contains_4 : decode cX4_contains 4 = .ok (.iand, 1) := by decide +kernel
theorem dX4_contains_5 : decode cX4_contains 5 = .ok (.ifCond .eq 7, 3) := by decide +kernel
theorem dX4_contains_8 : decode cX4_contains 8 = .ok (.iconst 1, 1) := by decide +kernel
theorem dX4_contains_9 : decode cX4_contains 9 = .ok (.goto 4, 3) := by decide +kernel
theorem dX4_contains_12 : decode cX4_contains 12 = .ok (.iconst 0, 1) := by decide +kernel
theorem dX4_contains_13 : decode cX4_contains 13 = .ok (.ireturn, 1) := by decide +kernel
theorem dX5_init_0 : decode cX5_init 0 = .ok (.aload_n 0, 1) := by decide +kernel
theorem dX5_init_1 : decode cX5_init 1 = .ok (.invokespecial 1, 3) := by decide +kernel
theorem dX5_init_4 : decode cX5_init 4 = .ok (.aload_n 0, 1) := by decide +kernel
theorem dX5_init_5 : decode cX5_init 5 = .ok (.sipush 194, 3) := by decide +kernel
theorem dX5_init_8 : decode cX5_init 8 = .ok (.newarray .int, 2) := by decide +kernel
theorem dX5_init_10 : decode cX5_init 10 = .ok (.putfield 7, 3) := by decide +kernel
theorem dX5_init_13 : decode cX5_init 13 = .ok (.aload_n 0, 1) := by decide +kernel
theorem dX5_init_14 : decode cX5_init 14 = .ok (.sipush 1164, 3) := by decide +kernel
theorem dX5_init_17 : decode cX5_init 17 = .ok (.newarray .int, 2) := by decide +kernel
theorem dX5_init_19 : decode cX5_init 19 = .ok (.putfield 13, 3) := by decide +kernel
theorem dX5_init_22 : decode cX5_init 22 = .ok (.aload_n 0, 1) := by decide +kernel
theorem dX5_init_23 : decode cX5_init 23 = .ok (.sipush 388, 3) := by decide +kernel
theorem dX5_init_26 : decode cX5_init 26 = .ok (.newarray .int, 2) := by decide +kernel
theorem dX5_init_28 : decode cX5_init 28 = .ok (.putfield 16, 3) := by decide +kernel
theorem dX5_init_31 : decode cX5_init 31 = .ok (.aload_n 0, 1) := by decide +kernel
theorem dX5_init_32 : decode cX5_init 32 = .ok (.iconst 2, 1) := by decide +kernel
theorem dX5_init_33 : decode cX5_init 33 = .ok (.newarray .boolean, 2) := by decide +kernel
theorem dX5_init_35 : decode cX5_init 35 = .ok (.putfield 19, 3) := by decide +kernel
theorem dX5_init_38 : decode cX5_init 38 = .ok (.aload_n 0, 1) := by decide +kernel
theorem dX5_init_39 : decode cX5_init 39 = .ok (.bipush 100, 2) := by decide +kernel
theorem dX5_init_41 : decode cX5_init 41 = .ok (.newarray .byte, 2) := by decide +kernel
theorem dX5_init_43 : decode cX5_init 43 = .ok (.putfield 23, 3) := by decide +kernel
theorem dX5_init_46 : decode cX5_init 46 = .ok (.aload_n 0, 1) := by decide +kernel
theorem dX5_init_47 : decode cX5_init 47 = .ok (.bipush 28, 2) := by decide +kernel
theorem dX5_init_49 : decode cX5_init 49 = .ok (.newarray .boolean, 2) := by decide +kernel
theorem dX5_init_51 : decode cX5_init 51 = .ok (.putfield 27, 3) := by decide +kernel
theorem dX5_init_54 : decode cX5_init 54 = .ok (.aload_n 0, 1) := by decide +kernel
theorem dX5_init_55 : decode cX5_init 55 = .ok (.getfield 7, 3) := by decide +kernel
theorem dX5_init_58 : decode cX5_init 58 = .ok (.iconst 0, 1) := by decide +kernel
theorem dX5_init_59 : decode cX5_init 59 = .ok (.iconst 3, 1) := by decide +kernel
theorem dX5_init_60 : decode cX5_init 60 = .ok (.iastore, 1) := by decide +kernel
theorem dX5_init_61 : decode cX5_init 61 = .ok (.aload_n 0, 1) := by decide +kernel
theorem dX5_init_62 : decode cX5_init 62 = .ok (.getfield 7, 3) := by decide +kernel
theorem dX5_init_65 : decode cX5_init 65 = .ok (.iconst 1, 1) := by decide +kernel
theorem dX5_init_66 : decode cX5_init 66 = .ok (.iconst 4, 1) := by decide +kernel
theorem dX5_init_67 : decode cX5_init 67 = .ok (.iastore, 1) := by decide +kernel
theorem dX5_init_68 : decode cX5_init 68 = .ok (.aload_n 0, 1) := by decide +kernel
theorem dX5_init_69 : decode cX5_init 69 = .ok (.getfield 7, 3) := by decide +kernel
theorem dX5_init_72 : decode cX5_init 72 = .ok (.iconst 2, 1) := by decide +kernel
theorem dX5_init_73 : decode cX5_init 73 = .ok (.iconst 2, 1) := by decide +kernel
theorem dX5_init_74 : decode cX5_init 74 = .ok (.iastore, 1) := by decide +kernel
theorem dX5_init_75 : decode cX5_init 75 = .ok (.aload_n 0, 1) := by decide +kernel
theorem dX5_init_76 : decode cX5_init 76 = .ok (.getfield 7, 3) := by decide +kernel
theorem dX5_init_79 : decode cX5_init 79 = .ok (.iconst 3, 1) := by decide +kernel
theorem dX5_init_80 : decode cX5_init 80 = .ok (.iconst 2, 1) := by decide +kernel
theorem dX5_init_81 : decode cX5_init 81 = .ok (.iastore, 1) := by decide +kernel
theorem dX5_init_82 : decode cX5_init 82 = .ok (.aload_n 0, 1) := by decide +kernel
theorem dX5_init_83 : decode cX5_init 83 = .ok (.getfield 7, 3) := by decide +kernel
theorem dX5_init_86 : decode cX5_init 86 = .ok (.bipush 6, 2) := by decide +kernel
theorem dX5_init_88 : decode cX5_init 88 = .ok (.iconst 1, 1) := by decide +kernel
theorem dX5_init_89 : decode cX5_init 89 = .ok (.iastore, 1) := by decide +kernel
theorem dX5_init_90 : decode cX5_init 90 = .ok (.return_, 1) := by decide +kernel
theorem dX5_in_0 : decode cX5_in 0 = .ok (.iload_n 0, 1) := by decide +kernel
theorem dX5_in_1 : decode cX5_in 1 = .ok (.iload_n 1, 1) := by decide +kernel
theorem dX5_in_2 : decode cX5_in 2 = .ok (.if_icmp .lt 12, 3) := by decide +kernel
theorem dX5_in_5 : decode cX5_in 5 = .ok (.iload_n 0, 1) := by decide +kernel
theorem dX5_in_6 : decode cX5_in 6 = .ok (.iload_n 2, 1) := by decide +kernel
theorem dX5_in_7 : decode cX5_in 7 = .ok (.if_icmp .gt 7, 3) := by decide +kernel
theorem dX5_in_10 : decode cX5_in 10 = .ok (.iconst 1, 1) := by decide +kernel
theorem dX5_in_11 : decode cX5_in 11 = .ok (.goto 4, 3) := by decide +kernel
theorem dX5_in_14 : decode cX5_in 14 = .ok (.iconst 0, 1) := by decide +kernel
theorem dX5_in_15 : decode cX5_in 15 = .ok (.ireturn, 1) := by decide +kernel
theorem dX5_note_0 : decode cX5_note 0 = .ok (.aload_n 0, 1) := by decide +kernel
theorem dX5_note_1 : decode cX5_note 1 = .ok (.getfield 30, 3) := by decide +kernel
theorem dX5_note_4 : decode cX5_note 4 = .ok (.bipush 6, 2) := by decide +kernel
theorem dX5_note_6 : decode cX5_note 6 = .ok (.if_icmp .ne 44, 3) := by decide +kernel
theorem dX5_note_9 : decode cX5_note 9 = .ok (.iconst 0, 1) := by decide +kernel
theorem dX5_note_10 : decode cX5_note 10 = .ok (.istore_n 1, 1) := by decide +kernel
theorem dX5_note_11 : decode cX5_note 11 = .ok (.iload_n 1, 1) := by decide +kernel
theorem dX5_note_12 : decode cX5_note 12 = .ok (.sipush 970, 3) := by decide +kernel
theorem dX5_note_15 : decode cX5_note 15 = .ok (.if_icmp .ge 25, 3) := by decide +kernel
theorem dX5_note_18 : decode cX5_note 18 = .ok (.aload_n 0, 1) := by decide +kernel
theorem dX5_note_19 : decode cX5_note 19 = .ok (.getfield 13, 3) := by decide +kernel
theorem dX5_note_22 : decode cX5_note 22 = .ok (.iload_n 1, 1) := by decide +kernel
theorem dX5_note_23 : decode cX5_note 23 = .ok (.aload_n 0, 1) := by decide +kernel
theorem dX5_note_24 : decode cX5_note 24 = .ok (.getfield 13, 3) := by decide +kernel
theorem dX5_note_27 : decode cX5_note 27 = .ok (.iload_n 1, 1) := by decide +kernel
theorem dX5_note_28 : decode cX5_note 28 = .ok (.sipush 194, 3) := by decide +kernel
theorem dX5_note_31 : decode cX5_note 31 = .ok (.iadd, 1) := by decide +kernel
theorem dX5_note_32 : decode cX5_note 32 = .ok (.iaload, 1) := by decide +kernel
theorem dX5_note_33 : decode cX5_note 33 = .ok (.iastore, 1) := by decide +kernel
theorem dX5_note_34 : decode cX5_note 34 = .ok (.iinc 1 1, 3) := by decide +kernel
theorem dX5_note_37 : decode cX5_note 37 = .ok (.goto (-26), 3) := by decide +kernel
theorem dX5_note_40 : decode cX5_note 40 = .ok (.aload_n 0, 1) := by decide +kernel
theorem dX5_note_41 : decode cX5_note 41 = .ok (.dup, 1) := by decide +kernel
theorem dX5_note_42 : decode cX5_note 42 = .ok (.getfield 30, 3) := by decide +kernel
theorem dX5_note_45 : decode cX5_note 45 = .ok (.iconst 1, 1) := by decide +kernel
theorem dX5_note_46 : decode cX5_note 46 = .ok (.isub, 1) := by decide +kernel
theorem dX5_note_47 : decode cX5_note 47 = .ok (.putfield 30, 3) := by decide +kernel
theorem dX5_note_50 : decode cX5_note 50 = .ok (.iconst 0, 1) := by decide +kernel
theorem dX5_note_51 : decode cX5_note 51 = .ok (.istore_n 1, 1) := by decide +kernel
theorem dX5_note_52 : decode cX5_note 52 = .ok (.iload_n 1, 1) := by decide +kernel
theorem dX5_note_53 : decode cX5_note 53 = .ok (.sipush 194, 3) := by decide +kernel
theorem dX5_note_56 : decode cX5_note 56 = .ok (.if_icmp .ge 30, 3) := by decide +kernel
theorem dX5_note_59 : decode cX5_note 59 = .ok (.aload_n 0, 1) := by decide +kernel
theorem dX5_note_60 : decode cX5_note 60 = .ok (.getfield 13, 3) := by decide +kernel
theorem dX5_note_63 : decode cX5_note 63 = .ok (.sipush 194, 3) := by decide +kernel
theorem dX5_note_66 : decode cX5_note 66 = .ok (.aload_n 0, 1) := by decide +kernel
theorem dX5_note_67 : decode cX5_note 67 = .ok (.getfield 30, 3) := by decide +kernel
theorem dX5_note_70 : decode cX5_note 70 = .ok (.imul, 1) := by decide +kernel
theorem dX5_note_71 : decode cX5_note 71 = .ok (.iload_n 1, 1) := by decide +kernel
theorem dX5_note_72 : decode cX5_note 72 = .ok (.iadd, 1) := by decide +kernel
theorem dX5_note_73 : decode cX5_note 73 = .ok (.aload_n 0, 1) := by decide +kernel
theorem dX5_note_74 : decode cX5_note 74 = .ok (.getfield 7, 3) := by decide +kernel
theorem dX5_note_77 : decode cX5_note 77 = .ok (.iload_n 1, 1) := by decide +kernel
theorem dX5_note_78 : decode cX5_note 78 = .ok (.iaload, 1) := by decide +kernel
theorem dX5_note_79 : decode cX5_note 79 = .ok (.iastore, 1) := by decide +kernel
theorem dX5_note_80 : decode cX5_note 80 = .ok (.iinc 1 1, 3) := by decide +kernel
theorem dX5_note_83 : decode cX5_note 83 = .ok (.goto (-31), 3) := by decide +kernel
theorem dX5_note_86 : decode cX5_note 86 = .ok (.aload_n 0, 1) := by decide +kernel
theorem dX5_note_87 : decode cX5_note 87 = .ok (.dup, 1) := by decide +kernel
theorem dX5_note_88 : decode cX5_note 88 = .ok (.getfield 30, 3) := by decide +kernel
theorem dX5_note_91 : decode cX5_note 91 = .ok (.iconst 1, 1) := by decide +kernel
theorem dX5_note_92 : decode cX5_note 92 = .ok (.iadd, 1) := by decide +kernel
theorem dX5_note_93 : decode cX5_note 93 = .ok (.putfield 30, 3) := by decide +kernel
theorem dX5_note_96 : decode cX5_note 96 = .ok (.return_, 1) := by decide +kernel
theorem dX5_undo_0 : decode cX5_undo 0 = .ok (.aload_n 0, 1) := by decide +kernel
theorem dX5_undo_1 : decode cX5_undo 1 = .ok (.getfield 30, 3) := by decide +kernel
theorem dX5_undo_4 : decode cX5_undo 4 = .ok (.ifCond .ne 6, 3) := by decide +kernel
theorem dX5_undo_7 : decode cX5_undo 7 = .ok (.bipush (-2), 2) := by decide +kernel
theorem dX5_undo_9 : decode cX5_undo 9 = .ok (.ireturn, 1) := by decide +kernel
theorem dX5_undo_10 : decode cX5_undo 10 = .ok (.aload_n 0, 1) := by decide +kernel
theorem dX5_undo_11 : decode cX5_undo 11 = .ok (.dup, 1) := by decide +kernel
theorem dX5_undo_12 : decode cX5_undo 12 = .ok (.getfield 30, 3) := by decide +kernel
theorem dX5_undo_15 : decode cX5_undo 15 = .ok (.iconst 1, 1) := by decide +kernel
theorem dX5_undo_16 : decode cX5_undo 16 = .ok (.isub, 1) := by decide +kernel
theorem dX5_undo_17 : decode cX5_undo 17 = .ok (.putfield 30, 3) := by decide +kernel
theorem dX5_undo_20 : decode cX5_undo 20 = .ok (.iconst 0, 1) := by decide +kernel
theorem dX5_undo_21 : decode cX5_undo 21 = .ok (.istore_n 1, 1) := by decide +kernel
theorem dX5_undo_22 : decode cX5_undo 22 = .ok (.iload_n 1, 1) := by decide +kernel
theorem dX5_undo_23 : decode cX5_undo 23 = .ok (.sipush 194, 3) := by decide +kernel
theorem dX5_undo_26 : decode cX5_undo 26 = .ok (.if_icmp .ge 30, 3) := by decide +kernel
theorem dX5_undo_29 : decode cX5_undo 29 = .ok (.aload_n 0, 1) := by decide +kernel
theorem dX5_undo_30 : decode cX5_undo 30 = .ok (.getfield 7, 3) := by decide +kernel
theorem dX5_undo_33 : decode cX5_undo 33 = .ok (.iload_n 1, 1) := by decide +kernel
theorem dX5_undo_34 : decode cX5_undo 34 = .ok (.aload_n 0, 1) := by decide +kernel
theorem dX5_undo_35 : decode cX5_undo 35 = .ok (.getfield 13, 3) := by decide +kernel
theorem dX5_undo_38 : decode cX5_undo 38 = .ok (.sipush 194, 3) := by decide +kernel
theorem dX5_undo_41 : decode cX5_undo 41 = .ok (.aload_n 0, 1) := by decide +kernel
theorem dX5_undo_42 : decode cX5_undo 42 = .ok (.getfield 30, 3) := by decide +kernel
theorem dX5_undo_45 : decode cX5_undo 45 = .ok (.imul, 1) := by decide +kernel
theorem dX5_undo_46 : decode cX5_undo 46 = .ok (.iload_n 1, 1) := by decide +kernel
theorem dX5_undo_47 : decode cX5_undo 47 = .ok (.iadd, 1) := by decide +kernel
theorem dX5_undo_48 : decode cX5_undo 48 = .ok (.iaload, 1) := by decide +kernel
theorem dX5_undo_49 : decode cX5_undo 49 = .ok (.iastore, 1) := by decide +kernel
theorem dX5_undo_50 : decode cX5_undo 50 = .ok (.iinc 1 1, 3) := by decide +kernel
theorem dX5_undo_53 : decode cX5_undo 53 = .ok (.goto (-31), 3) := by decide +kernel
theorem dX5_undo_56 : decode cX5_undo 56 = .ok (.aload_n 0, 1) := by decide +kernel
theorem dX5_undo_57 : decode cX5_undo 57 = .ok (.getfield 30, 3) := by decide +kernel
theorem dX5_undo_60 : decode cX5_undo 60 = .ok (.ireturn, 1) := by decide +kernel
theorem dX5_save_0 : decode cX5_save 0 = .ok (.iload_n 1, 1) := by decide +kernel
theorem dX5_save_1 : decode cX5_save 1 = .ok (.iconst 0, 1) := by decide +kernel
theorem dX5_save_2 : decode cX5_save 2 = .ok (.iconst 1, 1) := by decide +kernel
theorem dX5_save_3 : decode cX5_save 3 = .ok (.invokestatic 34, 3) := by decide +kernel
theorem dX5_save_6 : decode cX5_save 6 = .ok (.ifCond .ne 5, 3) := by decide +kernel
theorem dX5_save_9 : decode cX5_save 9 = .ok (.iconst (-1), 1) := by decide +kernel
theorem dX5_save_10 : decode cX5_save 10 = .ok (.ireturn, 1) := by decide +kernel
theorem dX5_save_11 : decode cX5_save 11 = .ok (.iconst 0, 1) := by decide +kernel
theorem dX5_save_12 : decode cX5_save 12 = .ok (.istore_n 2, 1) := by decide +kernel
theorem dX5_save_13 : decode cX5_save 13 = .ok (.iload_n 2, 1) := by decide +kernel
theorem dX5_save_14 : decode cX5_save 14 = .ok (.sipush 194, 3) := by decide +kernel
theorem dX5_save_17 : decode cX5_save 17 = .ok (.if_icmp .ge 27, 3) := by decide +kernel
theorem dX5_save_20 : decode cX5_save 20 = .ok (.aload_n 0, 1) := by decide +kernel
theorem dX5_save_21 : decode cX5_save 21 = .ok (.getfield 16, 3) := by decide +kernel
theorem dX5_save_24 : decode cX5_save 24 = .ok (.sipush 194, 3) := by decide +kernel
theorem dX5_save_27 : decode cX5_save 27 = .ok (.iload_n 1, 1) := by decide +kernel
theorem dX5_save_28 : decode cX5_save 28 = .ok (.imul, 1) := by decide +kernel
theorem dX5_save_29 : decode cX5_save 29 = .ok (.iload_n 2, 1) := by decide +kernel
theorem dX5_save_30 : decode cX5_save 30 = .ok (.iadd, 1) := by decide +kernel
theorem dX5_save_31 : decode cX5_save 31 = .ok (.aload_n 0, 1) := by decide +kernel
theorem dX5_save_32 : decode cX5_save 32 = .ok (.getfield 7, 3) := by decide +kernel
theorem dX5_save_35 : decode cX5_save 35 = .ok (.iload_n 2, 1) := by decide +kernel
theorem dX5_save_36 : decode cX5_save 36 = .ok (.iaload, 1) := by decide +kernel
theorem dX5_save_37 : decode cX5_save 37 = .ok (.iastore, 1) := by decide +kernel
theorem dX5_save_38 : decode cX5_save 38 = .ok (.iinc 2 1, 3) := by decide +kernel
theorem dX5_save_41 : decode cX5_save 41 = .ok (.goto (-28), 3) := by decide +kernel
theorem dX5_save_44 : decode cX5_save 44 = .ok (.aload_n 0, 1) := by decide +kernel
theorem dX5_save_45 : decode cX5_save 45 = .ok (.getfield 19, 3) := by decide +kernel
theorem dX5_save_48 : decode cX5_save 48 = .ok (.iload_n 1, 1) := by decide +kernel
theorem dX5_save_49 : decode cX5_save 49 = .ok (.iconst 1, 1) := by decide +kernel
theorem dX5_save_50 : decode cX5_save 50 = .ok (.bastore, 1) := by decide +kernel
theorem dX5_save_51 : decode cX5_save 51 = .ok (.aload_n 0, 1) := by decide +kernel
theorem dX5_save_52 : decode cX5_save 52 = .ok (.invokevirtual 38, 3) := by decide +kernel
theorem dX5_save_55 : decode cX5_save 55 = .ok (.ireturn, 1) := by decide +kernel
theorem dX5_restore_0 : decode cX5_restore 0 = .ok (.iload_n 1, 1) := by decide +kernel
theorem dX5_restore_1 : decode cX5_restore 1 = .ok (.iconst 0, 1) := by decide +kernel
theorem dX5_restore_2 : decode cX5_restore 2 = .ok (.iconst 1, 1) := by decide +kernel
theorem dX5_restore_3 : decode cX5_restore 3 = .ok (.invokestatic 34, 3) := by decide +kernel
theorem dX5_restore_6 : decode cX5_restore 6 = .ok (.ifCond .ne 5, 3) := by decide +kernel
theorem dX5_restore_9 : decode cX5_restore 9 = .ok (.iconst (-1), 1) := by decide +kernel
theorem dX5_restore_10 : decode cX5_restore 10 = .ok (.ireturn, 1) := by decide +kernel
theorem dX5_restore_11 : decode cX5_restore 11 = .ok (.aload_n 0, 1) := by decide +kernel
theorem dX5_restore_12 : decode cX5_restore 12 = .ok (.getfield 19, 3) := by decide +kernel
theorem dX5_restore_15 : decode cX5_restore 15 = .ok (.iload_n 1, 1) := by decide +kernel
theorem dX5_restore_16 : decode cX5_restore 16 = .ok (.baload, 1) := by decide +kernel
theorem dX5_restore_17 : decode cX5_restore 17 = .ok (.ifCond .ne 6, 3) := by decide +kernel
theorem dX5_restore_20 : decode cX5_restore 20 = .ok (.bipush (-2), 2) := by decide +kernel
theorem dX5_restore_22 : decode cX5_restore 22 = .ok (.ireturn, 1) := by decide +kernel
theorem dX5_restore_23 : decode cX5_restore 23 = .ok (.iconst 0, 1) := by decide +kernel
theorem dX5_restore_24 : decode cX5_restore 24 = .ok (.istore_n 2, 1) := by decide +kernel
theorem dX5_restore_25 : decode cX5_restore 25 = .ok (.iload_n 2, 1) := by decide +kernel
theorem dX5_restore_26 : decode cX5_restore 26 = .ok (.sipush 194, 3) := by decide +kernel
theorem dX5_restore_29 : decode cX5_restore 29 = .ok (.if_icmp .ge 27, 3) := by decide +kernel
theorem dX5_restore_32 : decode cX5_restore 32 = .ok (.aload_n 0, 1) := by decide +kernel
theorem dX5_restore_33 : decode cX5_restore 33 = .ok (.getfield 7, 3) := by decide +kernel
theorem dX5_restore_36 : decode cX5_restore 36 = .ok (.iload_n 2, 1) := by decide +kernel
theorem dX5_restore_37 : decode cX5_restore 37 = .ok (.aload_n 0, 1) := by decide +kernel
theorem dX5_restore_38 : decode cX5_restore 38 = .ok (.getfield 16, 3) := by decide +kernel
theorem dX5_restore_41 : decode cX5_restore 41 = .ok (.sipush 194, 3) := by decide +kernel
theorem dX5_restore_44 : decode cX5_restore 44 = .ok (.iload_n 1, 1) := by decide +kernel
theorem dX5_restore_45 : decode cX5_restore 45 = .ok (.imul, 1) := by decide +kernel
theorem dX5_restore_46 : decode cX5_restore 46 = .ok (.iload_n 2, 1) := by decide +kernel
theorem dX5_restore_47 : decode cX5_restore 47 = .ok (.iadd, 1) := by decide +kernel
theorem dX5_restore_48 : decode cX5_restore 48 = .ok (.iaload, 1) := by decide +kernel
theorem dX5_restore_49 : decode cX5_restore 49 = .ok (.iastore, 1) := by decide +kernel
theorem dX5_restore_50 : decode cX5_restore 50 = .ok (.iinc 2 1, 3) := by decide +kernel
theorem dX5_restore_53 : decode cX5_restore 53 = .ok (.goto (-28), 3) := by decide +kernel
theorem dX5_restore_56 : decode cX5_restore 56 = .ok (.aload_n 0, 1) := by decide +kernel
theorem dX5_restore_57 : decode cX5_restore 57 = .ok (.iconst 0, 1) := by decide +kernel
theorem dX5_restore_58 : decode cX5_restore 58 = .ok (.putfield 30, 3) := by decide +kernel
theorem dX5_restore_61 : decode cX5_restore 61 = .ok (.aload_n 0, 1) := by decide +kernel
theorem dX5_restore_62 : decode cX5_restore 62 = .ok (.invokevirtual 38, 3) := by decide +kernel
theorem dX5_restore_65 : decode cX5_restore 65 = .ok (.ireturn, 1) := by decide +kernel
theorem dX5_cells_0 : decode cX5_cells 0 = .ok (.aload_n 0, 1) := by decide +kernel
theorem dX5_cells_1 : decode cX5_cells 1 = .ok (.getfield 7, 3) := by decide +kernel
theorem dX5_cells_4 : decode cX5_cells 4 = .ok (.iconst 0, 1) := by decide +kernel
theorem dX5_cells_5 : decode cX5_cells 5 = .ok (.iaload, 1) := by decide +kernel
theorem dX5_cells_6 : decode cX5_cells 6 = .ok (.aload_n 0, 1) := by decide +kernel
theorem dX5_cells_7 : decode cX5_cells 7 = .ok (.getfield 7, 3) := by decide +kernel
theorem dX5_cells_10 : decode cX5_cells 10 = .ok (.iconst 1, 1) := by decide +kernel
theorem dX5_cells_11 : decode cX5_cells 11 = .ok (.iaload, 1) := by decide +kernel
theorem dX5_cells_12 : decode cX5_cells 12 = .ok (.imul, 1) := by decide +kernel
theorem dX5_cells_13 : decode cX5_cells 13 = .ok (.ireturn, 1) := by decide +kernel
theorem dX5_isCell_0 : decode cX5_isCell 0 = .ok (.iload_n 1, 1) := by decide +kernel
theorem dX5_isCell_1 : decode cX5_isCell 1 = .ok (.iconst 0, 1) := by decide +kernel
theorem dX5_isCell_2 : decode cX5_isCell 2 = .ok (.aload_n 0, 1) := by decide +kernel
theorem dX5_isCell_3 : decode cX5_isCell 3 = .ok (.invokevirtual 42, 3) := by decide +kernel
theorem dX5_isCell_6 : decode cX5_isCell 6 = .ok (.iconst 1, 1) := by decide +kernel
theorem dX5_isCell_7 : decode cX5_isCell 7 = .ok (.isub, 1) := by decide +kernel
theorem dX5_isCell_8 : decode cX5_isCell 8 = .ok (.invokestatic 34, 3) := by decide +kernel
theorem dX5_isCell_11 : decode cX5_isCell 11 = .ok (.ireturn, 1) := by decide +kernel
theorem dX5_groups_0 : decode cX5_groups 0 = .ok (.aload_n 0, 1) := by decide +kernel
theorem dX5_groups_1 : decode cX5_groups 1 = .ok (.getfield 7, 3) := by decide +kernel
theorem dX5_groups_4 : decode cX5_groups 4 = .ok (.iconst 2, 1) := by decide +kernel
theorem dX5_groups_5 : decode cX5_groups 5 = .ok (.iaload, 1) := by decide +kernel
theorem dX5_groups_6 : decode cX5_groups 6 = .ok (.iconst 2, 1) := by decide +kernel
theorem dX5_groups_7 : decode cX5_groups 7 = .ok (.if_icmp .ne 7, 3) := by decide +kernel
theorem dX5_groups_10 : decode cX5_groups 10 = .ok (.iconst 3, 1) := by decide +kernel
theorem dX5_groups_11 : decode cX5_groups 11 = .ok (.goto 5, 3) := by decide +kernel
theorem dX5_groups_14 : decode cX5_groups 14 = .ok (.bipush 7, 2) := by decide +kernel
theorem dX5_groups_16 : decode cX5_groups 16 = .ok (.ireturn, 1) := by decide +kernel
theorem dX5_channels_0 : decode cX5_channels 0 = .ok (.aload_n 0, 1) := by decide +kernel
theorem dX5_channels_1 : decode cX5_channels 1 = .ok (.invokevirtual 45, 3) := by decide +kernel
theorem dX5_channels_4 : decode cX5_channels 4 = .ok (.aload_n 0, 1) := by decide +kernel
theorem dX5_channels_5 : decode cX5_channels 5 = .ok (.getfield 7, 3) := by decide +kernel
theorem dX5_channels_8 : decode cX5_channels 8 = .ok (.iconst 3, 1) := by decide +kernel
theorem dX5_channels_9 : decode cX5_channels 9 = .ok (.iaload, 1) := by decide +kernel
theorem dX5_channels_10 : decode cX5_channels 10 = .ok (.imul, 1) := by decide +kernel
theorem dX5_channels_11 : decode cX5_channels 11 = .ok (.ireturn, 1) := by decide +kernel
theorem dX5_isChannel_0 : decode cX5_isChannel 0 = .ok (.iload_n 1, 1) := by decide +kernel
theorem dX5_isChannel_1 : decode cX5_isChannel 1 = .ok (.iconst 0, 1) := by decide +kernel
theorem dX5_isChannel_2 : decode cX5_isChannel 2 = .ok (.aload_n 0, 1) := by decide +kernel
theorem dX5_isChannel_3 : decode cX5_isChannel 3 = .ok (.invokevirtual 48, 3) := by decide +kernel
theorem dX5_isChannel_6 : decode cX5_isChannel 6 = .ok (.iconst 1, 1) := by decide +kernel
theorem dX5_isChannel_7 : decode cX5_isChannel 7 = .ok (.isub, 1) := by decide +kernel
theorem dX5_isChannel_8 : decode cX5_isChannel 8 = .ok (.invokestatic 34, 3) := by decide +kernel
theorem dX5_isChannel_11 : decode cX5_isChannel 11 = .ok (.ireturn, 1) := by decide +kernel
theorem dX5_group_0 : decode cX5_group 0 = .ok (.iload_n 1, 1) := by decide +kernel
theorem dX5_group_1 : decode cX5_group 1 = .ok (.aload_n 0, 1) := by decide +kernel
theorem dX5_group_2 : decode cX5_group 2 = .ok (.getfield 7, 3) := by decide +kernel
theorem dX5_group_5 : decode cX5_group 5 = .ok (.iconst 1, 1) := by decide +kernel
theorem dX5_group_6 : decode cX5_group 6 = .ok (.iaload, 1) := by decide +kernel
theorem dX5_group_7 : decode cX5_group 7 = .ok (.idiv, 1) := by decide +kernel
theorem dX5_group_8 : decode cX5_group 8 = .ok (.istore_n 2, 1) := by decide +kernel
theorem dX5_group_9 : decode cX5_group 9 = .ok (.iload_n 1, 1) := by decide +kernel
theorem dX5_group_10 : decode cX5_group 10 = .ok (.aload_n 0, 1) := by decide +kernel
theorem dX5_group_11 : decode cX5_group 11 = .ok (.getfield 7, 3) := by decide +kernel
theorem dX5_group_14 : decode cX5_group 14 = .ok (.iconst 1, 1) := by decide +kernel
theorem dX5_group_15 : decode cX5_group 15 = .ok (.iaload, 1) := by decide +kernel
theorem dX5_group_16 : decode cX5_group 16 = .ok (.irem, 1) := by decide +kernel
theorem dX5_group_17 : decode cX5_group 17 = .ok (.istore_n 3, 1) := by decide +kernel
theorem dX5_group_18 : decode cX5_group 18 = .ok (.aload_n 0, 1) := by decide +kernel
theorem dX5_group_19 : decode cX5_group 19 = .ok (.getfield 7, 3) := by decide +kernel
