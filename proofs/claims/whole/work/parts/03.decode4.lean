theorem dX5_burden_10 : decode cX5_burden 10 = .ok (.invokevirtual 138, 3) := by decide +kernel
theorem dX5_burden_13 : decode cX5_burden 13 = .ok (.ifCond .eq 12, 3) := by decide +kernel
theorem dX5_burden_16 : decode cX5_burden 16 = .ok (.aload_n 0, 1) := by decide +kernel
theorem dX5_burden_17 : decode cX5_burden 17 = .ok (.iload_n 1, 1) := by decide +kernel
theorem dX5_burden_18 : decode cX5_burden 18 = .ok (.iload_n 2, 1) := by decide +kernel
theorem dX5_burden_19 : decode cX5_burden 19 = .ok (.invokevirtual 84, 3) := by decide +kernel
theorem dX5_burden_22 : decode cX5_burden 22 = .ok (.goto 4, 3) := by decide +kernel
theorem dX5_burden_25 : decode cX5_burden 25 = .ok (.iconst (-1), 1) := by decide +kernel
theorem dX5_burden_26 : decode cX5_burden 26 = .ok (.ireturn, 1) := by decide +kernel
theorem dX5_availableCount_0 : decode cX5_availableCount 0 = .ok (.aload_n 0, 1) := by decide +kernel
theorem dX5_availableCount_1 : decode cX5_availableCount 1 = .ok (.iload_n 1, 1) := by decide +kernel
theorem dX5_availableCount_2 : decode cX5_availableCount 2 = .ok (.invokevirtual 119, 3) := by decide +kernel
theorem dX5_availableCount_5 : decode cX5_availableCount 5 = .ok (.ifCond .eq 11, 3) := by decide +kernel
theorem dX5_availableCount_8 : decode cX5_availableCount 8 = .ok (.aload_n 0, 1) := by decide +kernel
theorem dX5_availableCount_9 : decode cX5_availableCount 9 = .ok (.iload_n 1, 1) := by decide +kernel
theorem dX5_availableCount_10 : decode cX5_availableCount 10 = .ok (.invokevirtual 81, 3) := by decide +kernel
theorem dX5_availableCount_13 : decode cX5_availableCount 13 = .ok (.goto 4, 3) := by decide +kernel
theorem dX5_availableCount_16 : decode cX5_availableCount 16 = .ok (.iconst (-1), 1) := by decide +kernel
theorem dX5_availableCount_17 : decode cX5_availableCount 17 = .ok (.ireturn, 1) := by decide +kernel
theorem dX5_usedCount_0 : decode cX5_usedCount 0 = .ok (.aload_n 0, 1) := by decide +kernel
theorem dX5_usedCount_1 : decode cX5_usedCount 1 = .ok (.iload_n 1, 1) := by decide +kernel
theorem dX5_usedCount_2 : decode cX5_usedCount 2 = .ok (.invokevirtual 119, 3) := by decide +kernel
theorem dX5_usedCount_5 : decode cX5_usedCount 5 = .ok (.ifCond .ne 5, 3) := by decide +kernel
theorem dX5_usedCount_8 : decode cX5_usedCount 8 = .ok (.iconst (-1), 1) := by decide +kernel
theorem dX5_usedCount_9 : decode cX5_usedCount 9 = .ok (.ireturn, 1) := by decide +kernel
theorem dX5_usedCount_10 : decode cX5_usedCount 10 = .ok (.iconst 0, 1) := by decide +kernel
theorem dX5_usedCount_11 : decode cX5_usedCount 11 = .ok (.istore_n 2, 1) := by decide +kernel
theorem dX5_usedCount_12 : decode cX5_usedCount 12 = .ok (.iconst 0, 1) := by decide +kernel
theorem dX5_usedCount_13 : decode cX5_usedCount 13 = .ok (.istore_n 3, 1) := by decide +kernel
theorem dX5_usedCount_14 : decode cX5_usedCount 14 = .ok (.iload_n 3, 1) := by decide +kernel
theorem dX5_usedCount_15 : decode cX5_usedCount 15 = .ok (.aload_n 0, 1) := by decide +kernel
theorem dX5_usedCount_16 : decode cX5_usedCount 16 = .ok (.invokevirtual 48, 3) := by decide +kernel
theorem dX5_usedCount_19 : decode cX5_usedCount 19 = .ok (.if_icmp .ge 26, 3) := by decide +kernel
theorem dX5_usedCount_22 : decode cX5_usedCount 22 = .ok (.iload_n 2, 1) := by decide +kernel
theorem dX5_usedCount_23 : decode cX5_usedCount 23 = .ok (.aload_n 0, 1) := by decide +kernel
theorem dX5_usedCount_24 : decode cX5_usedCount 24 = .ok (.iload_n 1, 1) := by decide +kernel
theorem dX5_usedCount_25 : decode cX5_usedCount 25 = .ok (.iload_n 3, 1) := by decide +kernel
theorem dX5_usedCount_26 : decode cX5_usedCount 26 = .ok (.invokevirtual 62, 3) := by decide +kernel
theorem dX5_usedCount_29 : decode cX5_usedCount 29 = .ok (.ifCond .eq 7, 3) := by decide +kernel
theorem dX5_usedCount_32 : decode cX5_usedCount 32 = .ok (.iconst 1, 1) := by decide +kernel
theorem dX5_usedCount_33 : decode cX5_usedCount 33 = .ok (.goto 4, 3) := by decide +kernel
theorem dX5_usedCount_36 : decode cX5_usedCount 36 = .ok (.iconst 0, 1) := by decide +kernel
theorem dX5_usedCount_37 : decode cX5_usedCount 37 = .ok (.iadd, 1) := by decide +kernel
theorem dX5_usedCount_38 : decode cX5_usedCount 38 = .ok (.istore_n 2, 1) := by decide +kernel
theorem dX5_usedCount_39 : decode cX5_usedCount 39 = .ok (.iinc 3 1, 3) := by decide +kernel
theorem dX5_usedCount_42 : decode cX5_usedCount 42 = .ok (.goto (-28), 3) := by decide +kernel
theorem dX5_usedCount_45 : decode cX5_usedCount 45 = .ok (.iload_n 2, 1) := by decide +kernel
theorem dX5_usedCount_46 : decode cX5_usedCount 46 = .ok (.ireturn, 1) := by decide +kernel
theorem dX5_lockedCount_0 : decode cX5_lockedCount 0 = .ok (.aload_n 0, 1) := by decide +kernel
theorem dX5_lockedCount_1 : decode cX5_lockedCount 1 = .ok (.iload_n 1, 1) := by decide +kernel
theorem dX5_lockedCount_2 : decode cX5_lockedCount 2 = .ok (.invokevirtual 119, 3) := by decide +kernel
theorem dX5_lockedCount_5 : decode cX5_lockedCount 5 = .ok (.ifCond .ne 5, 3) := by decide +kernel
theorem dX5_lockedCount_8 : decode cX5_lockedCount 8 = .ok (.iconst (-1), 1) := by decide +kernel
theorem dX5_lockedCount_9 : decode cX5_lockedCount 9 = .ok (.ireturn, 1) := by decide +kernel
theorem dX5_lockedCount_10 : decode cX5_lockedCount 10 = .ok (.iconst 0, 1) := by decide +kernel
theorem dX5_lockedCount_11 : decode cX5_lockedCount 11 = .ok (.istore_n 2, 1) := by decide +kernel
theorem dX5_lockedCount_12 : decode cX5_lockedCount 12 = .ok (.iconst 0, 1) := by decide +kernel
theorem dX5_lockedCount_13 : decode cX5_lockedCount 13 = .ok (.istore_n 3, 1) := by decide +kernel
theorem dX5_lockedCount_14 : decode cX5_lockedCount 14 = .ok (.iload_n 3, 1) := by decide +kernel
theorem dX5_lockedCount_15 : decode cX5_lockedCount 15 = .ok (.aload_n 0, 1) := by decide +kernel
theorem dX5_lockedCount_16 : decode cX5_lockedCount 16 = .ok (.invokevirtual 48, 3) := by decide +kernel
theorem dX5_lockedCount_19 : decode cX5_lockedCount 19 = .ok (.if_icmp .ge 44, 3) := by decide +kernel
theorem dX5_lockedCount_22 : decode cX5_lockedCount 22 = .ok (.iload_n 2, 1) := by decide +kernel
theorem dX5_lockedCount_23 : decode cX5_lockedCount 23 = .ok (.aload_n 0, 1) := by decide +kernel
theorem dX5_lockedCount_24 : decode cX5_lockedCount 24 = .ok (.iload_n 1, 1) := by decide +kernel
theorem dX5_lockedCount_25 : decode cX5_lockedCount 25 = .ok (.iload_n 3, 1) := by decide +kernel
theorem dX5_lockedCount_26 : decode cX5_lockedCount 26 = .ok (.invokevirtual 69, 3) := by decide +kernel
theorem dX5_lockedCount_29 : decode cX5_lockedCount 29 = .ok (.ifCond .eq 25, 3) := by decide +kernel
theorem dX5_lockedCount_32 : decode cX5_lockedCount 32 = .ok (.aload_n 0, 1) := by decide +kernel
theorem dX5_lockedCount_33 : decode cX5_lockedCount 33 = .ok (.iload_n 1, 1) := by decide +kernel
theorem dX5_lockedCount_34 : decode cX5_lockedCount 34 = .ok (.iload_n 3, 1) := by decide +kernel
theorem dX5_lockedCount_35 : decode cX5_lockedCount 35 = .ok (.invokevirtual 62, 3) := by decide +kernel
theorem dX5_lockedCount_38 : decode cX5_lockedCount 38 = .ok (.ifCond .ne 16, 3) := by decide +kernel
theorem dX5_lockedCount_41 : decode cX5_lockedCount 41 = .ok (.aload_n 0, 1) := by decide +kernel
theorem dX5_lockedCount_42 : decode cX5_lockedCount 42 = .ok (.iload_n 1, 1) := by decide +kernel
theorem dX5_lockedCount_43 : decode cX5_lockedCount 43 = .ok (.iload_n 3, 1) := by decide +kernel
theorem dX5_lockedCount_44 : decode cX5_lockedCount 44 = .ok (.invokevirtual 66, 3) := by decide +kernel
theorem dX5_lockedCount_47 : decode cX5_lockedCount 47 = .ok (.ifCond .le 7, 3) := by decide +kernel
theorem dX5_lockedCount_50 : decode cX5_lockedCount 50 = .ok (.iconst 1, 1) := by decide +kernel
theorem dX5_lockedCount_51 : decode cX5_lockedCount 51 = .ok (.goto 4, 3) := by decide +kernel
theorem dX5_lockedCount_54 : decode cX5_lockedCount 54 = .ok (.iconst 0, 1) := by decide +kernel
theorem dX5_lockedCount_55 : decode cX5_lockedCount 55 = .ok (.iadd, 1) := by decide +kernel
theorem dX5_lockedCount_56 : decode cX5_lockedCount 56 = .ok (.istore_n 2, 1) := by decide +kernel
theorem dX5_lockedCount_57 : decode cX5_lockedCount 57 = .ok (.iinc 3 1, 3) := by decide +kernel
theorem dX5_lockedCount_60 : decode cX5_lockedCount 60 = .ok (.goto (-46), 3) := by decide +kernel
theorem dX5_lockedCount_63 : decode cX5_lockedCount 63 = .ok (.iload_n 2, 1) := by decide +kernel
theorem dX5_lockedCount_64 : decode cX5_lockedCount 64 = .ok (.ireturn, 1) := by decide +kernel
theorem dX5_nextChannel_0 : decode cX5_nextChannel 0 = .ok (.aload_n 0, 1) := by decide +kernel
theorem dX5_nextChannel_1 : decode cX5_nextChannel 1 = .ok (.iload_n 1, 1) := by decide +kernel
theorem dX5_nextChannel_2 : decode cX5_nextChannel 2 = .ok (.invokevirtual 119, 3) := by decide +kernel
theorem dX5_nextChannel_5 : decode cX5_nextChannel 5 = .ok (.ifCond .eq 11, 3) := by decide +kernel
theorem dX5_nextChannel_8 : decode cX5_nextChannel 8 = .ok (.aload_n 0, 1) := by decide +kernel
theorem dX5_nextChannel_9 : decode cX5_nextChannel 9 = .ok (.iload_n 1, 1) := by decide +kernel
theorem dX5_nextChannel_10 : decode cX5_nextChannel 10 = .ok (.invokevirtual 91, 3) := by decide +kernel
theorem dX5_nextChannel_13 : decode cX5_nextChannel 13 = .ok (.goto 4, 3) := by decide +kernel
theorem dX5_nextChannel_16 : decode cX5_nextChannel 16 = .ok (.iconst (-1), 1) := by decide +kernel
theorem dX5_nextChannel_17 : decode cX5_nextChannel 17 = .ok (.ireturn, 1) := by decide +kernel
theorem dX5_nextDonor_0 : decode cX5_nextDonor 0 = .ok (.aload_n 0, 1) := by decide +kernel
theorem dX5_nextDonor_1 : decode cX5_nextDonor 1 = .ok (.iload_n 1, 1) := by decide +kernel
theorem dX5_nextDonor_2 : decode cX5_nextDonor 2 = .ok (.invokevirtual 119, 3) := by decide +kernel
theorem dX5_nextDonor_5 : decode cX5_nextDonor 5 = .ok (.ifCond .ne 5, 3) := by decide +kernel
theorem dX5_nextDonor_8 : decode cX5_nextDonor 8 = .ok (.iconst (-1), 1) := by decide +kernel
theorem dX5_nextDonor_9 : decode cX5_nextDonor 9 = .ok (.ireturn, 1) := by decide +kernel
theorem dX5_nextDonor_10 : decode cX5_nextDonor 10 = .ok (.aload_n 0, 1) := by decide +kernel
theorem dX5_nextDonor_11 : decode cX5_nextDonor 11 = .ok (.iload_n 1, 1) := by decide +kernel
theorem dX5_nextDonor_12 : decode cX5_nextDonor 12 = .ok (.invokevirtual 91, 3) := by decide +kernel
theorem dX5_nextDonor_15 : decode cX5_nextDonor 15 = .ok (.istore_n 2, 1) := by decide +kernel
theorem dX5_nextDonor_16 : decode cX5_nextDonor 16 = .ok (.iload_n 2, 1) := by decide +kernel
theorem dX5_nextDonor_17 : decode cX5_nextDonor 17 = .ok (.bipush (-9), 2) := by decide +kernel
theorem dX5_nextDonor_19 : decode cX5_nextDonor 19 = .ok (.if_icmp .ne 8, 3) := by decide +kernel
theorem dX5_nextDonor_22 : decode cX5_nextDonor 22 = .ok (.bipush (-9), 2) := by decide +kernel
theorem dX5_nextDonor_24 : decode cX5_nextDonor 24 = .ok (.goto 7, 3) := by decide +kernel
theorem dX5_nextDonor_27 : decode cX5_nextDonor 27 = .ok (.aload_n 0, 1) := by decide +kernel
theorem dX5_nextDonor_28 : decode cX5_nextDonor 28 = .ok (.getfield 75, 3) := by decide +kernel
theorem dX5_nextDonor_31 : decode cX5_nextDonor 31 = .ok (.ireturn, 1) := by decide +kernel
theorem dX5_blockingCells_0 : decode cX5_blockingCells 0 = .ok (.iconst 0, 1) := by decide +kernel
theorem dX5_blockingCells_1 : decode cX5_blockingCells 1 = .ok (.istore_n 1, 1) := by decide +kernel
theorem dX5_blockingCells_2 : decode cX5_blockingCells 2 = .ok (.iconst 0, 1) := by decide +kernel
theorem dX5_blockingCells_3 : decode cX5_blockingCells 3 = .ok (.istore_n 2, 1) := by decide +kernel
theorem dX5_blockingCells_4 : decode cX5_blockingCells 4 = .ok (.iload_n 2, 1) := by decide +kernel
theorem dX5_blockingCells_5 : decode cX5_blockingCells 5 = .ok (.aload_n 0, 1) := by decide +kernel
theorem dX5_blockingCells_6 : decode cX5_blockingCells 6 = .ok (.invokevirtual 42, 3) := by decide +kernel
theorem dX5_blockingCells_9 : decode cX5_blockingCells 9 = .ok (.if_icmp .ge 27, 3) := by decide +kernel
theorem dX5_blockingCells_12 : decode cX5_blockingCells 12 = .ok (.iload_n 1, 1) := by decide +kernel
theorem dX5_blockingCells_13 : decode cX5_blockingCells 13 = .ok (.aload_n 0, 1) := by decide +kernel
theorem dX5_blockingCells_14 : decode cX5_blockingCells 14 = .ok (.iload_n 2, 1) := by decide +kernel
theorem dX5_blockingCells_15 : decode cX5_blockingCells 15 = .ok (.invokevirtual 91, 3) := by decide +kernel
theorem dX5_blockingCells_18 : decode cX5_blockingCells 18 = .ok (.bipush (-9), 2) := by decide +kernel
theorem dX5_blockingCells_20 : decode cX5_blockingCells 20 = .ok (.if_icmp .ne 7, 3) := by decide +kernel
theorem dX5_blockingCells_23 : decode cX5_blockingCells 23 = .ok (.iconst 1, 1) := by decide +kernel
theorem dX5_blockingCells_24 : decode cX5_blockingCells 24 = .ok (.goto 4, 3) := by decide +kernel
theorem dX5_blockingCells_27 : decode cX5_blockingCells 27 = .ok (.iconst 0, 1) := by decide +kernel
theorem dX5_blockingCells_28 : decode cX5_blockingCells 28 = .ok (.iadd, 1) := by decide +kernel
theorem dX5_blockingCells_29 : decode cX5_blockingCells 29 = .ok (.istore_n 1, 1) := by decide +kernel
theorem dX5_blockingCells_30 : decode cX5_blockingCells 30 = .ok (.iinc 2 1, 3) := by decide +kernel
theorem dX5_blockingCells_33 : decode cX5_blockingCells 33 = .ok (.goto (-29), 3) := by decide +kernel
theorem dX5_blockingCells_36 : decode cX5_blockingCells 36 = .ok (.iload_n 1, 1) := by decide +kernel
theorem dX5_blockingCells_37 : decode cX5_blockingCells 37 = .ok (.ireturn, 1) := by decide +kernel
theorem dX5_callCount_0 : decode cX5_callCount 0 = .ok (.aload_n 0, 1) := by decide +kernel
theorem dX5_callCount_1 : decode cX5_callCount 1 = .ok (.invokevirtual 38, 3) := by decide +kernel
theorem dX5_callCount_4 : decode cX5_callCount 4 = .ok (.ireturn, 1) := by decide +kernel
theorem dX5_attempts_0 : decode cX5_attempts 0 = .ok (.aload_n 0, 1) := by decide +kernel
theorem dX5_attempts_1 : decode cX5_attempts 1 = .ok (.getfield 7, 3) := by decide +kernel
theorem dX5_attempts_4 : decode cX5_attempts 4 = .ok (.bipush 7, 2) := by decide +kernel
theorem dX5_attempts_6 : decode cX5_attempts 6 = .ok (.iaload, 1) := by decide +kernel
theorem dX5_attempts_7 : decode cX5_attempts 7 = .ok (.ireturn, 1) := by decide +kernel
theorem dX5_blocked_0 : decode cX5_blocked 0 = .ok (.aload_n 0, 1) := by decide +kernel
theorem dX5_blocked_1 : decode cX5_blocked 1 = .ok (.getfield 7, 3) := by decide +kernel
theorem dX5_blocked_4 : decode cX5_blocked 4 = .ok (.bipush 8, 2) := by decide +kernel
theorem dX5_blocked_6 : decode cX5_blocked 6 = .ok (.iaload, 1) := by decide +kernel
theorem dX5_blocked_7 : decode cX5_blocked 7 = .ok (.ireturn, 1) := by decide +kernel
theorem dX5_blockedInFixedScheme_0 : decode cX5_blockedInFixedScheme 0 = .ok (.aload_n 0, 1) := by decide +kernel
theorem dX5_blockedInFixedScheme_1 : decode cX5_blockedInFixedScheme 1 = .ok (.getfield 7, 3) := by decide +kernel
theorem dX5_blockedInFixedScheme_4 : decode cX5_blockedInFixedScheme 4 = .ok (.bipush 9, 2) := by decide +kernel
theorem dX5_blockedInFixedScheme_6 : decode cX5_blockedInFixedScheme 6 = .ok (.iaload, 1) := by decide +kernel
theorem dX5_blockedInFixedScheme_7 : decode cX5_blockedInFixedScheme 7 = .ok (.ireturn, 1) := by decide +kernel
theorem dX5_dropped_0 : decode cX5_dropped 0 = .ok (.aload_n 0, 1) := by decide +kernel
theorem dX5_dropped_1 : decode cX5_dropped 1 = .ok (.getfield 7, 3) := by decide +kernel
theorem dX5_dropped_4 : decode cX5_dropped 4 = .ok (.bipush 10, 2) := by decide +kernel
theorem dX5_dropped_6 : decode cX5_dropped 6 = .ok (.iaload, 1) := by decide +kernel
theorem dX5_dropped_7 : decode cX5_dropped 7 = .ok (.ireturn, 1) := by decide +kernel
theorem dX5_droppedInFixedScheme_0 : decode cX5_droppedInFixedScheme 0 = .ok (.aload_n 0, 1) := by decide +kernel
theorem dX5_droppedInFixedScheme_1 : decode cX5_droppedInFixedScheme 1 = .ok (.getfield 7, 3) := by decide +kernel
theorem dX5_droppedInFixedScheme_4 : decode cX5_droppedInFixedScheme 4 = .ok (.bipush 11, 2) := by decide +kernel
theorem dX5_droppedInFixedScheme_6 : decode cX5_droppedInFixedScheme 6 = .ok (.iaload, 1) := by decide +kernel
theorem dX5_droppedInFixedScheme_7 : decode cX5_droppedInFixedScheme 7 = .ok (.ireturn, 1) := by decide +kernel
theorem dX5_borrowings_0 : decode cX5_borrowings 0 = .ok (.aload_n 0, 1) := by decide +kernel
theorem dX5_borrowings_1 : decode cX5_borrowings 1 = .ok (.getfield 7, 3) := by decide +kernel
theorem dX5_borrowings_4 : decode cX5_borrowings 4 = .ok (.bipush 12, 2) := by decide +kernel
theorem dX5_borrowings_6 : decode cX5_borrowings 6 = .ok (.iaload, 1) := by decide +kernel
theorem dX5_borrowings_7 : decode cX5_borrowings 7 = .ok (.ireturn, 1) := by decide +kernel
theorem dX5_returns_0 : decode cX5_returns 0 = .ok (.aload_n 0, 1) := by decide +kernel
theorem dX5_returns_1 : decode cX5_returns 1 = .ok (.getfield 7, 3) := by decide +kernel
theorem dX5_returns_4 : decode cX5_returns 4 = .ok (.bipush 13, 2) := by decide +kernel
theorem dX5_returns_6 : decode cX5_returns 6 = .ok (.iaload, 1) := by decide +kernel
theorem dX5_returns_7 : decode cX5_returns 7 = .ok (.ireturn, 1) := by decide +kernel
theorem dX5_appendCharacter_0 : decode cX5_appendCharacter 0 = .ok (.iload_n 1, 1) := by decide +kernel
theorem dX5_appendCharacter_1 : decode cX5_appendCharacter 1 = .ok (.iconst 0, 1) := by decide +kernel
theorem dX5_appendCharacter_2 : decode cX5_appendCharacter 2 = .ok (.sipush 255, 3) := by decide +kernel
theorem dX5_appendCharacter_5 : decode cX5_appendCharacter 5 = .ok (.invokestatic 34, 3) := by decide +kernel
theorem dX5_appendCharacter_8 : decode cX5_appendCharacter 8 = .ok (.ifCond .ne 5, 3) := by decide +kernel
theorem dX5_appendCharacter_11 : decode cX5_appendCharacter 11 = .ok (.iconst (-1), 1) := by decide +kernel
theorem dX5_appendCharacter_12 : decode cX5_appendCharacter 12 = .ok (.ireturn, 1) := by decide +kernel
theorem dX5_appendCharacter_13 : decode cX5_appendCharacter 13 = .ok (.aload_n 0, 1) := by decide +kernel
theorem dX5_appendCharacter_14 : decode cX5_appendCharacter 14 = .ok (.getfield 141, 3) := by decide +kernel
theorem dX5_appendCharacter_17 : decode cX5_appendCharacter 17 = .ok (.bipush 100, 2) := by decide +kernel
theorem dX5_appendCharacter_19 : decode cX5_appendCharacter 19 = .ok (.if_icmp .ne 6, 3) := by decide +kernel
theorem dX5_appendCharacter_22 : decode cX5_appendCharacter 22 = .ok (.bipush (-3), 2) := by decide +kernel
theorem dX5_appendCharacter_24 : decode cX5_appendCharacter 24 = .ok (.ireturn, 1) := by decide +kernel
theorem dX5_appendCharacter_25 : decode cX5_appendCharacter 25 = .ok (.aload_n 0, 1) := by decide +kernel
theorem dX5_appendCharacter_26 : decode cX5_appendCharacter 26 = .ok (.getfield 23, 3) := by decide +kernel
theorem dX5_appendCharacter_29 : decode cX5_appendCharacter 29 = .ok (.aload_n 0, 1) := by decide +kernel
theorem dX5_appendCharacter_30 : decode cX5_appendCharacter 30 = .ok (.getfield 141, 3) := by decide +kernel
theorem dX5_appendCharacter_33 : decode cX5_appendCharacter 33 = .ok (.iload_n 1, 1) := by decide +kernel
theorem dX5_appendCharacter_34 : decode cX5_appendCharacter 34 = .ok (.i2b, 1) := by decide +kernel
theorem dX5_appendCharacter_35 : decode cX5_appendCharacter 35 = .ok (.bastore, 1) := by decide +kernel
theorem dX5_appendCharacter_36 : decode cX5_appendCharacter 36 = .ok (.aload_n 0, 1) := by decide +kernel
theorem dX5_appendCharacter_37 : decode cX5_appendCharacter 37 = .ok (.dup, 1) := by decide +kernel
theorem dX5_appendCharacter_38 : decode cX5_appendCharacter 38 = .ok (.getfield 141, 3) := by decide +kernel
theorem dX5_appendCharacter_41 : decode cX5_appendCharacter 41 = .ok (.iconst 1, 1) := by decide +kernel
theorem dX5_appendCharacter_42 : decode cX5_appendCharacter 42 = .ok (.iadd, 1) := by decide +kernel
theorem dX5_appendCharacter_43 : decode cX5_appendCharacter 43 = .ok (.putfield 141, 3) := by decide +kernel
theorem dX5_appendCharacter_46 : decode cX5_appendCharacter 46 = .ok (.aload_n 0, 1) := by decide +kernel
theorem dX5_appendCharacter_47 : decode cX5_appendCharacter 47 = .ok (.getfield 141, 3) := by decide +kernel
theorem dX5_appendCharacter_50 : decode cX5_appendCharacter 50 = .ok (.ireturn, 1) := by decide +kernel
theorem dX5_clearText_0 : decode cX5_clearText 0 = .ok (.aload_n 0, 1) := by decide +kernel
theorem dX5_clearText_1 : decode cX5_clearText 1 = .ok (.getfield 141, 3) := by decide +kernel
theorem dX5_clearText_4 : decode cX5_clearText 4 = .ok (.istore_n 1, 1) := by decide +kernel
theorem dX5_clearText_5 : decode cX5_clearText 5 = .ok (.aload_n 0, 1) := by decide +kernel
theorem dX5_clearText_6 : decode cX5_clearText 6 = .ok (.iconst 0, 1) := by decide +kernel
theorem dX5_clearText_7 : decode cX5_clearText 7 = .ok (.putfield 141, 3) := by decide +kernel
theorem dX5_clearText_10 : decode cX5_clearText 10 = .ok (.iload_n 1, 1) := by decide +kernel
theorem dX5_clearText_11 : decode cX5_clearText 11 = .ok (.ireturn, 1) := by decide +kernel
theorem dX5_here_0 : decode cX5_here 0 = .ok (.aload_n 0, 1) := by decide +kernel
theorem dX5_here_1 : decode cX5_here 1 = .ok (.getfield 144, 3) := by decide +kernel
theorem dX5_here_4 : decode cX5_here 4 = .ok (.aload_n 0, 1) := by decide +kernel
theorem dX5_here_5 : decode cX5_here 5 = .ok (.getfield 141, 3) := by decide +kernel
theorem dX5_here_8 : decode cX5_here 8 = .ok (.if_icmp .ge 19, 3) := by decide +kernel
theorem dX5_here_11 : decode cX5_here 11 = .ok (.aload_n 0, 1) := by decide +kernel
theorem dX5_here_12 : decode cX5_here 12 = .ok (.getfield 23, 3) := by decide +kernel
theorem dX5_here_15 : decode cX5_here 15 = .ok (.aload_n 0, 1) := by decide +kernel
theorem dX5_here_16 : decode cX5_here 16 = .ok (.getfield 144, 3) := by decide +kernel
theorem dX5_here_19 : decode cX5_here 19 = .ok (.baload, 1) := by decide +kernel
theorem dX5_here_20 : decode cX5_here 20 = .ok (.sipush 255, 3) := by decide +kernel
theorem dX5_here_23 : decode cX5_here 23 = .ok (.iand, 1) := by decide +kernel
theorem dX5_here_24 : decode cX5_here 24 = .ok (.goto 4, 3) := by decide +kernel
theorem dX5_here_27 : decode cX5_here 27 = .ok (.iconst (-1), 1) := by decide +kernel
theorem dX5_here_28 : decode cX5_here 28 = .ok (.ireturn, 1) := by decide +kernel
theorem dX5_skip_0 : decode cX5_skip 0 = .ok (.aload_n 0, 1) := by decide +kernel
theorem dX5_skip_1 : decode cX5_skip 1 = .ok (.invokevirtual 147, 3) := by decide +kernel
theorem dX5_skip_4 : decode cX5_skip 4 = .ok (.bipush 32, 2) := by decide +kernel
theorem dX5_skip_6 : decode cX5_skip 6 = .ok (.if_icmp .ne 16, 3) := by decide +kernel
theorem dX5_skip_9 : decode cX5_skip 9 = .ok (.aload_n 0, 1) := by decide +kernel
theorem dX5_skip_10 : decode cX5_skip 10 = .ok (.dup, 1) := by decide +kernel
theorem dX5_skip_11 : decode cX5_skip 11 = .ok (.getfield 144, 3) := by decide +kernel
theorem dX5_skip_14 : decode cX5_skip 14 = .ok (.iconst 1, 1) := by decide +kernel
theorem dX5_skip_15 : decode cX5_skip 15 = .ok (.iadd, 1) := by decide +kernel
theorem dX5_skip_16 : decode cX5_skip 16 = .ok (.putfield 144, 3) := by decide +kernel
theorem dX5_skip_19 : decode cX5_skip 19 = .ok (.goto (-19), 3) := by decide +kernel
theorem dX5_skip_22 : decode cX5_skip 22 = .ok (.return_, 1) := by decide +kernel
theorem dX5_expect_0 : decode cX5_expect 0 = .ok (.aload_n 0, 1) := by decide +kernel
theorem dX5_expect_1 : decode cX5_expect 1 = .ok (.invokevirtual 150, 3) := by decide +kernel
theorem dX5_expect_4 : decode cX5_expect 4 = .ok (.aload_n 0, 1) := by decide +kernel
theorem dX5_expect_5 : decode cX5_expect 5 = .ok (.getfield 153, 3) := by decide +kernel
theorem dX5_expect_8 : decode cX5_expect 8 = .ok (.ifCond .ne 41, 3) := by decide +kernel
theorem dX5_expect_11 : decode cX5_expect 11 = .ok (.aload_n 0, 1) := by decide +kernel
theorem dX5_expect_12 : decode cX5_expect 12 = .ok (.aload_n 0, 1) := by decide +kernel
theorem dX5_expect_13 : decode cX5_expect 13 = .ok (.invokevirtual 147, 3) := by decide +kernel
theorem dX5_expect_16 : decode cX5_expect 16 = .ok (.iload_n 1, 1) := by decide +kernel
theorem dX5_expect_17 : decode cX5_expect 17 = .ok (.if_icmp .eq 7, 3) := by decide +kernel
theorem dX5_expect_20 : decode cX5_expect 20 = .ok (.iconst 1, 1) := by decide +kernel
theorem dX5_expect_21 : decode cX5_expect 21 = .ok (.goto 4, 3) := by decide +kernel
theorem dX5_expect_24 : decode cX5_expect 24 = .ok (.iconst 0, 1) := by decide +kernel
theorem dX5_expect_25 : decode cX5_expect 25 = .ok (.putfield 153, 3) := by decide +kernel
theorem dX5_expect_28 : decode cX5_expect 28 = .ok (.aload_n 0, 1) := by decide +kernel
theorem dX5_expect_29 : decode cX5_expect 29 = .ok (.dup, 1) := by decide +kernel
theorem dX5_expect_30 : decode cX5_expect 30 = .ok (.getfield 144, 3) := by decide +kernel
theorem dX5_expect_33 : decode cX5_expect 33 = .ok (.aload_n 0, 1) := by decide +kernel
theorem dX5_expect_34 : decode cX5_expect 34 = .ok (.getfield 153, 3) := by decide +kernel
theorem dX5_expect_37 : decode cX5_expect 37 = .ok (.ifCond .eq 7, 3) := by decide +kernel
theorem dX5_expect_40 : decode cX5_expect 40 = .ok (.iconst 0, 1) := by decide +kernel
theorem dX5_expect_41 : decode cX5_expect 41 = .ok (.goto 4, 3) := by decide +kernel
theorem dX5_expect_44 : decode cX5_expect 44 = .ok (.iconst 1, 1) := by decide +kernel
theorem dX5_expect_45 : decode cX5_expect 45 = .ok (.iadd, 1) := by decide +kernel
theorem dX5_expect_46 : decode cX5_expect 46 = .ok (.putfield 144, 3) := by decide +kernel
theorem dX5_expect_49 : decode cX5_expect 49 = .ok (.return_, 1) := by decide +kernel
theorem dX5_number_0 : decode cX5_number 0 = .ok (.aload_n 0, 1) := by decide +kernel
theorem dX5_number_1 : decode cX5_number 1 = .ok (.invokevirtual 150, 3) := by decide +kernel
theorem dX5_number_4 : decode cX5_number 4 = .ok (.aload_n 0, 1) := by decide +kernel
theorem dX5_number_5 : decode cX5_number 5 = .ok (.invokevirtual 147, 3) := by decide +kernel
theorem dX5_number_8 : decode cX5_number 8 = .ok (.bipush 48, 2) := by decide +kernel
theorem dX5_number_10 : decode cX5_number 10 = .ok (.isub, 1) := by decide +kernel
theorem dX5_number_11 : decode cX5_number 11 = .ok (.istore_n 1, 1) := by decide +kernel
theorem dX5_number_12 : decode cX5_number 12 = .ok (.aload_n 0, 1) := by decide +kernel
theorem dX5_number_13 : decode cX5_number 13 = .ok (.aload_n 0, 1) := by decide +kernel
theorem dX5_number_14 : decode cX5_number 14 = .ok (.getfield 153, 3) := by decide +kernel
theorem dX5_number_17 : decode cX5_number 17 = .ok (.ifCond .ne 13, 3) := by decide +kernel
theorem dX5_number_20 : decode cX5_number 20 = .ok (.iload_n 1, 1) := by decide +kernel
theorem dX5_number_21 : decode cX5_number 21 = .ok (.iconst 0, 1) := by decide +kernel
theorem dX5_number_22 : decode cX5_number 22 = .ok (.bipush 9, 2) := by decide +kernel
theorem dX5_number_24 : decode cX5_number 24 = .ok (.invokestatic 34, 3) := by decide +kernel
theorem dX5_number_27 : decode cX5_number 27 = .ok (.ifCond .ne 7, 3) := by decide +kernel
theorem dX5_number_30 : decode cX5_number 30 = .ok (.iconst 1, 1) := by decide +kernel
theorem dX5_number_31 : decode cX5_number 31 = .ok (.goto 4, 3) := by decide +kernel
theorem dX5_number_34 : decode cX5_number 34 = .ok (.iconst 0, 1) := by decide +kernel
theorem dX5_number_35 : decode cX5_number 35 = .ok (.putfield 153, 3) := by decide +kernel
theorem dX5_number_38 : decode cX5_number 38 = .ok (.aload_n 0, 1) := by decide +kernel
theorem dX5_number_39 : decode cX5_number 39 = .ok (.getfield 153, 3) := by decide +kernel
theorem dX5_number_42 : decode cX5_number 42 = .ok (.ifCond .eq 5, 3) := by decide +kernel
theorem dX5_number_45 : decode cX5_number 45 = .ok (.iconst 0, 1) := by decide +kernel
theorem dX5_number_46 : decode cX5_number 46 = .ok (.ireturn, 1) := by decide +kernel
theorem dX5_number_47 : decode cX5_number 47 = .ok (.aload_n 0, 1) := by decide +kernel
theorem dX5_number_48 : decode cX5_number 48 = .ok (.dup, 1) := by decide +kernel
theorem dX5_number_49 : decode cX5_number 49 = .ok (.getfield 144, 3) := by decide +kernel
theorem dX5_number_52 : decode cX5_number 52 = .ok (.iconst 1, 1) := by decide +kernel
theorem dX5_number_53 : decode cX5_number 53 = .ok (.iadd, 1) := by decide +kernel
theorem dX5_number_54 : decode cX5_number 54 = .ok (.putfield 144, 3) := by decide +kernel
theorem dX5_number_57 : decode cX5_number 57 = .ok (.iload_n 1, 1) := by decide +kernel
theorem dX5_number_58 : decode cX5_number 58 = .ok (.ifCond .le 40, 3) := by decide +kernel
theorem dX5_number_61 : decode cX5_number 61 = .ok (.aload_n 0, 1) := by decide +kernel
theorem dX5_number_62 : decode cX5_number 62 = .ok (.invokevirtual 147, 3) := by decide +kernel
theorem dX5_number_65 : decode cX5_number 65 = .ok (.bipush 48, 2) := by decide +kernel
theorem dX5_number_67 : decode cX5_number 67 = .ok (.bipush 57, 2) := by decide +kernel
theorem dX5_number_69 : decode cX5_number 69 = .ok (.invokestatic 34, 3) := by decide +kernel
theorem dX5_number_72 : decode cX5_number 72 = .ok (.ifCond .eq 26, 3) := by decide +kernel
theorem dX5_number_75 : decode cX5_number 75 = .ok (.bipush 10, 2) := by decide +kernel
theorem dX5_number_77 : decode cX5_number 77 = .ok (.iload_n 1, 1) := by decide +kernel
theorem dX5_number_78 : decode cX5_number 78 = .ok (.imul, 1) := by decide +kernel
theorem dX5_number_79 : decode cX5_number 79 = .ok (.aload_n 0, 1) := by decide +kernel
theorem dX5_number_80 : decode cX5_number 80 = .ok (.invokevirtual 147, 3) := by decide +kernel
theorem dX5_number_83 : decode cX5_number 83 = .ok (.iadd, 1) := by decide +kernel
theorem dX5_number_84 : decode cX5_number 84 = .ok (.bipush 48, 2) := by decide +kernel
theorem dX5_number_86 : decode cX5_number 86 = .ok (.isub, 1) := by decide +kernel
theorem dX5_number_87 : decode cX5_number 87 = .ok (.istore_n 1, 1) := by decide +kernel
theorem dX5_number_88 : decode cX5_number 88 = .ok (.aload_n 0, 1) := by decide +kernel
theorem dX5_number_89 : decode cX5_number 89 = .ok (.dup, 1) := by decide +kernel
theorem dX5_number_90 : decode cX5_number 90 = .ok (.getfield 144, 3) := by decide +kernel
theorem dX5_number_93 : decode cX5_number 93 = .ok (.iconst 1, 1) := by decide +kernel
theorem dX5_number_94 : decode cX5_number 94 = .ok (.iadd, 1) := by decide +kernel
theorem dX5_number_95 : decode cX5_number 95 = .ok (.putfield 144, 3) := by decide +kernel
theorem dX5_number_98 : decode cX5_number 98 = .ok (.iload_n 1, 1) := by decide +kernel
theorem dX5_number_99 : decode cX5_number 99 = .ok (.ireturn, 1) := by decide +kernel
theorem dX5_script_0 : decode cX5_script 0 = .ok (.aload_n 0, 1) := by decide +kernel
theorem dX5_script_1 : decode cX5_script 1 = .ok (.iconst 0, 1) := by decide +kernel
theorem dX5_script_2 : decode cX5_script 2 = .ok (.putfield 144, 3) := by decide +kernel
theorem dX5_script_5 : decode cX5_script 5 = .ok (.aload_n 0, 1) := by decide +kernel
theorem dX5_script_6 : decode cX5_script 6 = .ok (.iconst 0, 1) := by decide +kernel
theorem dX5_script_7 : decode cX5_script 7 = .ok (.putfield 153, 3) := by decide +kernel
theorem dX5_script_10 : decode cX5_script 10 = .ok (.iconst 0, 1) := by decide +kernel
theorem dX5_script_11 : decode cX5_script 11 = .ok (.istore_n 2, 1) := by decide +kernel
theorem dX5_script_12 : decode cX5_script 12 = .ok (.aload_n 0, 1) := by decide +kernel
theorem dX5_script_13 : decode cX5_script 13 = .ok (.invokevirtual 150, 3) := by decide +kernel
theorem dX5_script_16 : decode cX5_script 16 = .ok (.aload_n 0, 1) := by decide +kernel
theorem dX5_script_17 : decode cX5_script 17 = .ok (.aload_n 0, 1) := by decide +kernel
theorem dX5_script_18 : decode cX5_script 18 = .ok (.getfield 144, 3) := by decide +kernel
theorem dX5_script_21 : decode cX5_script 21 = .ok (.aload_n 0, 1) := by decide +kernel
theorem dX5_script_22 : decode cX5_script 22 = .ok (.getfield 141, 3) := by decide +kernel
theorem dX5_script_25 : decode cX5_script 25 = .ok (.if_icmp .ne 7, 3) := by decide +kernel
theorem dX5_script_28 : decode cX5_script 28 = .ok (.iconst 1, 1) := by decide +kernel
theorem dX5_script_29 : decode cX5_script 29 = .ok (.goto 4, 3) := by decide +kernel
theorem dX5_script_32 : decode cX5_script 32 = .ok (.iconst 0, 1) := by decide +kernel
theorem dX5_script_33 : decode cX5_script 33 = .ok (.putfield 153, 3) := by decide +kernel
theorem dX5_script_36 : decode cX5_script 36 = .ok (.aload_n 0, 1) := by decide +kernel
theorem dX5_script_37 : decode cX5_script 37 = .ok (.getfield 153, 3) := by decide +kernel
theorem dX5_script_40 : decode cX5_script 40 = .ok (.ifCond .ne 225, 3) := by decide +kernel
theorem dX5_script_43 : decode cX5_script 43 = .ok (.aload_n 0, 1) := by decide +kernel
theorem dX5_script_44 : decode cX5_script 44 = .ok (.getfield 144, 3) := by decide +kernel
theorem dX5_script_47 : decode cX5_script 47 = .ok (.aload_n 0, 1) := by decide +kernel
theorem dX5_script_48 : decode cX5_script 48 = .ok (.getfield 141, 3) := by decide +kernel
theorem dX5_script_51 : decode cX5_script 51 = .ok (.if_icmp .ge 214, 3) := by decide +kernel
theorem dX5_script_54 : decode cX5_script 54 = .ok (.aload_n 0, 1) := by decide +kernel
theorem dX5_script_55 : decode cX5_script 55 = .ok (.invokevirtual 147, 3) := by decide +kernel
theorem dX5_script_58 : decode cX5_script 58 = .ok (.istore_n 3, 1) := by decide +kernel
theorem dX5_script_59 : decode cX5_script 59 = .ok (.iload_n 3, 1) := by decide +kernel
theorem dX5_script_60 : decode cX5_script 60 = .ok (.bipush 115, 2) := by decide +kernel
theorem dX5_script_62 : decode cX5_script 62 = .ok (.if_icmp .ne 7, 3) := by decide +kernel
theorem dX5_script_65 : decode cX5_script 65 = .ok (.iconst 0, 1) := by decide +kernel
theorem dX5_script_66 : decode cX5_script 66 = .ok (.goto 25, 3) := by decide +kernel
theorem dX5_script_69 : decode cX5_script 69 = .ok (.iload_n 3, 1) := by decide +kernel
theorem dX5_script_70 : decode cX5_script 70 = .ok (.bipush 101, 2) := by decide +kernel
theorem dX5_script_72 : decode cX5_script 72 = .ok (.if_icmp .ne 7, 3) := by decide +kernel
theorem dX5_script_75 : decode cX5_script 75 = .ok (.iconst 1, 1) := by decide +kernel
theorem dX5_script_76 : decode cX5_script 76 = .ok (.goto 15, 3) := by decide +kernel
theorem dX5_script_79 : decode cX5_script 79 = .ok (.iload_n 3, 1) := by decide +kernel
theorem dX5_script_80 : decode cX5_script 80 = .ok (.bipush 104, 2) := by decide +kernel
theorem dX5_script_82 : decode cX5_script 82 = .ok (.if_icmp .ne 7, 3) := by decide +kernel
theorem dX5_script_85 : decode cX5_script 85 = .ok (.iconst 2, 1) := by decide +kernel
theorem dX5_script_86 : decode cX5_script 86 = .ok (.goto 5, 3) := by decide +kernel
theorem dX5_script_89 : decode cX5_script 89 = .ok (.bipush (-9), 2) := by decide +kernel
theorem dX5_script_91 : decode cX5_script 91 = .ok (.istore 4, 2) := by decide +kernel
theorem dX5_script_93 : decode cX5_script 93 = .ok (.aload_n 0, 1) := by decide +kernel
theorem dX5_script_94 : decode cX5_script 94 = .ok (.iload 4, 2) := by decide +kernel
theorem dX5_script_96 : decode cX5_script 96 = .ok (.bipush (-9), 2) := by decide +kernel
theorem dX5_script_98 : decode cX5_script 98 = .ok (.if_icmp .ne 7, 3) := by decide +kernel
theorem dX5_script_101 : decode cX5_script 101 = .ok (.iconst 1, 1) := by decide +kernel
theorem dX5_script_102 : decode cX5_script 102 = .ok (.goto 4, 3) := by decide +kernel
theorem dX5_script_105 : decode cX5_script 105 = .ok (.iconst 0, 1) := by decide +kernel
theorem dX5_script_106 : decode cX5_script 106 = .ok (.putfield 153, 3) := by decide +kernel
theorem dX5_script_109 : decode cX5_script 109 = .ok (.aload_n 0, 1) := by decide +kernel
theorem dX5_script_110 : decode cX5_script 110 = .ok (.getfield 153, 3) := by decide +kernel
theorem dX5_script_113 : decode cX5_script 113 = .ok (.ifCond .ne 149, 3) := by decide +kernel
theorem dX5_script_116 : decode cX5_script 116 = .ok (.aload_n 0, 1) := by decide +kernel
theorem dX5_script_117 : decode cX5_script 117 = .ok (.dup, 1) := by decide +kernel
theorem dX5_script_118 : decode cX5_script 118 = .ok (.getfield 144, 3) := by decide +kernel
theorem dX5_script_121 : decode cX5_script 121 = .ok (.iconst 1, 1) := by decide +kernel
theorem dX5_script_122 : decode cX5_script 122 = .ok (.iadd, 1) := by decide +kernel
theorem dX5_script_123 : decode cX5_script 123 = .ok (.putfield 144, 3) := by decide +kernel
theorem dX5_script_126 : decode cX5_script 126 = .ok (.aload_n 0, 1) := by decide +kernel
theorem dX5_script_127 : decode cX5_script 127 = .ok (.invokevirtual 157, 3) := by decide +kernel
theorem dX5_script_130 : decode cX5_script 130 = .ok (.istore 5, 2) := by decide +kernel
theorem dX5_script_132 : decode cX5_script 132 = .ok (.iconst 0, 1) := by decide +kernel
theorem dX5_script_133 : decode cX5_script 133 = .ok (.istore 6, 2) := by decide +kernel
theorem dX5_script_135 : decode cX5_script 135 = .ok (.iload 4, 2) := by decide +kernel
theorem dX5_script_137 : decode cX5_script 137 = .ok (.iconst 2, 1) := by decide +kernel
theorem dX5_script_138 : decode cX5_script 138 = .ok (.if_icmp .ne 26, 3) := by decide +kernel
theorem dX5_script_141 : decode cX5_script 141 = .ok (.aload_n 0, 1) := by decide +kernel
theorem dX5_script_142 : decode cX5_script 142 = .ok (.bipush 44, 2) := by decide +kernel
theorem dX5_script_144 : decode cX5_script 144 = .ok (.invokevirtual 160, 3) := by decide +kernel
theorem dX5_script_147 : decode cX5_script 147 = .ok (.aload_n 0, 1) := by decide +kernel
theorem dX5_script_148 : decode cX5_script 148 = .ok (.getfield 153, 3) := by decide +kernel
theorem dX5_script_151 : decode cX5_script 151 = .ok (.ifCond .eq 7, 3) := by decide +kernel
theorem dX5_script_154 : decode cX5_script 154 = .ok (.iconst 0, 1) := by decide +kernel
theorem dX5_script_155 : decode cX5_script 155 = .ok (.goto 7, 3) := by decide +kernel
theorem dX5_script_158 : decode cX5_script 158 = .ok (.aload_n 0, 1) := by decide +kernel
theorem dX5_script_159 : decode cX5_script 159 = .ok (.invokevirtual 157, 3) := by decide +kernel
theorem dX5_script_162 : decode cX5_script 162 = .ok (.istore 6, 2) := by decide +kernel
theorem dX5_script_164 : decode cX5_script 164 = .ok (.aload_n 0, 1) := by decide +kernel
theorem dX5_script_165 : decode cX5_script 165 = .ok (.bipush 59, 2) := by decide +kernel
theorem dX5_script_167 : decode cX5_script 167 = .ok (.invokevirtual 160, 3) := by decide +kernel
theorem dX5_script_170 : decode cX5_script 170 = .ok (.aload_n 0, 1) := by decide +kernel
theorem dX5_script_171 : decode cX5_script 171 = .ok (.invokevirtual 150, 3) := by decide +kernel
theorem dX5_script_174 : decode cX5_script 174 = .ok (.iload_n 1, 1) := by decide +kernel
theorem dX5_script_175 : decode cX5_script 175 = .ok (.ifCond .eq 20, 3) := by decide +kernel
theorem dX5_script_178 : decode cX5_script 178 = .ok (.aload_n 0, 1) := by decide +kernel
theorem dX5_script_179 : decode cX5_script 179 = .ok (.iload 4, 2) := by decide +kernel
theorem dX5_script_181 : decode cX5_script 181 = .ok (.iload 5, 2) := by decide +kernel
theorem dX5_script_183 : decode cX5_script 183 = .ok (.iload 6, 2) := by decide +kernel
theorem dX5_script_185 : decode cX5_script 185 = .ok (.invokevirtual 125, 3) := by decide +kernel
theorem dX5_script_188 : decode cX5_script 188 = .ok (.ifCond .ne 7, 3) := by decide +kernel
theorem dX5_script_191 : decode cX5_script 191 = .ok (.iconst 1, 1) := by decide +kernel
theorem dX5_script_192 : decode cX5_script 192 = .ok (.goto 4, 3) := by decide +kernel
theorem dX5_script_195 : decode cX5_script 195 = .ok (.iconst 0, 1) := by decide +kernel
theorem dX5_script_196 : decode cX5_script 196 = .ok (.istore 7, 2) := by decide +kernel
theorem dX5_script_198 : decode cX5_script 198 = .ok (.iload 7, 2) := by decide +kernel
theorem dX5_script_200 : decode cX5_script 200 = .ok (.ifCond .eq 62, 3) := by decide +kernel
theorem dX5_script_203 : decode cX5_script 203 = .ok (.iload 4, 2) := by decide +kernel
theorem dX5_script_205 : decode cX5_script 205 = .ok (.ifCond .ne 12, 3) := by decide +kernel
theorem dX5_script_208 : decode cX5_script 208 = .ok (.aload_n 0, 1) := by decide +kernel
theorem dX5_script_209 : decode cX5_script 209 = .ok (.iload 5, 2) := by decide +kernel
theorem dX5_script_211 : decode cX5_script 211 = .ok (.invokevirtual 110, 3) := by decide +kernel
theorem dX5_script_214 : decode cX5_script 214 = .ok (.goto 26, 3) := by decide +kernel
theorem dX5_script_217 : decode cX5_script 217 = .ok (.iload 4, 2) := by decide +kernel
theorem dX5_script_219 : decode cX5_script 219 = .ok (.iconst 1, 1) := by decide +kernel
theorem dX5_script_220 : decode cX5_script 220 = .ok (.if_icmp .ne 12, 3) := by decide +kernel
theorem dX5_script_223 : decode cX5_script 223 = .ok (.aload_n 0, 1) := by decide +kernel
theorem dX5_script_224 : decode cX5_script 224 = .ok (.iload 5, 2) := by decide +kernel
theorem dX5_script_226 : decode cX5_script 226 = .ok (.invokevirtual 113, 3) := by decide +kernel
theorem dX5_script_229 : decode cX5_script 229 = .ok (.goto 11, 3) := by decide +kernel
theorem dX5_script_232 : decode cX5_script 232 = .ok (.aload_n 0, 1) := by decide +kernel
theorem dX5_script_233 : decode cX5_script 233 = .ok (.iload 5, 2) := by decide +kernel
theorem dX5_script_235 : decode cX5_script 235 = .ok (.iload 6, 2) := by decide +kernel
theorem dX5_script_237 : decode cX5_script 237 = .ok (.invokevirtual 116, 3) := by decide +kernel
theorem dX5_script_240 : decode cX5_script 240 = .ok (.istore 8, 2) := by decide +kernel
theorem dX5_script_242 : decode cX5_script 242 = .ok (.iload_n 2, 1) := by decide +kernel
theorem dX5_script_243 : decode cX5_script 243 = .ok (.iload 8, 2) := by decide +kernel
theorem dX5_script_245 : decode cX5_script 245 = .ok (.ifCond .ge 10, 3) := by decide +kernel
theorem dX5_script_248 : decode cX5_script 248 = .ok (.iload 8, 2) := by decide +kernel
theorem dX5_script_250 : decode cX5_script 250 = .ok (.bipush (-9), 2) := by decide +kernel
theorem dX5_script_252 : decode cX5_script 252 = .ok (.if_icmp .ne 7, 3) := by decide +kernel
theorem dX5_script_255 : decode cX5_script 255 = .ok (.iconst 1, 1) := by decide +kernel
theorem dX5_script_256 : decode cX5_script 256 = .ok (.goto 4, 3) := by decide +kernel
theorem dX5_script_259 : decode cX5_script 259 = .ok (.iconst 0, 1) := by decide +kernel
theorem dX5_script_260 : decode cX5_script 260 = .ok (.iadd, 1) := by decide +kernel
theorem dX5_script_261 : decode cX5_script 261 = .ok (.istore_n 2, 1) := by decide +kernel
theorem dX5_script_262 : decode cX5_script 262 = .ok (.goto (-226), 3) := by decide +kernel
theorem dX5_script_265 : decode cX5_script 265 = .ok (.iload_n 2, 1) := by decide +kernel
theorem dX5_script_266 : decode cX5_script 266 = .ok (.ireturn, 1) := by decide +kernel
theorem dX5_runScript_0 : decode cX5_runScript 0 = .ok (.aload_n 0, 1) := by decide +kernel
theorem dX5_runScript_1 : decode cX5_runScript 1 = .ok (.iconst 0, 1) := by decide +kernel
theorem dX5_runScript_2 : decode cX5_runScript 2 = .ok (.invokevirtual 163, 3) := by decide +kernel
theorem dX5_runScript_5 : decode cX5_runScript 5 = .ok (.istore_n 1, 1) := by decide +kernel
theorem dX5_runScript_6 : decode cX5_runScript 6 = .ok (.aload_n 0, 1) := by decide +kernel
theorem dX5_runScript_7 : decode cX5_runScript 7 = .ok (.getfield 153, 3) := by decide +kernel
theorem dX5_runScript_10 : decode cX5_runScript 10 = .ok (.ifCond .eq 11, 3) := by decide +kernel
theorem dX5_runScript_13 : decode cX5_runScript 13 = .ok (.bipush (-10), 2) := by decide +kernel
theorem dX5_runScript_15 : decode cX5_runScript 15 = .ok (.aload_n 0, 1) := by decide +kernel
theorem dX5_runScript_16 : decode cX5_runScript 16 = .ok (.getfield 144, 3) := by decide +kernel
theorem dX5_runScript_19 : decode cX5_runScript 19 = .ok (.isub, 1) := by decide +kernel
theorem dX5_runScript_20 : decode cX5_runScript 20 = .ok (.ireturn, 1) := by decide +kernel
theorem dX5_runScript_21 : decode cX5_runScript 21 = .ok (.aload_n 0, 1) := by decide +kernel
theorem dX5_runScript_22 : decode cX5_runScript 22 = .ok (.invokevirtual 107, 3) := by decide +kernel
theorem dX5_runScript_25 : decode cX5_runScript 25 = .ok (.aload_n 0, 1) := by decide +kernel
theorem dX5_runScript_26 : decode cX5_runScript 26 = .ok (.iconst 1, 1) := by decide +kernel
theorem dX5_runScript_27 : decode cX5_runScript 27 = .ok (.invokevirtual 163, 3) := by decide +kernel
theorem dX5_runScript_30 : decode cX5_runScript 30 = .ok (.istore_n 1, 1) := by decide +kernel
theorem dX5_runScript_31 : decode cX5_runScript 31 = .ok (.aload_n 0, 1) := by decide +kernel
theorem dX5_runScript_32 : decode cX5_runScript 32 = .ok (.iconst 0, 1) := by decide +kernel
theorem dX5_runScript_33 : decode cX5_runScript 33 = .ok (.putfield 141, 3) := by decide +kernel
theorem dX5_runScript_36 : decode cX5_runScript 36 = .ok (.iload_n 1, 1) := by decide +kernel
theorem dX5_runScript_37 : decode cX5_runScript 37 = .ok (.ireturn, 1) := by decide +kernel
theorem dJ6_bitCount_0f7a4_0 : decode cJ6_bitCount_0f7a4 0 = .ok (.iload_n 0, 1) := by decide +kernel
theorem dJ6_bitCount_0f7a4_1 : decode cJ6_bitCount_0f7a4 1 = .ok (.iload_n 0, 1) := by decide +kernel
theorem dJ6_bitCount_0f7a4_2 : decode cJ6_bitCount_0f7a4 2 = .ok (.iconst 1, 1) := by decide +kernel
theorem dJ6_bitCount_0f7a4_3 : decode cJ6_bitCount_0f7a4 3 = .ok (.iushr, 1) := by decide +kernel
theorem dJ6_bitCount_0f7a4_4 : decode cJ6_bitCount_0f7a4 4 = .ok (.ldc_w 265, 3) := by decide +kernel
theorem dJ6_bitCount_0f7a4_7 : decode cJ6_bitCount_0f7a4 7 = .ok (.iand, 1) := by decide +kernel
theorem dJ6_bitCount_0f7a4_8 : decode cJ6_bitCount_0f7a4 8 = .ok (.isub, 1) := by decide +kernel
theorem dJ6_bitCount_0f7a4_9 : decode cJ6_bitCount_0f7a4 9 = .ok (.istore_n 0, 1) := by decide +kernel
theorem dJ6_bitCount_0f7a4_10 : decode cJ6_bitCount_0f7a4 10 = .ok (.iload_n 0, 1) := by decide +kernel
theorem dJ6_bitCount_0f7a4_11 : decode cJ6_bitCount_0f7a4 11 = .ok (.ldc_w 266, 3) := by decide +kernel
theorem dJ6_bitCount_0f7a4_14 : decode cJ6_bitCount_0f7a4 14 = .ok (.iand, 1) := by decide +kernel
theorem dJ6_bitCount_0f7a4_15 : decode cJ6_bitCount_0f7a4 15 = .ok (.iload_n 0, 1) := by decide +kernel
theorem dJ6_bitCount_0f7a4_16 : decode cJ6_bitCount_0f7a4 16 = .ok (.iconst 2, 1) := by decide +kernel
theorem dJ6_bitCount_0f7a4_17 : decode cJ6_bitCount_0f7a4 17 = .ok (.iushr, 1) := by decide +kernel
theorem dJ6_bitCount_0f7a4_18 : decode cJ6_bitCount_0f7a4 18 = .ok (.ldc_w 266, 3) := by decide +kernel
theorem dJ6_bitCount_0f7a4_21 : decode cJ6_bitCount_0f7a4 21 = .ok (.iand, 1) := by decide +kernel
theorem dJ6_bitCount_0f7a4_22 : decode cJ6_bitCount_0f7a4 22 = .ok (.iadd, 1) := by decide +kernel
theorem dJ6_bitCount_0f7a4_23 : decode cJ6_bitCount_0f7a4 23 = .ok (.istore_n 0, 1) := by decide +kernel
theorem dJ6_bitCount_0f7a4_24 : decode cJ6_bitCount_0f7a4 24 = .ok (.iload_n 0, 1) := by decide +kernel
theorem dJ6_bitCount_0f7a4_25 : decode cJ6_bitCount_0f7a4 25 = .ok (.iload_n 0, 1) := by decide +kernel
theorem dJ6_bitCount_0f7a4_26 : decode cJ6_bitCount_0f7a4 26 = .ok (.iconst 4, 1) := by decide +kernel
theorem dJ6_bitCount_0f7a4_27 : decode cJ6_bitCount_0f7a4 27 = .ok (.iushr, 1) := by decide +kernel
theorem dJ6_bitCount_0f7a4_28 : decode cJ6_bitCount_0f7a4 28 = .ok (.iadd, 1) := by decide +kernel
theorem dJ6_bitCount_0f7a4_29 : decode cJ6_bitCount_0f7a4 29 = .ok (.ldc_w 267, 3) := by decide +kernel
theorem dJ6_bitCount_0f7a4_32 : decode cJ6_bitCount_0f7a4 32 = .ok (.iand, 1) := by decide +kernel
theorem dJ6_bitCount_0f7a4_33 : decode cJ6_bitCount_0f7a4 33 = .ok (.istore_n 0, 1) := by decide +kernel
theorem dJ6_bitCount_0f7a4_34 : decode cJ6_bitCount_0f7a4 34 = .ok (.iload_n 0, 1) := by decide +kernel
theorem dJ6_bitCount_0f7a4_35 : decode cJ6_bitCount_0f7a4 35 = .ok (.iload_n 0, 1) := by decide +kernel
theorem dJ6_bitCount_0f7a4_36 : decode cJ6_bitCount_0f7a4 36 = .ok (.bipush 8, 2) := by decide +kernel
theorem dJ6_bitCount_0f7a4_38 : decode cJ6_bitCount_0f7a4 38 = .ok (.iushr, 1) := by decide +kernel
theorem dJ6_bitCount_0f7a4_39 : decode cJ6_bitCount_0f7a4 39 = .ok (.iadd, 1) := by decide +kernel
theorem dJ6_bitCount_0f7a4_40 : decode cJ6_bitCount_0f7a4 40 = .ok (.istore_n 0, 1) := by decide +kernel
theorem dJ6_bitCount_0f7a4_41 : decode cJ6_bitCount_0f7a4 41 = .ok (.iload_n 0, 1) := by decide +kernel
theorem dJ6_bitCount_0f7a4_42 : decode cJ6_bitCount_0f7a4 42 = .ok (.iload_n 0, 1) := by decide +kernel
theorem dJ6_bitCount_0f7a4_43 : decode cJ6_bitCount_0f7a4 43 = .ok (.bipush 16, 2) := by decide +kernel
theorem dJ6_bitCount_0f7a4_45 : decode cJ6_bitCount_0f7a4 45 = .ok (.iushr, 1) := by decide +kernel
theorem dJ6_bitCount_0f7a4_46 : decode cJ6_bitCount_0f7a4 46 = .ok (.iadd, 1) := by decide +kernel
theorem dJ6_bitCount_0f7a4_47 : decode cJ6_bitCount_0f7a4 47 = .ok (.istore_n 0, 1) := by decide +kernel
theorem dJ6_bitCount_0f7a4_48 : decode cJ6_bitCount_0f7a4 48 = .ok (.iload_n 0, 1) := by decide +kernel
theorem dJ6_bitCount_0f7a4_49 : decode cJ6_bitCount_0f7a4 49 = .ok (.bipush 63, 2) := by decide +kernel
theorem dJ6_bitCount_0f7a4_51 : decode cJ6_bitCount_0f7a4 51 = .ok (.iand, 1) := by decide +kernel
theorem dJ6_bitCount_0f7a4_52 : decode cJ6_bitCount_0f7a4 52 = .ok (.ireturn, 1) := by decide +kernel
theorem dJ9_abs_0f7a4_0 : decode cJ9_abs_0f7a4 0 = .ok (.iload_n 0, 1) := by decide +kernel
theorem dJ9_abs_0f7a4_1 : decode cJ9_abs_0f7a4 1 = .ok (.ifCond .ge 8, 3) := by decide +kernel
theorem dJ9_abs_0f7a4_4 : decode cJ9_abs_0f7a4 4 = .ok (.iload_n 0, 1) := by decide +kernel
theorem dJ9_abs_0f7a4_5 : decode cJ9_abs_0f7a4 5 = .ok (.ineg, 1) := by decide +kernel
theorem dJ9_abs_0f7a4_6 : decode cJ9_abs_0f7a4 6 = .ok (.goto 4, 3) := by decide +kernel
theorem dJ9_abs_0f7a4_9 : decode cJ9_abs_0f7a4 9 = .ok (.iload_n 0, 1) := by decide +kernel
theorem dJ9_abs_0f7a4_10 : decode cJ9_abs_0f7a4 10 = .ok (.ireturn, 1) := by decide +kernel
theorem dJ9_max_7cf53_0 : decode cJ9_max_7cf53 0 = .ok (.iload_n 0, 1) := by decide +kernel
theorem dJ9_max_7cf53_1 : decode cJ9_max_7cf53 1 = .ok (.iload_n 1, 1) := by decide +kernel
theorem dJ9_max_7cf53_2 : decode cJ9_max_7cf53 2 = .ok (.if_icmp .lt 7, 3) := by decide +kernel
theorem dJ9_max_7cf53_5 : decode cJ9_max_7cf53 5 = .ok (.iload_n 0, 1) := by decide +kernel
theorem dJ9_max_7cf53_6 : decode cJ9_max_7cf53 6 = .ok (.goto 4, 3) := by decide +kernel
theorem dJ9_max_7cf53_9 : decode cJ9_max_7cf53 9 = .ok (.iload_n 1, 1) := by decide +kernel
theorem dJ9_max_7cf53_10 : decode cJ9_max_7cf53 10 = .ok (.ireturn, 1) := by decide +kernel
theorem dJ9_min_7cf53_0 : decode cJ9_min_7cf53 0 = .ok (.iload_n 0, 1) := by decide +kernel
theorem dJ9_min_7cf53_1 : decode cJ9_min_7cf53 1 = .ok (.iload_n 1, 1) := by decide +kernel
theorem dJ9_min_7cf53_2 : decode cJ9_min_7cf53 2 = .ok (.if_icmp .gt 7, 3) := by decide +kernel
theorem dJ9_min_7cf53_5 : decode cJ9_min_7cf53 5 = .ok (.iload_n 0, 1) := by decide +kernel
theorem dJ9_min_7cf53_6 : decode cJ9_min_7cf53 6 = .ok (.goto 4, 3) := by decide +kernel
theorem dJ9_min_7cf53_9 : decode cJ9_min_7cf53 9 = .ok (.iload_n 1, 1) := by decide +kernel
theorem dJ9_min_7cf53_10 : decode cJ9_min_7cf53 10 = .ok (.ireturn, 1) := by decide +kernel
theorem dJ7_fill_53178_0 : decode cJ7_fill_53178 0 = .ok (.iconst 0, 1) := by decide +kernel
theorem dJ7_fill_53178_1 : decode cJ7_fill_53178 1 = .ok (.istore_n 2, 1) := by decide +kernel
theorem dJ7_fill_53178_2 : decode cJ7_fill_53178 2 = .ok (.aload_n 0, 1) := by decide +kernel
theorem dJ7_fill_53178_3 : decode cJ7_fill_53178 3 = .ok (.arraylength, 1) := by decide +kernel
theorem dJ7_fill_53178_4 : decode cJ7_fill_53178 4 = .ok (.istore_n 3, 1) := by decide +kernel
theorem dJ7_fill_53178_5 : decode cJ7_fill_53178 5 = .ok (.iload_n 2, 1) := by decide +kernel
theorem dJ7_fill_53178_6 : decode cJ7_fill_53178 6 = .ok (.iload_n 3, 1) := by decide +kernel
theorem dJ7_fill_53178_7 : decode cJ7_fill_53178 7 = .ok (.if_icmp .ge 13, 3) := by decide +kernel
theorem dJ7_fill_53178_10 : decode cJ7_fill_53178 10 = .ok (.aload_n 0, 1) := by decide +kernel
theorem dJ7_fill_53178_11 : decode cJ7_fill_53178 11 = .ok (.iload_n 2, 1) := by decide +kernel
theorem dJ7_fill_53178_12 : decode cJ7_fill_53178 12 = .ok (.iload_n 1, 1) := by decide +kernel
theorem dJ7_fill_53178_13 : decode cJ7_fill_53178 13 = .ok (.iastore, 1) := by decide +kernel
theorem dJ7_fill_53178_14 : decode cJ7_fill_53178 14 = .ok (.iinc 2 1, 3) := by decide +kernel
theorem dJ7_fill_53178_17 : decode cJ7_fill_53178 17 = .ok (.goto (-12), 3) := by decide +kernel
theorem dJ7_fill_53178_20 : decode cJ7_fill_53178 20 = .ok (.return_, 1) := by decide +kernel
theorem dL_law_0 : decode cL_law 0 = .ok (.new 7, 3) := by decide +kernel
theorem dL_law_3 : decode cL_law 3 = .ok (.dup, 1) := by decide +kernel
theorem dL_law_4 : decode cL_law 4 = .ok (.invokespecial 9, 3) := by decide +kernel
theorem dL_law_7 : decode cL_law 7 = .ok (.astore_n 1, 1) := by decide +kernel
theorem dL_law_8 : decode cL_law 8 = .ok (.new 10, 3) := by decide +kernel
theorem dL_law_11 : decode cL_law 11 = .ok (.dup, 1) := by decide +kernel
theorem dL_law_12 : decode cL_law 12 = .ok (.invokespecial 12, 3) := by decide +kernel
theorem dL_law_15 : decode cL_law 15 = .ok (.astore_n 2, 1) := by decide +kernel
theorem dL_law_16 : decode cL_law 16 = .ok (.iconst 0, 1) := by decide +kernel
theorem dL_law_17 : decode cL_law 17 = .ok (.istore_n 3, 1) := by decide +kernel
theorem dL_law_18 : decode cL_law 18 = .ok (.iload_n 3, 1) := by decide +kernel
theorem dL_law_19 : decode cL_law 19 = .ok (.aload_n 0, 1) := by decide +kernel
theorem dL_law_20 : decode cL_law 20 = .ok (.arraylength, 1) := by decide +kernel
theorem dL_law_21 : decode cL_law 21 = .ok (.iconst 5, 1) := by decide +kernel
theorem dL_law_22 : decode cL_law 22 = .ok (.isub, 1) := by decide +kernel
theorem dL_law_23 : decode cL_law 23 = .ok (.if_icmp .gt 997, 3) := by decide +kernel
theorem dL_law_26 : decode cL_law 26 = .ok (.aload_n 0, 1) := by decide +kernel
theorem dL_law_27 : decode cL_law 27 = .ok (.iload_n 3, 1) := by decide +kernel
theorem dL_law_28 : decode cL_law 28 = .ok (.iaload, 1) := by decide +kernel
theorem dL_law_29 : decode cL_law 29 = .ok (.bipush 63, 2) := by decide +kernel
theorem dL_law_31 : decode cL_law 31 = .ok (.iand, 1) := by decide +kernel
theorem dL_law_32 : decode cL_law 32 = .ok (.tableswitch 982 0 37 #[168, 221, 244, 267, 290, 303, 316, 339, 372, 395, 418, 451, 474, 497, 520, 543, 576, 609, 642, 665, 688, 711, 734, 757, 770, 783, 796, 809, 822, 835, 848, 861, 874, 897, 910, 923, 936, 959], 168) := by decide +kernel
theorem dL_law_200 : decode cL_law 200 = .ok (.aload_n 1, 1) := by decide +kernel
theorem dL_law_201 : decode cL_law 201 = .ok (.aload_n 0, 1) := by decide +kernel
theorem dL_law_202 : decode cL_law 202 = .ok (.iload_n 3, 1) := by decide +kernel
theorem dL_law_203 : decode cL_law 203 = .ok (.iconst 1, 1) := by decide +kernel
theorem dL_law_204 : decode cL_law 204 = .ok (.iadd, 1) := by decide +kernel
theorem dL_law_205 : decode cL_law 205 = .ok (.iaload, 1) := by decide +kernel
theorem dL_law_206 : decode cL_law 206 = .ok (.aload_n 0, 1) := by decide +kernel
theorem dL_law_207 : decode cL_law 207 = .ok (.iload_n 3, 1) := by decide +kernel
theorem dL_law_208 : decode cL_law 208 = .ok (.iconst 2, 1) := by decide +kernel
theorem dL_law_209 : decode cL_law 209 = .ok (.iadd, 1) := by decide +kernel
theorem dL_law_210 : decode cL_law 210 = .ok (.iaload, 1) := by decide +kernel
theorem dL_law_211 : decode cL_law 211 = .ok (.aload_n 0, 1) := by decide +kernel
theorem dL_law_212 : decode cL_law 212 = .ok (.iload_n 3, 1) := by decide +kernel
theorem dL_law_213 : decode cL_law 213 = .ok (.iconst 3, 1) := by decide +kernel
theorem dL_law_214 : decode cL_law 214 = .ok (.iadd, 1) := by decide +kernel
theorem dL_law_215 : decode cL_law 215 = .ok (.iaload, 1) := by decide +kernel
theorem dL_law_216 : decode cL_law 216 = .ok (.aload_n 0, 1) := by decide +kernel
theorem dL_law_217 : decode cL_law 217 = .ok (.iload_n 3, 1) := by decide +kernel
theorem dL_law_218 : decode cL_law 218 = .ok (.iconst 4, 1) := by decide +kernel
theorem dL_law_219 : decode cL_law 219 = .ok (.iadd, 1) := by decide +kernel
theorem dL_law_220 : decode cL_law 220 = .ok (.iaload, 1) := by decide +kernel
theorem dL_law_221 : decode cL_law 221 = .ok (.invokevirtual 13, 3) := by decide +kernel
theorem dL_law_224 : decode cL_law 224 = .ok (.aload_n 2, 1) := by decide +kernel
theorem dL_law_225 : decode cL_law 225 = .ok (.aload_n 0, 1) := by decide +kernel
theorem dL_law_226 : decode cL_law 226 = .ok (.iload_n 3, 1) := by decide +kernel
theorem dL_law_227 : decode cL_law 227 = .ok (.iconst 1, 1) := by decide +kernel
theorem dL_law_228 : decode cL_law 228 = .ok (.iadd, 1) := by decide +kernel
theorem dL_law_229 : decode cL_law 229 = .ok (.iaload, 1) := by decide +kernel
theorem dL_law_230 : decode cL_law 230 = .ok (.aload_n 0, 1) := by decide +kernel
theorem dL_law_231 : decode cL_law 231 = .ok (.iload_n 3, 1) := by decide +kernel
theorem dL_law_232 : decode cL_law 232 = .ok (.iconst 2, 1) := by decide +kernel
theorem dL_law_233 : decode cL_law 233 = .ok (.iadd, 1) := by decide +kernel
theorem dL_law_234 : decode cL_law 234 = .ok (.iaload, 1) := by decide +kernel
theorem dL_law_235 : decode cL_law 235 = .ok (.aload_n 0, 1) := by decide +kernel
theorem dL_law_236 : decode cL_law 236 = .ok (.iload_n 3, 1) := by decide +kernel
theorem dL_law_237 : decode cL_law 237 = .ok (.iconst 3, 1) := by decide +kernel
theorem dL_law_238 : decode cL_law 238 = .ok (.iadd, 1) := by decide +kernel
theorem dL_law_239 : decode cL_law 239 = .ok (.iaload, 1) := by decide +kernel
theorem dL_law_240 : decode cL_law 240 = .ok (.aload_n 0, 1) := by decide +kernel
theorem dL_law_241 : decode cL_law 241 = .ok (.iload_n 3, 1) := by decide +kernel
theorem dL_law_242 : decode cL_law 242 = .ok (.iconst 4, 1) := by decide +kernel
theorem dL_law_243 : decode cL_law 243 = .ok (.iadd, 1) := by decide +kernel
theorem dL_law_244 : decode cL_law 244 = .ok (.iaload, 1) := by decide +kernel
theorem dL_law_245 : decode cL_law 245 = .ok (.invokevirtual 17, 3) := by decide +kernel
theorem dL_law_248 : decode cL_law 248 = .ok (.if_icmp .eq 766, 3) := by decide +kernel
theorem dL_law_251 : decode cL_law 251 = .ok (.iconst 0, 1) := by decide +kernel
theorem dL_law_252 : decode cL_law 252 = .ok (.ireturn, 1) := by decide +kernel
theorem dL_law_253 : decode cL_law 253 = .ok (.aload_n 1, 1) := by decide +kernel
theorem dL_law_254 : decode cL_law 254 = .ok (.aload_n 0, 1) := by decide +kernel
theorem dL_law_255 : decode cL_law 255 = .ok (.iload_n 3, 1) := by decide +kernel
theorem dL_law_256 : decode cL_law 256 = .ok (.iconst 1, 1) := by decide +kernel
theorem dL_law_257 : decode cL_law 257 = .ok (.iadd, 1) := by decide +kernel
theorem dL_law_258 : decode cL_law 258 = .ok (.iaload, 1) := by decide +kernel
theorem dL_law_259 : decode cL_law 259 = .ok (.invokevirtual 18, 3) := by decide +kernel
theorem dL_law_262 : decode cL_law 262 = .ok (.aload_n 2, 1) := by decide +kernel
theorem dL_law_263 : decode cL_law 263 = .ok (.aload_n 0, 1) := by decide +kernel
theorem dL_law_264 : decode cL_law 264 = .ok (.iload_n 3, 1) := by decide +kernel
theorem dL_law_265 : decode cL_law 265 = .ok (.iconst 1, 1) := by decide +kernel
theorem dL_law_266 : decode cL_law 266 = .ok (.iadd, 1) := by decide +kernel
theorem dL_law_267 : decode cL_law 267 = .ok (.iaload, 1) := by decide +kernel
theorem dL_law_268 : decode cL_law 268 = .ok (.invokevirtual 22, 3) := by decide +kernel
theorem dL_law_271 : decode cL_law 271 = .ok (.if_icmp .eq 743, 3) := by decide +kernel
theorem dL_law_274 : decode cL_law 274 = .ok (.iconst 0, 1) := by decide +kernel
theorem dL_law_275 : decode cL_law 275 = .ok (.ireturn, 1) := by decide +kernel
theorem dL_law_276 : decode cL_law 276 = .ok (.aload_n 1, 1) := by decide +kernel
theorem dL_law_277 : decode cL_law 277 = .ok (.aload_n 0, 1) := by decide +kernel
theorem dL_law_278 : decode cL_law 278 = .ok (.iload_n 3, 1) := by decide +kernel
theorem dL_law_279 : decode cL_law 279 = .ok (.iconst 1, 1) := by decide +kernel
theorem dL_law_280 : decode cL_law 280 = .ok (.iadd, 1) := by decide +kernel
theorem dL_law_281 : decode cL_law 281 = .ok (.iaload, 1) := by decide +kernel
theorem dL_law_282 : decode cL_law 282 = .ok (.invokevirtual 23, 3) := by decide +kernel
theorem dL_law_285 : decode cL_law 285 = .ok (.aload_n 2, 1) := by decide +kernel
theorem dL_law_286 : decode cL_law 286 = .ok (.aload_n 0, 1) := by decide +kernel
theorem dL_law_287 : decode cL_law 287 = .ok (.iload_n 3, 1) := by decide +kernel
theorem dL_law_288 : decode cL_law 288 = .ok (.iconst 1, 1) := by decide +kernel
theorem dL_law_289 : decode cL_law 289 = .ok (.iadd, 1) := by decide +kernel
theorem dL_law_290 : decode cL_law 290 = .ok (.iaload, 1) := by decide +kernel
theorem dL_law_291 : decode cL_law 291 = .ok (.invokevirtual 26, 3) := by decide +kernel
theorem dL_law_294 : decode cL_law 294 = .ok (.if_icmp .eq 720, 3) := by decide +kernel
theorem dL_law_297 : decode cL_law 297 = .ok (.iconst 0, 1) := by decide +kernel
theorem dL_law_298 : decode cL_law 298 = .ok (.ireturn, 1) := by decide +kernel
theorem dL_law_299 : decode cL_law 299 = .ok (.aload_n 1, 1) := by decide +kernel
theorem dL_law_300 : decode cL_law 300 = .ok (.aload_n 0, 1) := by decide +kernel
theorem dL_law_301 : decode cL_law 301 = .ok (.iload_n 3, 1) := by decide +kernel
theorem dL_law_302 : decode cL_law 302 = .ok (.iconst 1, 1) := by decide +kernel
theorem dL_law_303 : decode cL_law 303 = .ok (.iadd, 1) := by decide +kernel
theorem dL_law_304 : decode cL_law 304 = .ok (.iaload, 1) := by decide +kernel
theorem dL_law_305 : decode cL_law 305 = .ok (.invokevirtual 27, 3) := by decide +kernel
theorem dL_law_308 : decode cL_law 308 = .ok (.aload_n 2, 1) := by decide +kernel
theorem dL_law_309 : decode cL_law 309 = .ok (.aload_n 0, 1) := by decide +kernel
theorem dL_law_310 : decode cL_law 310 = .ok (.iload_n 3, 1) := by decide +kernel
theorem dL_law_311 : decode cL_law 311 = .ok (.iconst 1, 1) := by decide +kernel
theorem dL_law_312 : decode cL_law 312 = .ok (.iadd, 1) := by decide +kernel
theorem dL_law_313 : decode cL_law 313 = .ok (.iaload, 1) := by decide +kernel
theorem dL_law_314 : decode cL_law 314 = .ok (.invokevirtual 30, 3) := by decide +kernel
theorem dL_law_317 : decode cL_law 317 = .ok (.if_icmp .eq 697, 3) := by decide +kernel
theorem dL_law_320 : decode cL_law 320 = .ok (.iconst 0, 1) := by decide +kernel
theorem dL_law_321 : decode cL_law 321 = .ok (.ireturn, 1) := by decide +kernel
theorem dL_law_322 : decode cL_law 322 = .ok (.aload_n 1, 1) := by decide +kernel
theorem dL_law_323 : decode cL_law 323 = .ok (.invokevirtual 31, 3) := by decide +kernel
theorem dL_law_326 : decode cL_law 326 = .ok (.aload_n 2, 1) := by decide +kernel
theorem dL_law_327 : decode cL_law 327 = .ok (.invokevirtual 35, 3) := by decide +kernel
theorem dL_law_330 : decode cL_law 330 = .ok (.if_icmp .eq 684, 3) := by decide +kernel
theorem dL_law_333 : decode cL_law 333 = .ok (.iconst 0, 1) := by decide +kernel
theorem dL_law_334 : decode cL_law 334 = .ok (.ireturn, 1) := by decide +kernel
theorem dL_law_335 : decode cL_law 335 = .ok (.aload_n 1, 1) := by decide +kernel
theorem dL_law_336 : decode cL_law 336 = .ok (.invokevirtual 36, 3) := by decide +kernel
theorem dL_law_339 : decode cL_law 339 = .ok (.aload_n 2, 1) := by decide +kernel
theorem dL_law_340 : decode cL_law 340 = .ok (.invokevirtual 39, 3) := by decide +kernel
theorem dL_law_343 : decode cL_law 343 = .ok (.if_icmp .eq 671, 3) := by decide +kernel
theorem dL_law_346 : decode cL_law 346 = .ok (.iconst 0, 1) := by decide +kernel
theorem dL_law_347 : decode cL_law 347 = .ok (.ireturn, 1) := by decide +kernel
theorem dL_law_348 : decode cL_law 348 = .ok (.aload_n 1, 1) := by decide +kernel
theorem dL_law_349 : decode cL_law 349 = .ok (.aload_n 0, 1) := by decide +kernel
theorem dL_law_350 : decode cL_law 350 = .ok (.iload_n 3, 1) := by decide +kernel
theorem dL_law_351 : decode cL_law 351 = .ok (.iconst 1, 1) := by decide +kernel
theorem dL_law_352 : decode cL_law 352 = .ok (.iadd, 1) := by decide +kernel
theorem dL_law_353 : decode cL_law 353 = .ok (.iaload, 1) := by decide +kernel
theorem dL_law_354 : decode cL_law 354 = .ok (.invokevirtual 40, 3) := by decide +kernel
theorem dL_law_357 : decode cL_law 357 = .ok (.aload_n 2, 1) := by decide +kernel
theorem dL_law_358 : decode cL_law 358 = .ok (.aload_n 0, 1) := by decide +kernel
theorem dL_law_359 : decode cL_law 359 = .ok (.iload_n 3, 1) := by decide +kernel
theorem dL_law_360 : decode cL_law 360 = .ok (.iconst 1, 1) := by decide +kernel
theorem dL_law_361 : decode cL_law 361 = .ok (.iadd, 1) := by decide +kernel
theorem dL_law_362 : decode cL_law 362 = .ok (.iaload, 1) := by decide +kernel
theorem dL_law_363 : decode cL_law 363 = .ok (.invokevirtual 43, 3) := by decide +kernel
theorem dL_law_366 : decode cL_law 366 = .ok (.if_icmp .eq 648, 3) := by decide +kernel
theorem dL_law_369 : decode cL_law 369 = .ok (.iconst 0, 1) := by decide +kernel
theorem dL_law_370 : decode cL_law 370 = .ok (.ireturn, 1) := by decide +kernel
theorem dL_law_371 : decode cL_law 371 = .ok (.aload_n 1, 1) := by decide +kernel
theorem dL_law_372 : decode cL_law 372 = .ok (.aload_n 0, 1) := by decide +kernel
theorem dL_law_373 : decode cL_law 373 = .ok (.iload_n 3, 1) := by decide +kernel
theorem dL_law_374 : decode cL_law 374 = .ok (.iconst 1, 1) := by decide +kernel
theorem dL_law_375 : decode cL_law 375 = .ok (.iadd, 1) := by decide +kernel
theorem dL_law_376 : decode cL_law 376 = .ok (.iaload, 1) := by decide +kernel
theorem dL_law_377 : decode cL_law 377 = .ok (.aload_n 0, 1) := by decide +kernel
theorem dL_law_378 : decode cL_law 378 = .ok (.iload_n 3, 1) := by decide +kernel
theorem dL_law_379 : decode cL_law 379 = .ok (.iconst 2, 1) := by decide +kernel
theorem dL_law_380 : decode cL_law 380 = .ok (.iadd, 1) := by decide +kernel
theorem dL_law_381 : decode cL_law 381 = .ok (.iaload, 1) := by decide +kernel
theorem dL_law_382 : decode cL_law 382 = .ok (.invokevirtual 44, 3) := by decide +kernel
theorem dL_law_385 : decode cL_law 385 = .ok (.aload_n 2, 1) := by decide +kernel
theorem dL_law_386 : decode cL_law 386 = .ok (.aload_n 0, 1) := by decide +kernel
theorem dL_law_387 : decode cL_law 387 = .ok (.iload_n 3, 1) := by decide +kernel
theorem dL_law_388 : decode cL_law 388 = .ok (.iconst 1, 1) := by decide +kernel
theorem dL_law_389 : decode cL_law 389 = .ok (.iadd, 1) := by decide +kernel
theorem dL_law_390 : decode cL_law 390 = .ok (.iaload, 1) := by decide +kernel
theorem dL_law_391 : decode cL_law 391 = .ok (.aload_n 0, 1) := by decide +kernel
theorem dL_law_392 : decode cL_law 392 = .ok (.iload_n 3, 1) := by decide +kernel
theorem dL_law_393 : decode cL_law 393 = .ok (.iconst 2, 1) := by decide +kernel
theorem dL_law_394 : decode cL_law 394 = .ok (.iadd, 1) := by decide +kernel
theorem dL_law_395 : decode cL_law 395 = .ok (.iaload, 1) := by decide +kernel
theorem dL_law_396 : decode cL_law 396 = .ok (.invokevirtual 48, 3) := by decide +kernel
theorem dL_law_399 : decode cL_law 399 = .ok (.if_icmp .eq 615, 3) := by decide +kernel
theorem dL_law_402 : decode cL_law 402 = .ok (.iconst 0, 1) := by decide +kernel
theorem dL_law_403 : decode cL_law 403 = .ok (.ireturn, 1) := by decide +kernel
theorem dL_law_404 : decode cL_law 404 = .ok (.aload_n 1, 1) := by decide +kernel
theorem dL_law_405 : decode cL_law 405 = .ok (.aload_n 0, 1) := by decide +kernel
theorem dL_law_406 : decode cL_law 406 = .ok (.iload_n 3, 1) := by decide +kernel
theorem dL_law_407 : decode cL_law 407 = .ok (.iconst 1, 1) := by decide +kernel
theorem dL_law_408 : decode cL_law 408 = .ok (.iadd, 1) := by decide +kernel
theorem dL_law_409 : decode cL_law 409 = .ok (.iaload, 1) := by decide +kernel
theorem dL_law_410 : decode cL_law 410 = .ok (.invokevirtual 49, 3) := by decide +kernel
theorem dL_law_413 : decode cL_law 413 = .ok (.aload_n 2, 1) := by decide +kernel
theorem dL_law_414 : decode cL_law 414 = .ok (.aload_n 0, 1) := by decide +kernel
theorem dL_law_415 : decode cL_law 415 = .ok (.iload_n 3, 1) := by decide +kernel
theorem dL_law_416 : decode cL_law 416 = .ok (.iconst 1, 1) := by decide +kernel
theorem dL_law_417 : decode cL_law 417 = .ok (.iadd, 1) := by decide +kernel
theorem dL_law_418 : decode cL_law 418 = .ok (.iaload, 1) := by decide +kernel
theorem dL_law_419 : decode cL_law 419 = .ok (.invokevirtual 52, 3) := by decide +kernel
theorem dL_law_422 : decode cL_law 422 = .ok (.if_icmp .eq 592, 3) := by decide +kernel
theorem dL_law_425 : decode cL_law 425 = .ok (.iconst 0, 1) := by decide +kernel
theorem dL_law_426 : decode cL_law 426 = .ok (.ireturn, 1) := by decide +kernel
theorem dL_law_427 : decode cL_law 427 = .ok (.aload_n 1, 1) := by decide +kernel
theorem dL_law_428 : decode cL_law 428 = .ok (.aload_n 0, 1) := by decide +kernel
theorem dL_law_429 : decode cL_law 429 = .ok (.iload_n 3, 1) := by decide +kernel
theorem dL_law_430 : decode cL_law 430 = .ok (.iconst 1, 1) := by decide +kernel
theorem dL_law_431 : decode cL_law 431 = .ok (.iadd, 1) := by decide +kernel
theorem dL_law_432 : decode cL_law 432 = .ok (.iaload, 1) := by decide +kernel
theorem dL_law_433 : decode cL_law 433 = .ok (.invokevirtual 53, 3) := by decide +kernel
theorem dL_law_436 : decode cL_law 436 = .ok (.aload_n 2, 1) := by decide +kernel
theorem dL_law_437 : decode cL_law 437 = .ok (.aload_n 0, 1) := by decide +kernel
theorem dL_law_438 : decode cL_law 438 = .ok (.iload_n 3, 1) := by decide +kernel
theorem dL_law_439 : decode cL_law 439 = .ok (.iconst 1, 1) := by decide +kernel
theorem dL_law_440 : decode cL_law 440 = .ok (.iadd, 1) := by decide +kernel
theorem dL_law_441 : decode cL_law 441 = .ok (.iaload, 1) := by decide +kernel
theorem dL_law_442 : decode cL_law 442 = .ok (.invokevirtual 56, 3) := by decide +kernel
theorem dL_law_445 : decode cL_law 445 = .ok (.if_icmp .eq 569, 3) := by decide +kernel
theorem dL_law_448 : decode cL_law 448 = .ok (.iconst 0, 1) := by decide +kernel
theorem dL_law_449 : decode cL_law 449 = .ok (.ireturn, 1) := by decide +kernel
theorem dL_law_450 : decode cL_law 450 = .ok (.aload_n 1, 1) := by decide +kernel
theorem dL_law_451 : decode cL_law 451 = .ok (.aload_n 0, 1) := by decide +kernel
theorem dL_law_452 : decode cL_law 452 = .ok (.iload_n 3, 1) := by decide +kernel
theorem dL_law_453 : decode cL_law 453 = .ok (.iconst 1, 1) := by decide +kernel
theorem dL_law_454 : decode cL_law 454 = .ok (.iadd, 1) := by decide +kernel
theorem dL_law_455 : decode cL_law 455 = .ok (.iaload, 1) := by decide +kernel
theorem dL_law_456 : decode cL_law 456 = .ok (.aload_n 0, 1) := by decide +kernel
theorem dL_law_457 : decode cL_law 457 = .ok (.iload_n 3, 1) := by decide +kernel
theorem dL_law_458 : decode cL_law 458 = .ok (.iconst 2, 1) := by decide +kernel
theorem dL_law_459 : decode cL_law 459 = .ok (.iadd, 1) := by decide +kernel
theorem dL_law_460 : decode cL_law 460 = .ok (.iaload, 1) := by decide +kernel
theorem dL_law_461 : decode cL_law 461 = .ok (.invokevirtual 57, 3) := by decide +kernel
theorem dL_law_464 : decode cL_law 464 = .ok (.aload_n 2, 1) := by decide +kernel
theorem dL_law_465 : decode cL_law 465 = .ok (.aload_n 0, 1) := by decide +kernel
theorem dL_law_466 : decode cL_law 466 = .ok (.iload_n 3, 1) := by decide +kernel
theorem dL_law_467 : decode cL_law 467 = .ok (.iconst 1, 1) := by decide +kernel
theorem dL_law_468 : decode cL_law 468 = .ok (.iadd, 1) := by decide +kernel
theorem dL_law_469 : decode cL_law 469 = .ok (.iaload, 1) := by decide +kernel
theorem dL_law_470 : decode cL_law 470 = .ok (.aload_n 0, 1) := by decide +kernel
theorem dL_law_471 : decode cL_law 471 = .ok (.iload_n 3, 1) := by decide +kernel
theorem dL_law_472 : decode cL_law 472 = .ok (.iconst 2, 1) := by decide +kernel
theorem dL_law_473 : decode cL_law 473 = .ok (.iadd, 1) := by decide +kernel
theorem dL_law_474 : decode cL_law 474 = .ok (.iaload, 1) := by decide +kernel
theorem dL_law_475 : decode cL_law 475 = .ok (.invokevirtual 60, 3) := by decide +kernel
theorem dL_law_478 : decode cL_law 478 = .ok (.if_icmp .eq 536, 3) := by decide +kernel
theorem dL_law_481 : decode cL_law 481 = .ok (.iconst 0, 1) := by decide +kernel
theorem dL_law_482 : decode cL_law 482 = .ok (.ireturn, 1) := by decide +kernel
theorem dL_law_483 : decode cL_law 483 = .ok (.aload_n 1, 1) := by decide +kernel
theorem dL_law_484 : decode cL_law 484 = .ok (.aload_n 0, 1) := by decide +kernel
theorem dL_law_485 : decode cL_law 485 = .ok (.iload_n 3, 1) := by decide +kernel
theorem dL_law_486 : decode cL_law 486 = .ok (.iconst 1, 1) := by decide +kernel
theorem dL_law_487 : decode cL_law 487 = .ok (.iadd, 1) := by decide +kernel
theorem dL_law_488 : decode cL_law 488 = .ok (.iaload, 1) := by decide +kernel
theorem dL_law_489 : decode cL_law 489 = .ok (.invokevirtual 61, 3) := by decide +kernel
theorem dL_law_492 : decode cL_law 492 = .ok (.aload_n 2, 1) := by decide +kernel
theorem dL_law_493 : decode cL_law 493 = .ok (.aload_n 0, 1) := by decide +kernel
theorem dL_law_494 : decode cL_law 494 = .ok (.iload_n 3, 1) := by decide +kernel
theorem dL_law_495 : decode cL_law 495 = .ok (.iconst 1, 1) := by decide +kernel
theorem dL_law_496 : decode cL_law 496 = .ok (.iadd, 1) := by decide +kernel
theorem dL_law_497 : decode cL_law 497 = .ok (.iaload, 1) := by decide +kernel
theorem dL_law_498 : decode cL_law 498 = .ok (.invokevirtual 64, 3) := by decide +kernel
theorem dL_law_501 : decode cL_law 501 = .ok (.if_icmp .eq 513, 3) := by decide +kernel
theorem dL_law_504 : decode cL_law 504 = .ok (.iconst 0, 1) := by decide +kernel
theorem dL_law_505 : decode cL_law 505 = .ok (.ireturn, 1) := by decide +kernel
theorem dL_law_506 : decode cL_law 506 = .ok (.aload_n 1, 1) := by decide +kernel
theorem dL_law_507 : decode cL_law 507 = .ok (.aload_n 0, 1) := by decide +kernel
theorem dL_law_508 : decode cL_law 508 = .ok (.iload_n 3, 1) := by decide +kernel
theorem dL_law_509 : decode cL_law 509 = .ok (.iconst 1, 1) := by decide +kernel
theorem dL_law_510 : decode cL_law 510 = .ok (.iadd, 1) := by decide +kernel
theorem dL_law_511 : decode cL_law 511 = .ok (.iaload, 1) := by decide +kernel
theorem dL_law_512 : decode cL_law 512 = .ok (.invokevirtual 65, 3) := by decide +kernel
theorem dL_law_515 : decode cL_law 515 = .ok (.aload_n 2, 1) := by decide +kernel
theorem dL_law_516 : decode cL_law 516 = .ok (.aload_n 0, 1) := by decide +kernel
theorem dL_law_517 : decode cL_law 517 = .ok (.iload_n 3, 1) := by decide +kernel
theorem dL_law_518 : decode cL_law 518 = .ok (.iconst 1, 1) := by decide +kernel
theorem dL_law_519 : decode cL_law 519 = .ok (.iadd, 1) := by decide +kernel
theorem dL_law_520 : decode cL_law 520 = .ok (.iaload, 1) := by decide +kernel
theorem dL_law_521 : decode cL_law 521 = .ok (.invokevirtual 68, 3) := by decide +kernel
theorem dL_law_524 : decode cL_law 524 = .ok (.if_icmp .eq 490, 3) := by decide +kernel
theorem dL_law_527 : decode cL_law 527 = .ok (.iconst 0, 1) := by decide +kernel
theorem dL_law_528 : decode cL_law 528 = .ok (.ireturn, 1) := by decide +kernel
theorem dL_law_529 : decode cL_law 529 = .ok (.aload_n 1, 1) := by decide +kernel
theorem dL_law_530 : decode cL_law 530 = .ok (.aload_n 0, 1) := by decide +kernel
theorem dL_law_531 : decode cL_law 531 = .ok (.iload_n 3, 1) := by decide +kernel
theorem dL_law_532 : decode cL_law 532 = .ok (.iconst 1, 1) := by decide +kernel
theorem dL_law_533 : decode cL_law 533 = .ok (.iadd, 1) := by decide +kernel
theorem dL_law_534 : decode cL_law 534 = .ok (.iaload, 1) := by decide +kernel
theorem dL_law_535 : decode cL_law 535 = .ok (.invokevirtual 69, 3) := by decide +kernel
theorem dL_law_538 : decode cL_law 538 = .ok (.aload_n 2, 1) := by decide +kernel
theorem dL_law_539 : decode cL_law 539 = .ok (.aload_n 0, 1) := by decide +kernel
theorem dL_law_540 : decode cL_law 540 = .ok (.iload_n 3, 1) := by decide +kernel
theorem dL_law_541 : decode cL_law 541 = .ok (.iconst 1, 1) := by decide +kernel
theorem dL_law_542 : decode cL_law 542 = .ok (.iadd, 1) := by decide +kernel
theorem dL_law_543 : decode cL_law 543 = .ok (.iaload, 1) := by decide +kernel
theorem dL_law_544 : decode cL_law 544 = .ok (.invokevirtual 72, 3) := by decide +kernel
theorem dL_law_547 : decode cL_law 547 = .ok (.if_icmp .eq 467, 3) := by decide +kernel
theorem dL_law_550 : decode cL_law 550 = .ok (.iconst 0, 1) := by decide +kernel
theorem dL_law_551 : decode cL_law 551 = .ok (.ireturn, 1) := by decide +kernel
theorem dL_law_552 : decode cL_law 552 = .ok (.aload_n 1, 1) := by decide +kernel
theorem dL_law_553 : decode cL_law 553 = .ok (.aload_n 0, 1) := by decide +kernel
theorem dL_law_554 : decode cL_law 554 = .ok (.iload_n 3, 1) := by decide +kernel
theorem dL_law_555 : decode cL_law 555 = .ok (.iconst 1, 1) := by decide +kernel
theorem dL_law_556 : decode cL_law 556 = .ok (.iadd, 1) := by decide +kernel
theorem dL_law_557 : decode cL_law 557 = .ok (.iaload, 1) := by decide +kernel
theorem dL_law_558 : decode cL_law 558 = .ok (.invokevirtual 73, 3) := by decide +kernel
theorem dL_law_561 : decode cL_law 561 = .ok (.aload_n 2, 1) := by decide +kernel
theorem dL_law_562 : decode cL_law 562 = .ok (.aload_n 0, 1) := by decide +kernel
theorem dL_law_563 : decode cL_law 563 = .ok (.iload_n 3, 1) := by decide +kernel
theorem dL_law_564 : decode cL_law 564 = .ok (.iconst 1, 1) := by decide +kernel
theorem dL_law_565 : decode cL_law 565 = .ok (.iadd, 1) := by decide +kernel
theorem dL_law_566 : decode cL_law 566 = .ok (.iaload, 1) := by decide +kernel
theorem dL_law_567 : decode cL_law 567 = .ok (.invokevirtual 76, 3) := by decide +kernel
theorem dL_law_570 : decode cL_law 570 = .ok (.if_icmp .eq 444, 3) := by decide +kernel
theorem dL_law_573 : decode cL_law 573 = .ok (.iconst 0, 1) := by decide +kernel
theorem dL_law_574 : decode cL_law 574 = .ok (.ireturn, 1) := by decide +kernel
theorem dL_law_575 : decode cL_law 575 = .ok (.aload_n 1, 1) := by decide +kernel
theorem dL_law_576 : decode cL_law 576 = .ok (.aload_n 0, 1) := by decide +kernel
theorem dL_law_577 : decode cL_law 577 = .ok (.iload_n 3, 1) := by decide +kernel
theorem dL_law_578 : decode cL_law 578 = .ok (.iconst 1, 1) := by decide +kernel
theorem dL_law_579 : decode cL_law 579 = .ok (.iadd, 1) := by decide +kernel
theorem dL_law_580 : decode cL_law 580 = .ok (.iaload, 1) := by decide +kernel
theorem dL_law_581 : decode cL_law 581 = .ok (.aload_n 0, 1) := by decide +kernel
theorem dL_law_582 : decode cL_law 582 = .ok (.iload_n 3, 1) := by decide +kernel
theorem dL_law_583 : decode cL_law 583 = .ok (.iconst 2, 1) := by decide +kernel
theorem dL_law_584 : decode cL_law 584 = .ok (.iadd, 1) := by decide +kernel
theorem dL_law_585 : decode cL_law 585 = .ok (.iaload, 1) := by decide +kernel
theorem dL_law_586 : decode cL_law 586 = .ok (.invokevirtual 77, 3) := by decide +kernel
theorem dL_law_589 : decode cL_law 589 = .ok (.aload_n 2, 1) := by decide +kernel
theorem dL_law_590 : decode cL_law 590 = .ok (.aload_n 0, 1) := by decide +kernel
theorem dL_law_591 : decode cL_law 591 = .ok (.iload_n 3, 1) := by decide +kernel
theorem dL_law_592 : decode cL_law 592 = .ok (.iconst 1, 1) := by decide +kernel
theorem dL_law_593 : decode cL_law 593 = .ok (.iadd, 1) := by decide +kernel
theorem dL_law_594 : decode cL_law 594 = .ok (.iaload, 1) := by decide +kernel
theorem dL_law_595 : decode cL_law 595 = .ok (.aload_n 0, 1) := by decide +kernel
theorem dL_law_596 : decode cL_law 596 = .ok (.iload_n 3, 1) := by decide +kernel
theorem dL_law_597 : decode cL_law 597 = .ok (.iconst 2, 1) := by decide +kernel
theorem dL_law_598 : decode cL_law 598 = .ok (.iadd, 1) := by decide +kernel
theorem dL_law_599 : decode cL_law 599 = .ok (.iaload, 1) := by decide +kernel
theorem dL_law_600 : decode cL_law 600 = .ok (.invokevirtual 80, 3) := by decide +kernel
theorem dL_law_603 : decode cL_law 603 = .ok (.if_icmp .eq 411, 3) := by decide +kernel
theorem dL_law_606 : decode cL_law 606 = .ok (.iconst 0, 1) := by decide +kernel
theorem dL_law_607 : decode cL_law 607 = .ok (.ireturn, 1) := by decide +kernel
theorem dL_law_608 : decode cL_law 608 = .ok (.aload_n 1, 1) := by decide +kernel
theorem dL_law_609 : decode cL_law 609 = .ok (.aload_n 0, 1) := by decide +kernel
theorem dL_law_610 : decode cL_law 610 = .ok (.iload_n 3, 1) := by decide +kernel
theorem dL_law_611 : decode cL_law 611 = .ok (.iconst 1, 1) := by decide +kernel
theorem dL_law_612 : decode cL_law 612 = .ok (.iadd, 1) := by decide +kernel
theorem dL_law_613 : decode cL_law 613 = .ok (.iaload, 1) := by decide +kernel
theorem dL_law_614 : decode cL_law 614 = .ok (.aload_n 0, 1) := by decide +kernel
theorem dL_law_615 : decode cL_law 615 = .ok (.iload_n 3, 1) := by decide +kernel
theorem dL_law_616 : decode cL_law 616 = .ok (.iconst 2, 1) := by decide +kernel
theorem dL_law_617 : decode cL_law 617 = .ok (.iadd, 1) := by decide +kernel
theorem dL_law_618 : decode cL_law 618 = .ok (.iaload, 1) := by decide +kernel
theorem dL_law_619 : decode cL_law 619 = .ok (.invokevirtual 81, 3) := by decide +kernel
theorem dL_law_622 : decode cL_law 622 = .ok (.aload_n 2, 1) := by decide +kernel
theorem dL_law_623 : decode cL_law 623 = .ok (.aload_n 0, 1) := by decide +kernel
theorem dL_law_624 : decode cL_law 624 = .ok (.iload_n 3, 1) := by decide +kernel
theorem dL_law_625 : decode cL_law 625 = .ok (.iconst 1, 1) := by decide +kernel
theorem dL_law_626 : decode cL_law 626 = .ok (.iadd, 1) := by decide +kernel
theorem dL_law_627 : decode cL_law 627 = .ok (.iaload, 1) := by decide +kernel
theorem dL_law_628 : decode cL_law 628 = .ok (.aload_n 0, 1) := by decide +kernel
theorem dL_law_629 : decode cL_law 629 = .ok (.iload_n 3, 1) := by decide +kernel
theorem dL_law_630 : decode cL_law 630 = .ok (.iconst 2, 1) := by decide +kernel
theorem dL_law_631 : decode cL_law 631 = .ok (.iadd, 1) := by decide +kernel
theorem dL_law_632 : decode cL_law 632 = .ok (.iaload, 1) := by decide +kernel
theorem dL_law_633 : decode cL_law 633 = .ok (.invokevirtual 84, 3) := by decide +kernel
theorem dL_law_636 : decode cL_law 636 = .ok (.if_icmp .eq 378, 3) := by decide +kernel
theorem dL_law_639 : decode cL_law 639 = .ok (.iconst 0, 1) := by decide +kernel
theorem dL_law_640 : decode cL_law 640 = .ok (.ireturn, 1) := by decide +kernel
theorem dL_law_641 : decode cL_law 641 = .ok (.aload_n 1, 1) := by decide +kernel
theorem dL_law_642 : decode cL_law 642 = .ok (.aload_n 0, 1) := by decide +kernel
theorem dL_law_643 : decode cL_law 643 = .ok (.iload_n 3, 1) := by decide +kernel
theorem dL_law_644 : decode cL_law 644 = .ok (.iconst 1, 1) := by decide +kernel
theorem dL_law_645 : decode cL_law 645 = .ok (.iadd, 1) := by decide +kernel
theorem dL_law_646 : decode cL_law 646 = .ok (.iaload, 1) := by decide +kernel
theorem dL_law_647 : decode cL_law 647 = .ok (.aload_n 0, 1) := by decide +kernel
theorem dL_law_648 : decode cL_law 648 = .ok (.iload_n 3, 1) := by decide +kernel
theorem dL_law_649 : decode cL_law 649 = .ok (.iconst 2, 1) := by decide +kernel
theorem dL_law_650 : decode cL_law 650 = .ok (.iadd, 1) := by decide +kernel
theorem dL_law_651 : decode cL_law 651 = .ok (.iaload, 1) := by decide +kernel
theorem dL_law_652 : decode cL_law 652 = .ok (.invokevirtual 85, 3) := by decide +kernel
theorem dL_law_655 : decode cL_law 655 = .ok (.aload_n 2, 1) := by decide +kernel
theorem dL_law_656 : decode cL_law 656 = .ok (.aload_n 0, 1) := by decide +kernel
theorem dL_law_657 : decode cL_law 657 = .ok (.iload_n 3, 1) := by decide +kernel
theorem dL_law_658 : decode cL_law 658 = .ok (.iconst 1, 1) := by decide +kernel
theorem dL_law_659 : decode cL_law 659 = .ok (.iadd, 1) := by decide +kernel
theorem dL_law_660 : decode cL_law 660 = .ok (.iaload, 1) := by decide +kernel
theorem dL_law_661 : decode cL_law 661 = .ok (.aload_n 0, 1) := by decide +kernel
theorem dL_law_662 : decode cL_law 662 = .ok (.iload_n 3, 1) := by decide +kernel
theorem dL_law_663 : decode cL_law 663 = .ok (.iconst 2, 1) := by decide +kernel
theorem dL_law_664 : decode cL_law 664 = .ok (.iadd, 1) := by decide +kernel
theorem dL_law_665 : decode cL_law 665 = .ok (.iaload, 1) := by decide +kernel
theorem dL_law_666 : decode cL_law 666 = .ok (.invokevirtual 88, 3) := by decide +kernel
theorem dL_law_669 : decode cL_law 669 = .ok (.if_icmp .eq 345, 3) := by decide +kernel
theorem dL_law_672 : decode cL_law 672 = .ok (.iconst 0, 1) := by decide +kernel
theorem dL_law_673 : decode cL_law 673 = .ok (.ireturn, 1) := by decide +kernel
theorem dL_law_674 : decode cL_law 674 = .ok (.aload_n 1, 1) := by decide +kernel
theorem dL_law_675 : decode cL_law 675 = .ok (.aload_n 0, 1) := by decide +kernel
theorem dL_law_676 : decode cL_law 676 = .ok (.iload_n 3, 1) := by decide +kernel
theorem dL_law_677 : decode cL_law 677 = .ok (.iconst 1, 1) := by decide +kernel
theorem dL_law_678 : decode cL_law 678 = .ok (.iadd, 1) := by decide +kernel
theorem dL_law_679 : decode cL_law 679 = .ok (.iaload, 1) := by decide +kernel
theorem dL_law_680 : decode cL_law 680 = .ok (.invokevirtual 89, 3) := by decide +kernel
theorem dL_law_683 : decode cL_law 683 = .ok (.aload_n 2, 1) := by decide +kernel
theorem dL_law_684 : decode cL_law 684 = .ok (.aload_n 0, 1) := by decide +kernel
theorem dL_law_685 : decode cL_law 685 = .ok (.iload_n 3, 1) := by decide +kernel
theorem dL_law_686 : decode cL_law 686 = .ok (.iconst 1, 1) := by decide +kernel
theorem dL_law_687 : decode cL_law 687 = .ok (.iadd, 1) := by decide +kernel
theorem dL_law_688 : decode cL_law 688 = .ok (.iaload, 1) := by decide +kernel
theorem dL_law_689 : decode cL_law 689 = .ok (.invokevirtual 92, 3) := by decide +kernel
theorem dL_law_692 : decode cL_law 692 = .ok (.if_icmp .eq 322, 3) := by decide +kernel
theorem dL_law_695 : decode cL_law 695 = .ok (.iconst 0, 1) := by decide +kernel
theorem dL_law_696 : decode cL_law 696 = .ok (.ireturn, 1) := by decide +kernel
theorem dL_law_697 : decode cL_law 697 = .ok (.aload_n 1, 1) := by decide +kernel
theorem dL_law_698 : decode cL_law 698 = .ok (.aload_n 0, 1) := by decide +kernel
theorem dL_law_699 : decode cL_law 699 = .ok (.iload_n 3, 1) := by decide +kernel
theorem dL_law_700 : decode cL_law 700 = .ok (.iconst 1, 1) := by decide +kernel
theorem dL_law_701 : decode cL_law 701 = .ok (.iadd, 1) := by decide +kernel
theorem dL_law_702 : decode cL_law 702 = .ok (.iaload, 1) := by decide +kernel
theorem dL_law_703 : decode cL_law 703 = .ok (.invokevirtual 93, 3) := by decide +kernel
theorem dL_law_706 : decode cL_law 706 = .ok (.aload_n 2, 1) := by decide +kernel
theorem dL_law_707 : decode cL_law 707 = .ok (.aload_n 0, 1) := by decide +kernel
theorem dL_law_708 : decode cL_law 708 = .ok (.iload_n 3, 1) := by decide +kernel
theorem dL_law_709 : decode cL_law 709 = .ok (.iconst 1, 1) := by decide +kernel
theorem dL_law_710 : decode cL_law 710 = .ok (.iadd, 1) := by decide +kernel
theorem dL_law_711 : decode cL_law 711 = .ok (.iaload, 1) := by decide +kernel
theorem dL_law_712 : decode cL_law 712 = .ok (.invokevirtual 96, 3) := by decide +kernel
theorem dL_law_715 : decode cL_law 715 = .ok (.if_icmp .eq 299, 3) := by decide +kernel
theorem dL_law_718 : decode cL_law 718 = .ok (.iconst 0, 1) := by decide +kernel
theorem dL_law_719 : decode cL_law 719 = .ok (.ireturn, 1) := by decide +kernel
theorem dL_law_720 : decode cL_law 720 = .ok (.aload_n 1, 1) := by decide +kernel
theorem dL_law_721 : decode cL_law 721 = .ok (.aload_n 0, 1) := by decide +kernel
theorem dL_law_722 : decode cL_law 722 = .ok (.iload_n 3, 1) := by decide +kernel
theorem dL_law_723 : decode cL_law 723 = .ok (.iconst 1, 1) := by decide +kernel
theorem dL_law_724 : decode cL_law 724 = .ok (.iadd, 1) := by decide +kernel
theorem dL_law_725 : decode cL_law 725 = .ok (.iaload, 1) := by decide +kernel
theorem dL_law_726 : decode cL_law 726 = .ok (.invokevirtual 97, 3) := by decide +kernel
theorem dL_law_729 : decode cL_law 729 = .ok (.aload_n 2, 1) := by decide +kernel
theorem dL_law_730 : decode cL_law 730 = .ok (.aload_n 0, 1) := by decide +kernel
theorem dL_law_731 : decode cL_law 731 = .ok (.iload_n 3, 1) := by decide +kernel
theorem dL_law_732 : decode cL_law 732 = .ok (.iconst 1, 1) := by decide +kernel
theorem dL_law_733 : decode cL_law 733 = .ok (.iadd, 1) := by decide +kernel
theorem dL_law_734 : decode cL_law 734 = .ok (.iaload, 1) := by decide +kernel
theorem dL_law_735 : decode cL_law 735 = .ok (.invokevirtual 100, 3) := by decide +kernel
theorem dL_law_738 : decode cL_law 738 = .ok (.if_icmp .eq 276, 3) := by decide +kernel
theorem dL_law_741 : decode cL_law 741 = .ok (.iconst 0, 1) := by decide +kernel
theorem dL_law_742 : decode cL_law 742 = .ok (.ireturn, 1) := by decide +kernel
theorem dL_law_743 : decode cL_law 743 = .ok (.aload_n 1, 1) := by decide +kernel
theorem dL_law_744 : decode cL_law 744 = .ok (.aload_n 0, 1) := by decide +kernel
theorem dL_law_745 : decode cL_law 745 = .ok (.iload_n 3, 1) := by decide +kernel
theorem dL_law_746 : decode cL_law 746 = .ok (.iconst 1, 1) := by decide +kernel
theorem dL_law_747 : decode cL_law 747 = .ok (.iadd, 1) := by decide +kernel
theorem dL_law_748 : decode cL_law 748 = .ok (.iaload, 1) := by decide +kernel
theorem dL_law_749 : decode cL_law 749 = .ok (.invokevirtual 101, 3) := by decide +kernel
theorem dL_law_752 : decode cL_law 752 = .ok (.aload_n 2, 1) := by decide +kernel
theorem dL_law_753 : decode cL_law 753 = .ok (.aload_n 0, 1) := by decide +kernel
theorem dL_law_754 : decode cL_law 754 = .ok (.iload_n 3, 1) := by decide +kernel
theorem dL_law_755 : decode cL_law 755 = .ok (.iconst 1, 1) := by decide +kernel
theorem dL_law_756 : decode cL_law 756 = .ok (.iadd, 1) := by decide +kernel
theorem dL_law_757 : decode cL_law 757 = .ok (.iaload, 1) := by decide +kernel
theorem dL_law_758 : decode cL_law 758 = .ok (.invokevirtual 104, 3) := by decide +kernel
theorem dL_law_761 : decode cL_law 761 = .ok (.if_icmp .eq 253, 3) := by decide +kernel
theorem dL_law_764 : decode cL_law 764 = .ok (.iconst 0, 1) := by decide +kernel
theorem dL_law_765 : decode cL_law 765 = .ok (.ireturn, 1) := by decide +kernel
theorem dL_law_766 : decode cL_law 766 = .ok (.aload_n 1, 1) := by decide +kernel
theorem dL_law_767 : decode cL_law 767 = .ok (.aload_n 0, 1) := by decide +kernel
theorem dL_law_768 : decode cL_law 768 = .ok (.iload_n 3, 1) := by decide +kernel
theorem dL_law_769 : decode cL_law 769 = .ok (.iconst 1, 1) := by decide +kernel
theorem dL_law_770 : decode cL_law 770 = .ok (.iadd, 1) := by decide +kernel
theorem dL_law_771 : decode cL_law 771 = .ok (.iaload, 1) := by decide +kernel
theorem dL_law_772 : decode cL_law 772 = .ok (.invokevirtual 105, 3) := by decide +kernel
theorem dL_law_775 : decode cL_law 775 = .ok (.aload_n 2, 1) := by decide +kernel
theorem dL_law_776 : decode cL_law 776 = .ok (.aload_n 0, 1) := by decide +kernel
theorem dL_law_777 : decode cL_law 777 = .ok (.iload_n 3, 1) := by decide +kernel
theorem dL_law_778 : decode cL_law 778 = .ok (.iconst 1, 1) := by decide +kernel
theorem dL_law_779 : decode cL_law 779 = .ok (.iadd, 1) := by decide +kernel
theorem dL_law_780 : decode cL_law 780 = .ok (.iaload, 1) := by decide +kernel
theorem dL_law_781 : decode cL_law 781 = .ok (.invokevirtual 108, 3) := by decide +kernel
theorem dL_law_784 : decode cL_law 784 = .ok (.if_icmp .eq 230, 3) := by decide +kernel
theorem dL_law_787 : decode cL_law 787 = .ok (.iconst 0, 1) := by decide +kernel
theorem dL_law_788 : decode cL_law 788 = .ok (.ireturn, 1) := by decide +kernel
theorem dL_law_789 : decode cL_law 789 = .ok (.aload_n 1, 1) := by decide +kernel
theorem dL_law_790 : decode cL_law 790 = .ok (.invokevirtual 109, 3) := by decide +kernel
theorem dL_law_793 : decode cL_law 793 = .ok (.aload_n 2, 1) := by decide +kernel
theorem dL_law_794 : decode cL_law 794 = .ok (.invokevirtual 112, 3) := by decide +kernel
theorem dL_law_797 : decode cL_law 797 = .ok (.if_icmp .eq 217, 3) := by decide +kernel
theorem dL_law_800 : decode cL_law 800 = .ok (.iconst 0, 1) := by decide +kernel
theorem dL_law_801 : decode cL_law 801 = .ok (.ireturn, 1) := by decide +kernel
theorem dL_law_802 : decode cL_law 802 = .ok (.aload_n 1, 1) := by decide +kernel
theorem dL_law_803 : decode cL_law 803 = .ok (.invokevirtual 113, 3) := by decide +kernel
theorem dL_law_806 : decode cL_law 806 = .ok (.aload_n 2, 1) := by decide +kernel
theorem dL_law_807 : decode cL_law 807 = .ok (.invokevirtual 116, 3) := by decide +kernel
theorem dL_law_810 : decode cL_law 810 = .ok (.if_icmp .eq 204, 3) := by decide +kernel
theorem dL_law_813 : decode cL_law 813 = .ok (.iconst 0, 1) := by decide +kernel
theorem dL_law_814 : decode cL_law 814 = .ok (.ireturn, 1) := by decide +kernel
theorem dL_law_815 : decode cL_law 815 = .ok (.aload_n 1, 1) := by decide +kernel
theorem dL_law_816 : decode cL_law 816 = .ok (.invokevirtual 117, 3) := by decide +kernel
theorem dL_law_819 : decode cL_law 819 = .ok (.aload_n 2, 1) := by decide +kernel
theorem dL_law_820 : decode cL_law 820 = .ok (.invokevirtual 120, 3) := by decide +kernel
theorem dL_law_823 : decode cL_law 823 = .ok (.if_icmp .eq 191, 3) := by decide +kernel
theorem dL_law_826 : decode cL_law 826 = .ok (.iconst 0, 1) := by decide +kernel
theorem dL_law_827 : decode cL_law 827 = .ok (.ireturn, 1) := by decide +kernel
theorem dL_law_828 : decode cL_law 828 = .ok (.aload_n 1, 1) := by decide +kernel
theorem dL_law_829 : decode cL_law 829 = .ok (.invokevirtual 121, 3) := by decide +kernel
theorem dL_law_832 : decode cL_law 832 = .ok (.aload_n 2, 1) := by decide +kernel
theorem dL_law_833 : decode cL_law 833 = .ok (.invokevirtual 124, 3) := by decide +kernel
theorem dL_law_836 : decode cL_law 836 = .ok (.if_icmp .eq 178, 3) := by decide +kernel
theorem dL_law_839 : decode cL_law 839 = .ok (.iconst 0, 1) := by decide +kernel
theorem dL_law_840 : decode cL_law 840 = .ok (.ireturn, 1) := by decide +kernel
theorem dL_law_841 : decode cL_law 841 = .ok (.aload_n 1, 1) := by decide +kernel
theorem dL_law_842 : decode cL_law 842 = .ok (.invokevirtual 125, 3) := by decide +kernel
theorem dL_law_845 : decode cL_law 845 = .ok (.aload_n 2, 1) := by decide +kernel
theorem dL_law_846 : decode cL_law 846 = .ok (.invokevirtual 128, 3) := by decide +kernel
theorem dL_law_849 : decode cL_law 849 = .ok (.if_icmp .eq 165, 3) := by decide +kernel
theorem dL_law_852 : decode cL_law 852 = .ok (.iconst 0, 1) := by decide +kernel
theorem dL_law_853 : decode cL_law 853 = .ok (.ireturn, 1) := by decide +kernel
theorem dL_law_854 : decode cL_law 854 = .ok (.aload_n 1, 1) := by decide +kernel
theorem dL_law_855 : decode cL_law 855 = .ok (.invokevirtual 129, 3) := by decide +kernel
theorem dL_law_858 : decode cL_law 858 = .ok (.aload_n 2, 1) := by decide +kernel
theorem dL_law_859 : decode cL_law 859 = .ok (.invokevirtual 132, 3) := by decide +kernel
theorem dL_law_862 : decode cL_law 862 = .ok (.if_icmp .eq 152, 3) := by decide +kernel
theorem dL_law_865 : decode cL_law 865 = .ok (.iconst 0, 1) := by decide +kernel
theorem dL_law_866 : decode cL_law 866 = .ok (.ireturn, 1) := by decide +kernel
theorem dL_law_867 : decode cL_law 867 = .ok (.aload_n 1, 1) := by decide +kernel
theorem dL_law_868 : decode cL_law 868 = .ok (.invokevirtual 133, 3) := by decide +kernel
theorem dL_law_871 : decode cL_law 871 = .ok (.aload_n 2, 1) := by decide +kernel
theorem dL_law_872 : decode cL_law 872 = .ok (.invokevirtual 136, 3) := by decide +kernel
theorem dL_law_875 : decode cL_law 875 = .ok (.if_icmp .eq 139, 3) := by decide +kernel
theorem dL_law_878 : decode cL_law 878 = .ok (.iconst 0, 1) := by decide +kernel
theorem dL_law_879 : decode cL_law 879 = .ok (.ireturn, 1) := by decide +kernel
theorem dL_law_880 : decode cL_law 880 = .ok (.aload_n 1, 1) := by decide +kernel
theorem dL_law_881 : decode cL_law 881 = .ok (.invokevirtual 137, 3) := by decide +kernel
theorem dL_law_884 : decode cL_law 884 = .ok (.aload_n 2, 1) := by decide +kernel
theorem dL_law_885 : decode cL_law 885 = .ok (.invokevirtual 140, 3) := by decide +kernel
theorem dL_law_888 : decode cL_law 888 = .ok (.if_icmp .eq 126, 3) := by decide +kernel
theorem dL_law_891 : decode cL_law 891 = .ok (.iconst 0, 1) := by decide +kernel
theorem dL_law_892 : decode cL_law 892 = .ok (.ireturn, 1) := by decide +kernel
theorem dL_law_893 : decode cL_law 893 = .ok (.aload_n 1, 1) := by decide +kernel
theorem dL_law_894 : decode cL_law 894 = .ok (.invokevirtual 141, 3) := by decide +kernel
theorem dL_law_897 : decode cL_law 897 = .ok (.aload_n 2, 1) := by decide +kernel
theorem dL_law_898 : decode cL_law 898 = .ok (.invokevirtual 144, 3) := by decide +kernel
theorem dL_law_901 : decode cL_law 901 = .ok (.if_icmp .eq 113, 3) := by decide +kernel
theorem dL_law_904 : decode cL_law 904 = .ok (.iconst 0, 1) := by decide +kernel
theorem dL_law_905 : decode cL_law 905 = .ok (.ireturn, 1) := by decide +kernel
theorem dL_law_906 : decode cL_law 906 = .ok (.aload_n 1, 1) := by decide +kernel
theorem dL_law_907 : decode cL_law 907 = .ok (.aload_n 0, 1) := by decide +kernel
theorem dL_law_908 : decode cL_law 908 = .ok (.iload_n 3, 1) := by decide +kernel
theorem dL_law_909 : decode cL_law 909 = .ok (.iconst 1, 1) := by decide +kernel
theorem dL_law_910 : decode cL_law 910 = .ok (.iadd, 1) := by decide +kernel
theorem dL_law_911 : decode cL_law 911 = .ok (.iaload, 1) := by decide +kernel
theorem dL_law_912 : decode cL_law 912 = .ok (.invokevirtual 145, 3) := by decide +kernel
theorem dL_law_915 : decode cL_law 915 = .ok (.aload_n 2, 1) := by decide +kernel
theorem dL_law_916 : decode cL_law 916 = .ok (.aload_n 0, 1) := by decide +kernel
theorem dL_law_917 : decode cL_law 917 = .ok (.iload_n 3, 1) := by decide +kernel
theorem dL_law_918 : decode cL_law 918 = .ok (.iconst 1, 1) := by decide +kernel
theorem dL_law_919 : decode cL_law 919 = .ok (.iadd, 1) := by decide +kernel
theorem dL_law_920 : decode cL_law 920 = .ok (.iaload, 1) := by decide +kernel
theorem dL_law_921 : decode cL_law 921 = .ok (.invokevirtual 148, 3) := by decide +kernel
theorem dL_law_924 : decode cL_law 924 = .ok (.if_icmp .eq 90, 3) := by decide +kernel
theorem dL_law_927 : decode cL_law 927 = .ok (.iconst 0, 1) := by decide +kernel
theorem dL_law_928 : decode cL_law 928 = .ok (.ireturn, 1) := by decide +kernel
theorem dL_law_929 : decode cL_law 929 = .ok (.aload_n 1, 1) := by decide +kernel
theorem dL_law_930 : decode cL_law 930 = .ok (.invokevirtual 149, 3) := by decide +kernel
theorem dL_law_933 : decode cL_law 933 = .ok (.aload_n 2, 1) := by decide +kernel
theorem dL_law_934 : decode cL_law 934 = .ok (.invokevirtual 152, 3) := by decide +kernel
theorem dL_law_937 : decode cL_law 937 = .ok (.if_icmp .eq 77, 3) := by decide +kernel
theorem dL_law_940 : decode cL_law 940 = .ok (.iconst 0, 1) := by decide +kernel
theorem dL_law_941 : decode cL_law 941 = .ok (.ireturn, 1) := by decide +kernel
theorem dL_law_942 : decode cL_law 942 = .ok (.aload_n 1, 1) := by decide +kernel
theorem dL_law_943 : decode cL_law 943 = .ok (.invokevirtual 153, 3) := by decide +kernel
theorem dL_law_946 : decode cL_law 946 = .ok (.aload_n 2, 1) := by decide +kernel
theorem dL_law_947 : decode cL_law 947 = .ok (.invokevirtual 156, 3) := by decide +kernel
theorem dL_law_950 : decode cL_law 950 = .ok (.if_icmp .eq 64, 3) := by decide +kernel
theorem dL_law_953 : decode cL_law 953 = .ok (.iconst 0, 1) := by decide +kernel
theorem dL_law_954 : decode cL_law 954 = .ok (.ireturn, 1) := by decide +kernel
theorem dL_law_955 : decode cL_law 955 = .ok (.aload_n 1, 1) := by decide +kernel
theorem dL_law_956 : decode cL_law 956 = .ok (.invokevirtual 157, 3) := by decide +kernel
theorem dL_law_959 : decode cL_law 959 = .ok (.aload_n 2, 1) := by decide +kernel
theorem dL_law_960 : decode cL_law 960 = .ok (.invokevirtual 160, 3) := by decide +kernel
theorem dL_law_963 : decode cL_law 963 = .ok (.if_icmp .eq 51, 3) := by decide +kernel
theorem dL_law_966 : decode cL_law 966 = .ok (.iconst 0, 1) := by decide +kernel
theorem dL_law_967 : decode cL_law 967 = .ok (.ireturn, 1) := by decide +kernel
theorem dL_law_968 : decode cL_law 968 = .ok (.aload_n 1, 1) := by decide +kernel
theorem dL_law_969 : decode cL_law 969 = .ok (.aload_n 0, 1) := by decide +kernel
theorem dL_law_970 : decode cL_law 970 = .ok (.iload_n 3, 1) := by decide +kernel
theorem dL_law_971 : decode cL_law 971 = .ok (.iconst 1, 1) := by decide +kernel
theorem dL_law_972 : decode cL_law 972 = .ok (.iadd, 1) := by decide +kernel
theorem dL_law_973 : decode cL_law 973 = .ok (.iaload, 1) := by decide +kernel
theorem dL_law_974 : decode cL_law 974 = .ok (.invokevirtual 161, 3) := by decide +kernel
theorem dL_law_977 : decode cL_law 977 = .ok (.aload_n 2, 1) := by decide +kernel
theorem dL_law_978 : decode cL_law 978 = .ok (.aload_n 0, 1) := by decide +kernel
theorem dL_law_979 : decode cL_law 979 = .ok (.iload_n 3, 1) := by decide +kernel
theorem dL_law_980 : decode cL_law 980 = .ok (.iconst 1, 1) := by decide +kernel
theorem dL_law_981 : decode cL_law 981 = .ok (.iadd, 1) := by decide +kernel
theorem dL_law_982 : decode cL_law 982 = .ok (.iaload, 1) := by decide +kernel
theorem dL_law_983 : decode cL_law 983 = .ok (.invokevirtual 164, 3) := by decide +kernel
theorem dL_law_986 : decode cL_law 986 = .ok (.if_icmp .eq 28, 3) := by decide +kernel
theorem dL_law_989 : decode cL_law 989 = .ok (.iconst 0, 1) := by decide +kernel
theorem dL_law_990 : decode cL_law 990 = .ok (.ireturn, 1) := by decide +kernel
theorem dL_law_991 : decode cL_law 991 = .ok (.aload_n 1, 1) := by decide +kernel
theorem dL_law_992 : decode cL_law 992 = .ok (.aload_n 0, 1) := by decide +kernel
theorem dL_law_993 : decode cL_law 993 = .ok (.iload_n 3, 1) := by decide +kernel
theorem dL_law_994 : decode cL_law 994 = .ok (.iconst 1, 1) := by decide +kernel
theorem dL_law_995 : decode cL_law 995 = .ok (.iadd, 1) := by decide +kernel
theorem dL_law_996 : decode cL_law 996 = .ok (.iaload, 1) := by decide +kernel
theorem dL_law_997 : decode cL_law 997 = .ok (.invokevirtual 165, 3) := by decide +kernel
theorem dL_law_1000 : decode cL_law 1000 = .ok (.aload_n 2, 1) := by decide +kernel
theorem dL_law_1001 : decode cL_law 1001 = .ok (.aload_n 0, 1) := by decide +kernel
theorem dL_law_1002 : decode cL_law 1002 = .ok (.iload_n 3, 1) := by decide +kernel
theorem dL_law_1003 : decode cL_law 1003 = .ok (.iconst 1, 1) := by decide +kernel
theorem dL_law_1004 : decode cL_law 1004 = .ok (.iadd, 1) := by decide +kernel
theorem dL_law_1005 : decode cL_law 1005 = .ok (.iaload, 1) := by decide +kernel
theorem dL_law_1006 : decode cL_law 1006 = .ok (.invokevirtual 168, 3) := by decide +kernel
theorem dL_law_1009 : decode cL_law 1009 = .ok (.if_icmp .eq 5, 3) := by decide +kernel
theorem dL_law_1012 : decode cL_law 1012 = .ok (.iconst 0, 1) := by decide +kernel
theorem dL_law_1013 : decode cL_law 1013 = .ok (.ireturn, 1) := by decide +kernel
theorem dL_law_1014 : decode cL_law 1014 = .ok (.iinc 3 5, 3) := by decide +kernel
theorem dL_law_1017 : decode cL_law 1017 = .ok (.goto (-999), 3) := by decide +kernel
theorem dL_law_1020 : decode cL_law 1020 = .ok (.iconst 1, 1) := by decide +kernel
theorem dL_law_1021 : decode cL_law 1021 = .ok (.ireturn, 1) := by decide +kernel
