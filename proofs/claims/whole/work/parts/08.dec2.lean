theorem dX10_isPlainTeller_0 : decode cX10_isPlainTeller 0 = .ok (.iload_n 0, 1) := by decide +kernel
theorem dX10_isPlainTeller_1 : decode cX10_isPlainTeller 1 = .ok (.ifCond .lt 12, 3) := by decide +kernel
theorem dX10_isPlainTeller_4 : decode cX10_isPlainTeller 4 = .ok (.iload_n 0, 1) := by decide +kernel
theorem dX10_isPlainTeller_5 : decode cX10_isPlainTeller 5 = .ok (.iconst 4, 1) := by decide +kernel
theorem dX10_isPlainTeller_6 : decode cX10_isPlainTeller 6 = .ok (.if_icmp .ge 7, 3) := by decide +kernel
theorem dX10_isPlainTeller_9 : decode cX10_isPlainTeller 9 = .ok (.iconst 1, 1) := by decide +kernel
theorem dX10_isPlainTeller_10 : decode cX10_isPlainTeller 10 = .ok (.goto 4, 3) := by decide +kernel
theorem dX10_isPlainTeller_13 : decode cX10_isPlainTeller 13 = .ok (.iconst 0, 1) := by decide +kernel
theorem dX10_isPlainTeller_14 : decode cX10_isPlainTeller 14 = .ok (.ireturn, 1) := by decide +kernel
theorem dX10_isEvent_0 : decode cX10_isEvent 0 = .ok (.iload_n 0, 1) := by decide +kernel
theorem dX10_isEvent_1 : decode cX10_isEvent 1 = .ok (.ifCond .lt 13, 3) := by decide +kernel
theorem dX10_isEvent_4 : decode cX10_isEvent 4 = .ok (.iload_n 0, 1) := by decide +kernel
theorem dX10_isEvent_5 : decode cX10_isEvent 5 = .ok (.bipush 40, 2) := by decide +kernel
theorem dX10_isEvent_7 : decode cX10_isEvent 7 = .ok (.if_icmp .ge 7, 3) := by decide +kernel
theorem dX10_isEvent_10 : decode cX10_isEvent 10 = .ok (.iconst 1, 1) := by decide +kernel
theorem dX10_isEvent_11 : decode cX10_isEvent 11 = .ok (.goto 4, 3) := by decide +kernel
theorem dX10_isEvent_14 : decode cX10_isEvent 14 = .ok (.iconst 0, 1) := by decide +kernel
theorem dX10_isEvent_15 : decode cX10_isEvent 15 = .ok (.ireturn, 1) := by decide +kernel
theorem dX10_isChance_0 : decode cX10_isChance 0 = .ok (.iload_n 0, 1) := by decide +kernel
theorem dX10_isChance_1 : decode cX10_isChance 1 = .ok (.ifCond .lt 13, 3) := by decide +kernel
theorem dX10_isChance_4 : decode cX10_isChance 4 = .ok (.iload_n 0, 1) := by decide +kernel
theorem dX10_isChance_5 : decode cX10_isChance 5 = .ok (.bipush 100, 2) := by decide +kernel
theorem dX10_isChance_7 : decode cX10_isChance 7 = .ok (.if_icmp .gt 7, 3) := by decide +kernel
theorem dX10_isChance_10 : decode cX10_isChance 10 = .ok (.iconst 1, 1) := by decide +kernel
theorem dX10_isChance_11 : decode cX10_isChance 11 = .ok (.goto 4, 3) := by decide +kernel
theorem dX10_isChance_14 : decode cX10_isChance 14 = .ok (.iconst 0, 1) := by decide +kernel
theorem dX10_isChance_15 : decode cX10_isChance 15 = .ok (.ireturn, 1) := by decide +kernel
theorem dX10_tell_0 : decode cX10_tell 0 = .ok (.iload_n 1, 1) := by decide +kernel
theorem dX10_tell_1 : decode cX10_tell 1 = .ok (.invokestatic 93, 3) := by decide +kernel
theorem dX10_tell_4 : decode cX10_tell 4 = .ok (.ifCond .eq 10, 3) := by decide +kernel
theorem dX10_tell_7 : decode cX10_tell 7 = .ok (.iload_n 2, 1) := by decide +kernel
theorem dX10_tell_8 : decode cX10_tell 8 = .ok (.invokestatic 97, 3) := by decide +kernel
theorem dX10_tell_11 : decode cX10_tell 11 = .ok (.ifCond .ne 5, 3) := by decide +kernel
theorem dX10_tell_14 : decode cX10_tell 14 = .ok (.iconst (-1), 1) := by decide +kernel
theorem dX10_tell_15 : decode cX10_tell 15 = .ok (.ireturn, 1) := by decide +kernel
theorem dX10_tell_16 : decode cX10_tell 16 = .ok (.iload_n 3, 1) := by decide +kernel
theorem dX10_tell_17 : decode cX10_tell 17 = .ok (.invokestatic 100, 3) := by decide +kernel
theorem dX10_tell_20 : decode cX10_tell 20 = .ok (.ifCond .ne 6, 3) := by decide +kernel
theorem dX10_tell_23 : decode cX10_tell 23 = .ok (.bipush (-2), 2) := by decide +kernel
theorem dX10_tell_25 : decode cX10_tell 25 = .ok (.ireturn, 1) := by decide +kernel
theorem dX10_tell_26 : decode cX10_tell 26 = .ok (.aload_n 0, 1) := by decide +kernel
theorem dX10_tell_27 : decode cX10_tell 27 = .ok (.getfield 12, 3) := by decide +kernel
theorem dX10_tell_30 : decode cX10_tell 30 = .ok (.iload_n 1, 1) := by decide +kernel
theorem dX10_tell_31 : decode cX10_tell 31 = .ok (.iload_n 2, 1) := by decide +kernel
theorem dX10_tell_32 : decode cX10_tell 32 = .ok (.iload_n 3, 1) := by decide +kernel
theorem dX10_tell_33 : decode cX10_tell 33 = .ok (.invokevirtual 103, 3) := by decide +kernel
theorem dX10_tell_36 : decode cX10_tell 36 = .ok (.ireturn, 1) := by decide +kernel
theorem dX10_drop_0 : decode cX10_drop 0 = .ok (.iload_n 1, 1) := by decide +kernel
theorem dX10_drop_1 : decode cX10_drop 1 = .ok (.invokestatic 93, 3) := by decide +kernel
theorem dX10_drop_4 : decode cX10_drop 4 = .ok (.ifCond .eq 10, 3) := by decide +kernel
theorem dX10_drop_7 : decode cX10_drop 7 = .ok (.iload_n 2, 1) := by decide +kernel
theorem dX10_drop_8 : decode cX10_drop 8 = .ok (.invokestatic 97, 3) := by decide +kernel
theorem dX10_drop_11 : decode cX10_drop 11 = .ok (.ifCond .ne 5, 3) := by decide +kernel
theorem dX10_drop_14 : decode cX10_drop 14 = .ok (.iconst (-1), 1) := by decide +kernel
theorem dX10_drop_15 : decode cX10_drop 15 = .ok (.ireturn, 1) := by decide +kernel
theorem dX10_drop_16 : decode cX10_drop 16 = .ok (.aload_n 0, 1) := by decide +kernel
theorem dX10_drop_17 : decode cX10_drop 17 = .ok (.getfield 12, 3) := by decide +kernel
theorem dX10_drop_20 : decode cX10_drop 20 = .ok (.iload_n 1, 1) := by decide +kernel
theorem dX10_drop_21 : decode cX10_drop 21 = .ok (.iload_n 2, 1) := by decide +kernel
theorem dX10_drop_22 : decode cX10_drop 22 = .ok (.bipush (-9), 2) := by decide +kernel
theorem dX10_drop_24 : decode cX10_drop 24 = .ok (.invokevirtual 103, 3) := by decide +kernel
theorem dX10_drop_27 : decode cX10_drop 27 = .ok (.ireturn, 1) := by decide +kernel
theorem dX10_yes_0 : decode cX10_yes 0 = .ok (.iload_n 1, 1) := by decide +kernel
theorem dX10_yes_1 : decode cX10_yes 1 = .ok (.invokestatic 97, 3) := by decide +kernel
theorem dX10_yes_4 : decode cX10_yes 4 = .ok (.ifCond .eq 15, 3) := by decide +kernel
theorem dX10_yes_7 : decode cX10_yes 7 = .ok (.aload_n 0, 1) := by decide +kernel
theorem dX10_yes_8 : decode cX10_yes 8 = .ok (.getfield 12, 3) := by decide +kernel
theorem dX10_yes_11 : decode cX10_yes 11 = .ok (.iload_n 1, 1) := by decide +kernel
theorem dX10_yes_12 : decode cX10_yes 12 = .ok (.iconst 1, 1) := by decide +kernel
theorem dX10_yes_13 : decode cX10_yes 13 = .ok (.invokevirtual 107, 3) := by decide +kernel
theorem dX10_yes_16 : decode cX10_yes 16 = .ok (.goto 4, 3) := by decide +kernel
theorem dX10_yes_19 : decode cX10_yes 19 = .ok (.iconst (-1), 1) := by decide +kernel
theorem dX10_yes_20 : decode cX10_yes 20 = .ok (.ireturn, 1) := by decide +kernel
theorem dX10_no_0 : decode cX10_no 0 = .ok (.iload_n 1, 1) := by decide +kernel
theorem dX10_no_1 : decode cX10_no 1 = .ok (.invokestatic 97, 3) := by decide +kernel
theorem dX10_no_4 : decode cX10_no 4 = .ok (.ifCond .eq 15, 3) := by decide +kernel
theorem dX10_no_7 : decode cX10_no 7 = .ok (.aload_n 0, 1) := by decide +kernel
theorem dX10_no_8 : decode cX10_no 8 = .ok (.getfield 12, 3) := by decide +kernel
theorem dX10_no_11 : decode cX10_no 11 = .ok (.iload_n 1, 1) := by decide +kernel
theorem dX10_no_12 : decode cX10_no 12 = .ok (.iconst 2, 1) := by decide +kernel
theorem dX10_no_13 : decode cX10_no 13 = .ok (.invokevirtual 107, 3) := by decide +kernel
theorem dX10_no_16 : decode cX10_no 16 = .ok (.goto 4, 3) := by decide +kernel
theorem dX10_no_19 : decode cX10_no 19 = .ok (.iconst (-1), 1) := by decide +kernel
theorem dX10_no_20 : decode cX10_no 20 = .ok (.ireturn, 1) := by decide +kernel
theorem dX10_open_0 : decode cX10_open 0 = .ok (.iload_n 1, 1) := by decide +kernel
theorem dX10_open_1 : decode cX10_open 1 = .ok (.invokestatic 97, 3) := by decide +kernel
theorem dX10_open_4 : decode cX10_open 4 = .ok (.ifCond .eq 15, 3) := by decide +kernel
theorem dX10_open_7 : decode cX10_open 7 = .ok (.aload_n 0, 1) := by decide +kernel
theorem dX10_open_8 : decode cX10_open 8 = .ok (.getfield 12, 3) := by decide +kernel
theorem dX10_open_11 : decode cX10_open 11 = .ok (.iload_n 1, 1) := by decide +kernel
theorem dX10_open_12 : decode cX10_open 12 = .ok (.iconst 0, 1) := by decide +kernel
theorem dX10_open_13 : decode cX10_open 13 = .ok (.invokevirtual 107, 3) := by decide +kernel
theorem dX10_open_16 : decode cX10_open 16 = .ok (.goto 4, 3) := by decide +kernel
theorem dX10_open_19 : decode cX10_open 19 = .ok (.iconst (-1), 1) := by decide +kernel
theorem dX10_open_20 : decode cX10_open 20 = .ok (.ireturn, 1) := by decide +kernel
theorem dX10_weigh_0 : decode cX10_weigh 0 = .ok (.iload_n 1, 1) := by decide +kernel
theorem dX10_weigh_1 : decode cX10_weigh 1 = .ok (.invokestatic 93, 3) := by decide +kernel
theorem dX10_weigh_4 : decode cX10_weigh 4 = .ok (.ifCond .ne 5, 3) := by decide +kernel
theorem dX10_weigh_7 : decode cX10_weigh 7 = .ok (.iconst (-1), 1) := by decide +kernel
theorem dX10_weigh_8 : decode cX10_weigh 8 = .ok (.ireturn, 1) := by decide +kernel
theorem dX10_weigh_9 : decode cX10_weigh 9 = .ok (.iload_n 2, 1) := by decide +kernel
theorem dX10_weigh_10 : decode cX10_weigh 10 = .ok (.ifCond .lt 9, 3) := by decide +kernel
theorem dX10_weigh_13 : decode cX10_weigh 13 = .ok (.iload_n 2, 1) := by decide +kernel
theorem dX10_weigh_14 : decode cX10_weigh 14 = .ok (.bipush 9, 2) := by decide +kernel
theorem dX10_weigh_16 : decode cX10_weigh 16 = .ok (.if_icmp .le 6, 3) := by decide +kernel
theorem dX10_weigh_19 : decode cX10_weigh 19 = .ok (.bipush (-2), 2) := by decide +kernel
theorem dX10_weigh_21 : decode cX10_weigh 21 = .ok (.ireturn, 1) := by decide +kernel
theorem dX10_weigh_22 : decode cX10_weigh 22 = .ok (.aload_n 0, 1) := by decide +kernel
theorem dX10_weigh_23 : decode cX10_weigh 23 = .ok (.getfield 12, 3) := by decide +kernel
theorem dX10_weigh_26 : decode cX10_weigh 26 = .ok (.iload_n 1, 1) := by decide +kernel
theorem dX10_weigh_27 : decode cX10_weigh 27 = .ok (.iload_n 2, 1) := by decide +kernel
theorem dX10_weigh_28 : decode cX10_weigh 28 = .ok (.invokevirtual 111, 3) := by decide +kernel
theorem dX10_weigh_31 : decode cX10_weigh 31 = .ok (.ireturn, 1) := by decide +kernel
theorem dX10_isTeller_0 : decode cX10_isTeller 0 = .ok (.iload_n 0, 1) := by decide +kernel
theorem dX10_isTeller_1 : decode cX10_isTeller 1 = .ok (.ifCond .lt 12, 3) := by decide +kernel
theorem dX10_isTeller_4 : decode cX10_isTeller 4 = .ok (.iload_n 0, 1) := by decide +kernel
theorem dX10_isTeller_5 : decode cX10_isTeller 5 = .ok (.iconst 4, 1) := by decide +kernel
theorem dX10_isTeller_6 : decode cX10_isTeller 6 = .ok (.if_icmp .gt 7, 3) := by decide +kernel
theorem dX10_isTeller_9 : decode cX10_isTeller 9 = .ok (.iconst 1, 1) := by decide +kernel
theorem dX10_isTeller_10 : decode cX10_isTeller 10 = .ok (.goto 4, 3) := by decide +kernel
theorem dX10_isTeller_13 : decode cX10_isTeller 13 = .ok (.iconst 0, 1) := by decide +kernel
theorem dX10_isTeller_14 : decode cX10_isTeller 14 = .ok (.ireturn, 1) := by decide +kernel
theorem dX10_told_0 : decode cX10_told 0 = .ok (.iload_n 1, 1) := by decide +kernel
theorem dX10_told_1 : decode cX10_told 1 = .ok (.invokestatic 114, 3) := by decide +kernel
theorem dX10_told_4 : decode cX10_told 4 = .ok (.ifCond .eq 10, 3) := by decide +kernel
theorem dX10_told_7 : decode cX10_told 7 = .ok (.iload_n 2, 1) := by decide +kernel
theorem dX10_told_8 : decode cX10_told 8 = .ok (.invokestatic 97, 3) := by decide +kernel
theorem dX10_told_11 : decode cX10_told 11 = .ok (.ifCond .ne 5, 3) := by decide +kernel
theorem dX10_told_14 : decode cX10_told 14 = .ok (.iconst (-1), 1) := by decide +kernel
theorem dX10_told_15 : decode cX10_told 15 = .ok (.ireturn, 1) := by decide +kernel
theorem dX10_told_16 : decode cX10_told 16 = .ok (.aload_n 0, 1) := by decide +kernel
theorem dX10_told_17 : decode cX10_told 17 = .ok (.getfield 12, 3) := by decide +kernel
theorem dX10_told_20 : decode cX10_told 20 = .ok (.iload_n 1, 1) := by decide +kernel
theorem dX10_told_21 : decode cX10_told 21 = .ok (.iload_n 2, 1) := by decide +kernel
theorem dX10_told_22 : decode cX10_told 22 = .ok (.invokevirtual 117, 3) := by decide +kernel
theorem dX10_told_25 : decode cX10_told 25 = .ok (.ireturn, 1) := by decide +kernel
theorem dX10_came_0 : decode cX10_came 0 = .ok (.iload_n 1, 1) := by decide +kernel
theorem dX10_came_1 : decode cX10_came 1 = .ok (.invokestatic 97, 3) := by decide +kernel
theorem dX10_came_4 : decode cX10_came 4 = .ok (.ifCond .eq 15, 3) := by decide +kernel
theorem dX10_came_7 : decode cX10_came 7 = .ok (.aload_n 0, 1) := by decide +kernel
theorem dX10_came_8 : decode cX10_came 8 = .ok (.getfield 12, 3) := by decide +kernel
theorem dX10_came_11 : decode cX10_came 11 = .ok (.getfield 120, 3) := by decide +kernel
theorem dX10_came_14 : decode cX10_came 14 = .ok (.iload_n 1, 1) := by decide +kernel
theorem dX10_came_15 : decode cX10_came 15 = .ok (.iaload, 1) := by decide +kernel
theorem dX10_came_16 : decode cX10_came 16 = .ok (.goto 4, 3) := by decide +kernel
theorem dX10_came_19 : decode cX10_came 19 = .ok (.iconst (-1), 1) := by decide +kernel
theorem dX10_came_20 : decode cX10_came 20 = .ok (.ireturn, 1) := by decide +kernel
theorem dX10_key_0 : decode cX10_key 0 = .ok (.iload_n 1, 1) := by decide +kernel
theorem dX10_key_1 : decode cX10_key 1 = .ok (.ifCond .lt 9, 3) := by decide +kernel
theorem dX10_key_4 : decode cX10_key 4 = .ok (.iload_n 1, 1) := by decide +kernel
theorem dX10_key_5 : decode cX10_key 5 = .ok (.bipush 127, 2) := by decide +kernel
theorem dX10_key_7 : decode cX10_key 7 = .ok (.if_icmp .le 6, 3) := by decide +kernel
theorem dX10_key_10 : decode cX10_key 10 = .ok (.bipush (-2), 2) := by decide +kernel
theorem dX10_key_12 : decode cX10_key 12 = .ok (.ireturn, 1) := by decide +kernel
theorem dX10_key_13 : decode cX10_key 13 = .ok (.aload_n 0, 1) := by decide +kernel
theorem dX10_key_14 : decode cX10_key 14 = .ok (.getfield 21, 3) := by decide +kernel
theorem dX10_key_17 : decode cX10_key 17 = .ok (.iload_n 1, 1) := by decide +kernel
theorem dX10_key_18 : decode cX10_key 18 = .ok (.invokevirtual 123, 3) := by decide +kernel
theorem dX10_key_21 : decode cX10_key 21 = .ok (.ifCond .eq 13, 3) := by decide +kernel
theorem dX10_key_24 : decode cX10_key 24 = .ok (.aload_n 0, 1) := by decide +kernel
theorem dX10_key_25 : decode cX10_key 25 = .ok (.getfield 21, 3) := by decide +kernel
theorem dX10_key_28 : decode cX10_key 28 = .ok (.getfield 126, 3) := by decide +kernel
theorem dX10_key_31 : decode cX10_key 31 = .ok (.goto 5, 3) := by decide +kernel
theorem dX10_key_34 : decode cX10_key 34 = .ok (.bipush (-4), 2) := by decide +kernel
theorem dX10_key_36 : decode cX10_key 36 = .ok (.ireturn, 1) := by decide +kernel
theorem dX10_wipe_0 : decode cX10_wipe 0 = .ok (.aload_n 0, 1) := by decide +kernel
theorem dX10_wipe_1 : decode cX10_wipe 1 = .ok (.getfield 21, 3) := by decide +kernel
theorem dX10_wipe_4 : decode cX10_wipe 4 = .ok (.invokevirtual 130, 3) := by decide +kernel
theorem dX10_wipe_7 : decode cX10_wipe 7 = .ok (.ireturn, 1) := by decide +kernel
theorem dX10_perform_0 : decode cX10_perform 0 = .ok (.aload_n 0, 1) := by decide +kernel
theorem dX10_perform_1 : decode cX10_perform 1 = .ok (.getfield 28, 3) := by decide +kernel
theorem dX10_perform_4 : decode cX10_perform 4 = .ok (.getfield 155, 3) := by decide +kernel
theorem dX10_perform_7 : decode cX10_perform 7 = .ok (.astore_n 2, 1) := by decide +kernel
theorem dX10_perform_8 : decode cX10_perform 8 = .ok (.aload_n 1, 1) := by decide +kernel
theorem dX10_perform_9 : decode cX10_perform 9 = .ok (.getstatic 158, 3) := by decide +kernel
theorem dX10_perform_12 : decode cX10_perform 12 = .ok (.if_acmp .ne 17, 3) := by decide +kernel
theorem dX10_perform_15 : decode cX10_perform 15 = .ok (.aload_n 0, 1) := by decide +kernel
theorem dX10_perform_16 : decode cX10_perform 16 = .ok (.aload_n 2, 1) := by decide +kernel
theorem dX10_perform_17 : decode cX10_perform 17 = .ok (.iconst 0, 1) := by decide +kernel
theorem dX10_perform_18 : decode cX10_perform 18 = .ok (.iaload, 1) := by decide +kernel
theorem dX10_perform_19 : decode cX10_perform 19 = .ok (.aload_n 2, 1) := by decide +kernel
theorem dX10_perform_20 : decode cX10_perform 20 = .ok (.iconst 1, 1) := by decide +kernel
theorem dX10_perform_21 : decode cX10_perform 21 = .ok (.iaload, 1) := by decide +kernel
theorem dX10_perform_22 : decode cX10_perform 22 = .ok (.aload_n 2, 1) := by decide +kernel
theorem dX10_perform_23 : decode cX10_perform 23 = .ok (.iconst 2, 1) := by decide +kernel
theorem dX10_perform_24 : decode cX10_perform 24 = .ok (.iaload, 1) := by decide +kernel
theorem dX10_perform_25 : decode cX10_perform 25 = .ok (.invokevirtual 164, 3) := by decide +kernel
theorem dX10_perform_28 : decode cX10_perform 28 = .ok (.ireturn, 1) := by decide +kernel
theorem dX10_perform_29 : decode cX10_perform 29 = .ok (.aload_n 1, 1) := by decide +kernel
theorem dX10_perform_30 : decode cX10_perform 30 = .ok (.getstatic 167, 3) := by decide +kernel
theorem dX10_perform_33 : decode cX10_perform 33 = .ok (.if_acmp .ne 14, 3) := by decide +kernel
theorem dX10_perform_36 : decode cX10_perform 36 = .ok (.aload_n 0, 1) := by decide +kernel
theorem dX10_perform_37 : decode cX10_perform 37 = .ok (.aload_n 2, 1) := by decide +kernel
theorem dX10_perform_38 : decode cX10_perform 38 = .ok (.iconst 0, 1) := by decide +kernel
theorem dX10_perform_39 : decode cX10_perform 39 = .ok (.iaload, 1) := by decide +kernel
theorem dX10_perform_40 : decode cX10_perform 40 = .ok (.aload_n 2, 1) := by decide +kernel
theorem dX10_perform_41 : decode cX10_perform 41 = .ok (.iconst 1, 1) := by decide +kernel
theorem dX10_perform_42 : decode cX10_perform 42 = .ok (.iaload, 1) := by decide +kernel
theorem dX10_perform_43 : decode cX10_perform 43 = .ok (.invokevirtual 170, 3) := by decide +kernel
theorem dX10_perform_46 : decode cX10_perform 46 = .ok (.ireturn, 1) := by decide +kernel
theorem dX10_perform_47 : decode cX10_perform 47 = .ok (.aload_n 1, 1) := by decide +kernel
theorem dX10_perform_48 : decode cX10_perform 48 = .ok (.getstatic 173, 3) := by decide +kernel
theorem dX10_perform_51 : decode cX10_perform 51 = .ok (.if_acmp .ne 11, 3) := by decide +kernel
theorem dX10_perform_54 : decode cX10_perform 54 = .ok (.aload_n 0, 1) := by decide +kernel
theorem dX10_perform_55 : decode cX10_perform 55 = .ok (.aload_n 2, 1) := by decide +kernel
theorem dX10_perform_56 : decode cX10_perform 56 = .ok (.iconst 0, 1) := by decide +kernel
theorem dX10_perform_57 : decode cX10_perform 57 = .ok (.iaload, 1) := by decide +kernel
theorem dX10_perform_58 : decode cX10_perform 58 = .ok (.invokevirtual 176, 3) := by decide +kernel
theorem dX10_perform_61 : decode cX10_perform 61 = .ok (.ireturn, 1) := by decide +kernel
theorem dX10_perform_62 : decode cX10_perform 62 = .ok (.aload_n 1, 1) := by decide +kernel
theorem dX10_perform_63 : decode cX10_perform 63 = .ok (.getstatic 180, 3) := by decide +kernel
theorem dX10_perform_66 : decode cX10_perform 66 = .ok (.if_acmp .ne 11, 3) := by decide +kernel
theorem dX10_perform_69 : decode cX10_perform 69 = .ok (.aload_n 0, 1) := by decide +kernel
theorem dX10_perform_70 : decode cX10_perform 70 = .ok (.aload_n 2, 1) := by decide +kernel
theorem dX10_perform_71 : decode cX10_perform 71 = .ok (.iconst 0, 1) := by decide +kernel
theorem dX10_perform_72 : decode cX10_perform 72 = .ok (.iaload, 1) := by decide +kernel
theorem dX10_perform_73 : decode cX10_perform 73 = .ok (.invokevirtual 183, 3) := by decide +kernel
theorem dX10_perform_76 : decode cX10_perform 76 = .ok (.ireturn, 1) := by decide +kernel
theorem dX10_perform_77 : decode cX10_perform 77 = .ok (.aload_n 1, 1) := by decide +kernel
theorem dX10_perform_78 : decode cX10_perform 78 = .ok (.getstatic 186, 3) := by decide +kernel
theorem dX10_perform_81 : decode cX10_perform 81 = .ok (.if_acmp .ne 11, 3) := by decide +kernel
theorem dX10_perform_84 : decode cX10_perform 84 = .ok (.aload_n 0, 1) := by decide +kernel
theorem dX10_perform_85 : decode cX10_perform 85 = .ok (.aload_n 2, 1) := by decide +kernel
theorem dX10_perform_86 : decode cX10_perform 86 = .ok (.iconst 0, 1) := by decide +kernel
theorem dX10_perform_87 : decode cX10_perform 87 = .ok (.iaload, 1) := by decide +kernel
theorem dX10_perform_88 : decode cX10_perform 88 = .ok (.invokevirtual 189, 3) := by decide +kernel
theorem dX10_perform_91 : decode cX10_perform 91 = .ok (.ireturn, 1) := by decide +kernel
theorem dX10_perform_92 : decode cX10_perform 92 = .ok (.aload_n 0, 1) := by decide +kernel
theorem dX10_perform_93 : decode cX10_perform 93 = .ok (.aload_n 2, 1) := by decide +kernel
theorem dX10_perform_94 : decode cX10_perform 94 = .ok (.iconst 0, 1) := by decide +kernel
theorem dX10_perform_95 : decode cX10_perform 95 = .ok (.iaload, 1) := by decide +kernel
theorem dX10_perform_96 : decode cX10_perform 96 = .ok (.aload_n 2, 1) := by decide +kernel
theorem dX10_perform_97 : decode cX10_perform 97 = .ok (.iconst 1, 1) := by decide +kernel
theorem dX10_perform_98 : decode cX10_perform 98 = .ok (.iaload, 1) := by decide +kernel
theorem dX10_perform_99 : decode cX10_perform 99 = .ok (.invokevirtual 192, 3) := by decide +kernel
theorem dX10_perform_102 : decode cX10_perform 102 = .ok (.ireturn, 1) := by decide +kernel
theorem dX10_line_0 : decode cX10_line 0 = .ok (.iconst 0, 1) := by decide +kernel
theorem dX10_line_1 : decode cX10_line 1 = .ok (.istore_n 1, 1) := by decide +kernel
theorem dX10_line_2 : decode cX10_line 2 = .ok (.iconst 0, 1) := by decide +kernel
theorem dX10_line_3 : decode cX10_line 3 = .ok (.istore_n 2, 1) := by decide +kernel
theorem dX10_line_4 : decode cX10_line 4 = .ok (.iload_n 2, 1) := by decide +kernel
theorem dX10_line_5 : decode cX10_line 5 = .ok (.getstatic 134, 3) := by decide +kernel
theorem dX10_line_8 : decode cX10_line 8 = .ok (.arraylength, 1) := by decide +kernel
theorem dX10_line_9 : decode cX10_line 9 = .ok (.if_icmp .ge 64, 3) := by decide +kernel
theorem dX10_line_12 : decode cX10_line 12 = .ok (.aload_n 0, 1) := by decide +kernel
theorem dX10_line_13 : decode cX10_line 13 = .ok (.getfield 28, 3) := by decide +kernel
theorem dX10_line_16 : decode cX10_line 16 = .ok (.aload_n 0, 1) := by decide +kernel
theorem dX10_line_17 : decode cX10_line 17 = .ok (.getfield 21, 3) := by decide +kernel
theorem dX10_line_20 : decode cX10_line 20 = .ok (.getstatic 134, 3) := by decide +kernel
theorem dX10_line_23 : decode cX10_line 23 = .ok (.iload_n 2, 1) := by decide +kernel
theorem dX10_line_24 : decode cX10_line 24 = .ok (.aaload, 1) := by decide +kernel
theorem dX10_line_25 : decode cX10_line 25 = .ok (.invokevirtual 138, 3) := by decide +kernel
theorem dX10_line_28 : decode cX10_line 28 = .ok (.istore_n 3, 1) := by decide +kernel
theorem dX10_line_29 : decode cX10_line 29 = .ok (.aload_n 0, 1) := by decide +kernel
theorem dX10_line_30 : decode cX10_line 30 = .ok (.getfield 28, 3) := by decide +kernel
theorem dX10_line_33 : decode cX10_line 33 = .ok (.getfield 142, 3) := by decide +kernel
theorem dX10_line_36 : decode cX10_line 36 = .ok (.ifCond .eq 25, 3) := by decide +kernel
theorem dX10_line_39 : decode cX10_line 39 = .ok (.aload_n 0, 1) := by decide +kernel
theorem dX10_line_40 : decode cX10_line 40 = .ok (.getfield 21, 3) := by decide +kernel
theorem dX10_line_43 : decode cX10_line 43 = .ok (.invokevirtual 130, 3) := by decide +kernel
theorem dX10_line_46 : decode cX10_line 46 = .ok (.pop, 1) := by decide +kernel
theorem dX10_line_47 : decode cX10_line 47 = .ok (.aload_n 0, 1) := by decide +kernel
theorem dX10_line_48 : decode cX10_line 48 = .ok (.getstatic 134, 3) := by decide +kernel
theorem dX10_line_51 : decode cX10_line 51 = .ok (.iload_n 2, 1) := by decide +kernel
theorem dX10_line_52 : decode cX10_line 52 = .ok (.aaload, 1) := by decide +kernel
theorem dX10_line_53 : decode cX10_line 53 = .ok (.invokevirtual 146, 3) := by decide +kernel
theorem dX10_line_56 : decode cX10_line 56 = .ok (.sipush 1000, 3) := by decide +kernel
theorem dX10_line_59 : decode cX10_line 59 = .ok (.iadd, 1) := by decide +kernel
theorem dX10_line_60 : decode cX10_line 60 = .ok (.ireturn, 1) := by decide +kernel
theorem dX10_line_61 : decode cX10_line 61 = .ok (.iload_n 1, 1) := by decide +kernel
theorem dX10_line_62 : decode cX10_line 62 = .ok (.iload_n 3, 1) := by decide +kernel
theorem dX10_line_63 : decode cX10_line 63 = .ok (.invokestatic 150, 3) := by decide +kernel
theorem dX10_line_66 : decode cX10_line 66 = .ok (.istore_n 1, 1) := by decide +kernel
theorem dX10_line_67 : decode cX10_line 67 = .ok (.iinc 2 1, 3) := by decide +kernel
theorem dX10_line_70 : decode cX10_line 70 = .ok (.goto (-66), 3) := by decide +kernel
theorem dX10_line_73 : decode cX10_line 73 = .ok (.bipush (-100), 2) := by decide +kernel
theorem dX10_line_75 : decode cX10_line 75 = .ok (.iload_n 1, 1) := by decide +kernel
theorem dX10_line_76 : decode cX10_line 76 = .ok (.isub, 1) := by decide +kernel
theorem dX10_line_77 : decode cX10_line 77 = .ok (.ireturn, 1) := by decide +kernel
theorem dX10_rule_0 : decode cX10_rule 0 = .ok (.iconst 0, 1) := by decide +kernel
theorem dX10_rule_1 : decode cX10_rule 1 = .ok (.istore_n 1, 1) := by decide +kernel
theorem dX10_rule_2 : decode cX10_rule 2 = .ok (.iload_n 1, 1) := by decide +kernel
theorem dX10_rule_3 : decode cX10_rule 3 = .ok (.getstatic 195, 3) := by decide +kernel
theorem dX10_rule_6 : decode cX10_rule 6 = .ok (.arraylength, 1) := by decide +kernel
theorem dX10_rule_7 : decode cX10_rule 7 = .ok (.if_icmp .ge 52, 3) := by decide +kernel
theorem dX10_rule_10 : decode cX10_rule 10 = .ok (.aload_n 0, 1) := by decide +kernel
theorem dX10_rule_11 : decode cX10_rule 11 = .ok (.getfield 21, 3) := by decide +kernel
theorem dX10_rule_14 : decode cX10_rule 14 = .ok (.getstatic 195, 3) := by decide +kernel
theorem dX10_rule_17 : decode cX10_rule 17 = .ok (.iload_n 1, 1) := by decide +kernel
theorem dX10_rule_18 : decode cX10_rule 18 = .ok (.aaload, 1) := by decide +kernel
theorem dX10_rule_19 : decode cX10_rule 19 = .ok (.getfield 199, 3) := by decide +kernel
theorem dX10_rule_22 : decode cX10_rule 22 = .ok (.invokevirtual 203, 3) := by decide +kernel
theorem dX10_rule_25 : decode cX10_rule 25 = .ok (.ifCond .eq 28, 3) := by decide +kernel
theorem dX10_rule_28 : decode cX10_rule 28 = .ok (.aload_n 0, 1) := by decide +kernel
theorem dX10_rule_29 : decode cX10_rule 29 = .ok (.getstatic 195, 3) := by decide +kernel
theorem dX10_rule_32 : decode cX10_rule 32 = .ok (.iload_n 1, 1) := by decide +kernel
theorem dX10_rule_33 : decode cX10_rule 33 = .ok (.aaload, 1) := by decide +kernel
theorem dX10_rule_34 : decode cX10_rule 34 = .ok (.putfield 90, 3) := by decide +kernel
theorem dX10_rule_37 : decode cX10_rule 37 = .ok (.aload_n 0, 1) := by decide +kernel
theorem dX10_rule_38 : decode cX10_rule 38 = .ok (.getfield 21, 3) := by decide +kernel
theorem dX10_rule_41 : decode cX10_rule 41 = .ok (.invokevirtual 130, 3) := by decide +kernel
theorem dX10_rule_44 : decode cX10_rule 44 = .ok (.pop, 1) := by decide +kernel
theorem dX10_rule_45 : decode cX10_rule 45 = .ok (.aload_n 0, 1) := by decide +kernel
theorem dX10_rule_46 : decode cX10_rule 46 = .ok (.getfield 90, 3) := by decide +kernel
theorem dX10_rule_49 : decode cX10_rule 49 = .ok (.getfield 207, 3) := by decide +kernel
theorem dX10_rule_52 : decode cX10_rule 52 = .ok (.ireturn, 1) := by decide +kernel
theorem dX10_rule_53 : decode cX10_rule 53 = .ok (.iinc 1 1, 3) := by decide +kernel
theorem dX10_rule_56 : decode cX10_rule 56 = .ok (.goto (-54), 3) := by decide +kernel
theorem dX10_rule_59 : decode cX10_rule 59 = .ok (.iconst (-1), 1) := by decide +kernel
theorem dX10_rule_60 : decode cX10_rule 60 = .ok (.ireturn, 1) := by decide +kernel
theorem dX10_miss_0 : decode cX10_miss 0 = .ok (.iload_n 1, 1) := by decide +kernel
theorem dX10_miss_1 : decode cX10_miss 1 = .ok (.invokestatic 100, 3) := by decide +kernel
theorem dX10_miss_4 : decode cX10_miss 4 = .ok (.ifCond .eq 12, 3) := by decide +kernel
theorem dX10_miss_7 : decode cX10_miss 7 = .ok (.iload_n 2, 1) := by decide +kernel
theorem dX10_miss_8 : decode cX10_miss 8 = .ok (.ifCond .lt 8, 3) := by decide +kernel
theorem dX10_miss_11 : decode cX10_miss 11 = .ok (.iload_n 2, 1) := by decide +kernel
theorem dX10_miss_12 : decode cX10_miss 12 = .ok (.iconst 1, 1) := by decide +kernel
theorem dX10_miss_13 : decode cX10_miss 13 = .ok (.if_icmp .le 6, 3) := by decide +kernel
theorem dX10_miss_16 : decode cX10_miss 16 = .ok (.bipush (-2), 2) := by decide +kernel
theorem dX10_miss_18 : decode cX10_miss 18 = .ok (.ireturn, 1) := by decide +kernel
theorem dX10_miss_19 : decode cX10_miss 19 = .ok (.aload_n 0, 1) := by decide +kernel
theorem dX10_miss_20 : decode cX10_miss 20 = .ok (.getfield 90, 3) := by decide +kernel
theorem dX10_miss_23 : decode cX10_miss 23 = .ok (.iload_n 1, 1) := by decide +kernel
theorem dX10_miss_24 : decode cX10_miss 24 = .ok (.iload_n 2, 1) := by decide +kernel
theorem dX10_miss_25 : decode cX10_miss 25 = .ok (.iconst 1, 1) := by decide +kernel
theorem dX10_miss_26 : decode cX10_miss 26 = .ok (.if_icmp .ne 7, 3) := by decide +kernel
theorem dX10_miss_29 : decode cX10_miss 29 = .ok (.iconst 1, 1) := by decide +kernel
theorem dX10_miss_30 : decode cX10_miss 30 = .ok (.goto 4, 3) := by decide +kernel
theorem dX10_miss_33 : decode cX10_miss 33 = .ok (.iconst 0, 1) := by decide +kernel
theorem dX10_miss_34 : decode cX10_miss 34 = .ok (.invokevirtual 210, 3) := by decide +kernel
theorem dX10_miss_37 : decode cX10_miss 37 = .ok (.ireturn, 1) := by decide +kernel
theorem dX10_isWhich_0 : decode cX10_isWhich 0 = .ok (.iload_n 0, 1) := by decide +kernel
theorem dX10_isWhich_1 : decode cX10_isWhich 1 = .ok (.ifCond .eq 8, 3) := by decide +kernel
theorem dX10_isWhich_4 : decode cX10_isWhich 4 = .ok (.iload_n 0, 1) := by decide +kernel
theorem dX10_isWhich_5 : decode cX10_isWhich 5 = .ok (.iconst 1, 1) := by decide +kernel
theorem dX10_isWhich_6 : decode cX10_isWhich 6 = .ok (.if_icmp .ne 7, 3) := by decide +kernel
theorem dX10_isWhich_9 : decode cX10_isWhich 9 = .ok (.iconst 1, 1) := by decide +kernel
theorem dX10_isWhich_10 : decode cX10_isWhich 10 = .ok (.goto 4, 3) := by decide +kernel
theorem dX10_isWhich_13 : decode cX10_isWhich 13 = .ok (.iconst 0, 1) := by decide +kernel
theorem dX10_isWhich_14 : decode cX10_isWhich 14 = .ok (.ireturn, 1) := by decide +kernel
theorem dX10_findMeanMiss_0 : decode cX10_findMeanMiss 0 = .ok (.aload_n 0, 1) := by decide +kernel
theorem dX10_findMeanMiss_1 : decode cX10_findMeanMiss 1 = .ok (.getfield 35, 3) := by decide +kernel
theorem dX10_findMeanMiss_4 : decode cX10_findMeanMiss 4 = .ok (.aload_n 0, 1) := by decide +kernel
theorem dX10_findMeanMiss_5 : decode cX10_findMeanMiss 5 = .ok (.getfield 12, 3) := by decide +kernel
theorem dX10_findMeanMiss_8 : decode cX10_findMeanMiss 8 = .ok (.iload_n 1, 1) := by decide +kernel
theorem dX10_findMeanMiss_9 : decode cX10_findMeanMiss 9 = .ok (.invokevirtual 226, 3) := by decide +kernel
theorem dX10_findMeanMiss_12 : decode cX10_findMeanMiss 12 = .ok (.aload_n 0, 1) := by decide +kernel
theorem dX10_findMeanMiss_13 : decode cX10_findMeanMiss 13 = .ok (.getfield 35, 3) := by decide +kernel
theorem dX10_findMeanMiss_16 : decode cX10_findMeanMiss 16 = .ok (.getfield 230, 3) := by decide +kernel
theorem dX10_findMeanMiss_19 : decode cX10_findMeanMiss 19 = .ok (.ifCond .ne 5, 3) := by decide +kernel
theorem dX10_findMeanMiss_22 : decode cX10_findMeanMiss 22 = .ok (.iconst 0, 1) := by decide +kernel
theorem dX10_findMeanMiss_23 : decode cX10_findMeanMiss 23 = .ok (.ireturn, 1) := by decide +kernel
theorem dX10_findMeanMiss_24 : decode cX10_findMeanMiss 24 = .ok (.aload_n 0, 1) := by decide +kernel
theorem dX10_findMeanMiss_25 : decode cX10_findMeanMiss 25 = .ok (.getfield 56, 3) := by decide +kernel
theorem dX10_findMeanMiss_28 : decode cX10_findMeanMiss 28 = .ok (.aload_n 0, 1) := by decide +kernel
theorem dX10_findMeanMiss_29 : decode cX10_findMeanMiss 29 = .ok (.getfield 35, 3) := by decide +kernel
theorem dX10_findMeanMiss_32 : decode cX10_findMeanMiss 32 = .ok (.aload_n 0, 1) := by decide +kernel
theorem dX10_findMeanMiss_33 : decode cX10_findMeanMiss 33 = .ok (.getfield 90, 3) := by decide +kernel
theorem dX10_findMeanMiss_36 : decode cX10_findMeanMiss 36 = .ok (.invokevirtual 233, 3) := by decide +kernel
theorem dX10_findMeanMiss_39 : decode cX10_findMeanMiss 39 = .ok (.aload_n 0, 1) := by decide +kernel
theorem dX10_findMeanMiss_40 : decode cX10_findMeanMiss 40 = .ok (.getfield 35, 3) := by decide +kernel
theorem dX10_findMeanMiss_43 : decode cX10_findMeanMiss 43 = .ok (.getfield 230, 3) := by decide +kernel
theorem dX10_findMeanMiss_46 : decode cX10_findMeanMiss 46 = .ok (.i2l, 1) := by decide +kernel
theorem dX10_findMeanMiss_47 : decode cX10_findMeanMiss 47 = .ok (.invokevirtual 246, 3) := by decide +kernel
theorem dX10_findMeanMiss_50 : decode cX10_findMeanMiss 50 = .ok (.iconst 1, 1) := by decide +kernel
theorem dX10_findMeanMiss_51 : decode cX10_findMeanMiss 51 = .ok (.ireturn, 1) := by decide +kernel
theorem dX10_score_0 : decode cX10_score 0 = .ok (.iload_n 1, 1) := by decide +kernel
theorem dX10_score_1 : decode cX10_score 1 = .ok (.invokestatic 114, 3) := by decide +kernel
theorem dX10_score_4 : decode cX10_score 4 = .ok (.ifCond .eq 18, 3) := by decide +kernel
theorem dX10_score_7 : decode cX10_score 7 = .ok (.iload_n 2, 1) := by decide +kernel
theorem dX10_score_8 : decode cX10_score 8 = .ok (.invokestatic 214, 3) := by decide +kernel
theorem dX10_score_11 : decode cX10_score 11 = .ok (.ifCond .eq 11, 3) := by decide +kernel
theorem dX10_score_14 : decode cX10_score 14 = .ok (.aload_n 0, 1) := by decide +kernel
theorem dX10_score_15 : decode cX10_score 15 = .ok (.iload_n 1, 1) := by decide +kernel
theorem dX10_score_16 : decode cX10_score 16 = .ok (.invokevirtual 217, 3) := by decide +kernel
theorem dX10_score_19 : decode cX10_score 19 = .ok (.ifCond .ne 7, 3) := by decide +kernel
theorem dX10_score_22 : decode cX10_score 22 = .ok (.ldc2_w 220, 3) := by decide +kernel
theorem dX10_score_25 : decode cX10_score 25 = .ok (.lreturn, 1) := by decide +kernel
theorem dX10_score_26 : decode cX10_score 26 = .ok (.aload_n 0, 1) := by decide +kernel
theorem dX10_score_27 : decode cX10_score 27 = .ok (.getfield 56, 3) := by decide +kernel
theorem dX10_score_30 : decode cX10_score 30 = .ok (.iload_n 2, 1) := by decide +kernel
theorem dX10_score_31 : decode cX10_score 31 = .ok (.invokevirtual 222, 3) := by decide +kernel
theorem dX10_score_34 : decode cX10_score 34 = .ok (.lreturn, 1) := by decide +kernel
theorem dX10_tellersAheadOf_0 : decode cX10_tellersAheadOf 0 = .ok (.iconst 0, 1) := by decide +kernel
theorem dX10_tellersAheadOf_1 : decode cX10_tellersAheadOf 1 = .ok (.istore_n 2, 1) := by decide +kernel
theorem dX10_tellersAheadOf_2 : decode cX10_tellersAheadOf 2 = .ok (.iconst 0, 1) := by decide +kernel
theorem dX10_tellersAheadOf_3 : decode cX10_tellersAheadOf 3 = .ok (.istore_n 3, 1) := by decide +kernel
theorem dX10_tellersAheadOf_4 : decode cX10_tellersAheadOf 4 = .ok (.iload_n 3, 1) := by decide +kernel
theorem dX10_tellersAheadOf_5 : decode cX10_tellersAheadOf 5 = .ok (.iconst 4, 1) := by decide +kernel
theorem dX10_tellersAheadOf_6 : decode cX10_tellersAheadOf 6 = .ok (.if_icmp .gt 79, 3) := by decide +kernel
theorem dX10_tellersAheadOf_9 : decode cX10_tellersAheadOf 9 = .ok (.iload_n 3, 1) := by decide +kernel
theorem dX10_tellersAheadOf_10 : decode cX10_tellersAheadOf 10 = .ok (.iload_n 1, 1) := by decide +kernel
theorem dX10_tellersAheadOf_11 : decode cX10_tellersAheadOf 11 = .ok (.if_icmp .eq 68, 3) := by decide +kernel
theorem dX10_tellersAheadOf_14 : decode cX10_tellersAheadOf 14 = .ok (.aload_n 0, 1) := by decide +kernel
theorem dX10_tellersAheadOf_15 : decode cX10_tellersAheadOf 15 = .ok (.getfield 74, 3) := by decide +kernel
theorem dX10_tellersAheadOf_18 : decode cX10_tellersAheadOf 18 = .ok (.iload_n 3, 1) := by decide +kernel
theorem dX10_tellersAheadOf_19 : decode cX10_tellersAheadOf 19 = .ok (.iaload, 1) := by decide +kernel
theorem dX10_tellersAheadOf_20 : decode cX10_tellersAheadOf 20 = .ok (.ifCond .le 59, 3) := by decide +kernel
theorem dX10_tellersAheadOf_23 : decode cX10_tellersAheadOf 23 = .ok (.aload_n 0, 1) := by decide +kernel
theorem dX10_tellersAheadOf_24 : decode cX10_tellersAheadOf 24 = .ok (.getfield 70, 3) := by decide +kernel
theorem dX10_tellersAheadOf_27 : decode cX10_tellersAheadOf 27 = .ok (.iload_n 3, 1) := by decide +kernel
theorem dX10_tellersAheadOf_28 : decode cX10_tellersAheadOf 28 = .ok (.laload, 1) := by decide +kernel
theorem dX10_tellersAheadOf_29 : decode cX10_tellersAheadOf 29 = .ok (.aload_n 0, 1) := by decide +kernel
theorem dX10_tellersAheadOf_30 : decode cX10_tellersAheadOf 30 = .ok (.getfield 74, 3) := by decide +kernel
theorem dX10_tellersAheadOf_33 : decode cX10_tellersAheadOf 33 = .ok (.iload_n 1, 1) := by decide +kernel
theorem dX10_tellersAheadOf_34 : decode cX10_tellersAheadOf 34 = .ok (.iaload, 1) := by decide +kernel
theorem dX10_tellersAheadOf_35 : decode cX10_tellersAheadOf 35 = .ok (.i2l, 1) := by decide +kernel
theorem dX10_tellersAheadOf_36 : decode cX10_tellersAheadOf 36 = .ok (.lmul, 1) := by decide +kernel
theorem dX10_tellersAheadOf_37 : decode cX10_tellersAheadOf 37 = .ok (.lstore 4, 2) := by decide +kernel
theorem dX10_tellersAheadOf_39 : decode cX10_tellersAheadOf 39 = .ok (.aload_n 0, 1) := by decide +kernel
theorem dX10_tellersAheadOf_40 : decode cX10_tellersAheadOf 40 = .ok (.getfield 70, 3) := by decide +kernel
theorem dX10_tellersAheadOf_43 : decode cX10_tellersAheadOf 43 = .ok (.iload_n 1, 1) := by decide +kernel
theorem dX10_tellersAheadOf_44 : decode cX10_tellersAheadOf 44 = .ok (.laload, 1) := by decide +kernel
theorem dX10_tellersAheadOf_45 : decode cX10_tellersAheadOf 45 = .ok (.aload_n 0, 1) := by decide +kernel
theorem dX10_tellersAheadOf_46 : decode cX10_tellersAheadOf 46 = .ok (.getfield 74, 3) := by decide +kernel
theorem dX10_tellersAheadOf_49 : decode cX10_tellersAheadOf 49 = .ok (.iload_n 3, 1) := by decide +kernel
theorem dX10_tellersAheadOf_50 : decode cX10_tellersAheadOf 50 = .ok (.iaload, 1) := by decide +kernel
theorem dX10_tellersAheadOf_51 : decode cX10_tellersAheadOf 51 = .ok (.i2l, 1) := by decide +kernel
theorem dX10_tellersAheadOf_52 : decode cX10_tellersAheadOf 52 = .ok (.lmul, 1) := by decide +kernel
theorem dX10_tellersAheadOf_53 : decode cX10_tellersAheadOf 53 = .ok (.lstore 6, 2) := by decide +kernel
theorem dX10_tellersAheadOf_55 : decode cX10_tellersAheadOf 55 = .ok (.lload 4, 2) := by decide +kernel
theorem dX10_tellersAheadOf_57 : decode cX10_tellersAheadOf 57 = .ok (.lload 6, 2) := by decide +kernel
theorem dX10_tellersAheadOf_59 : decode cX10_tellersAheadOf 59 = .ok (.lcmp, 1) := by decide +kernel
theorem dX10_tellersAheadOf_60 : decode cX10_tellersAheadOf 60 = .ok (.ifCond .lt 16, 3) := by decide +kernel
theorem dX10_tellersAheadOf_63 : decode cX10_tellersAheadOf 63 = .ok (.lload 4, 2) := by decide +kernel
theorem dX10_tellersAheadOf_65 : decode cX10_tellersAheadOf 65 = .ok (.lload 6, 2) := by decide +kernel
theorem dX10_tellersAheadOf_67 : decode cX10_tellersAheadOf 67 = .ok (.lcmp, 1) := by decide +kernel
theorem dX10_tellersAheadOf_68 : decode cX10_tellersAheadOf 68 = .ok (.ifCond .ne 11, 3) := by decide +kernel
theorem dX10_tellersAheadOf_71 : decode cX10_tellersAheadOf 71 = .ok (.iload_n 3, 1) := by decide +kernel
theorem dX10_tellersAheadOf_72 : decode cX10_tellersAheadOf 72 = .ok (.iload_n 1, 1) := by decide +kernel
theorem dX10_tellersAheadOf_73 : decode cX10_tellersAheadOf 73 = .ok (.if_icmp .ge 6, 3) := by decide +kernel
theorem dX10_tellersAheadOf_76 : decode cX10_tellersAheadOf 76 = .ok (.iinc 2 1, 3) := by decide +kernel
theorem dX10_tellersAheadOf_79 : decode cX10_tellersAheadOf 79 = .ok (.iinc 3 1, 3) := by decide +kernel
theorem dX10_tellersAheadOf_82 : decode cX10_tellersAheadOf 82 = .ok (.goto (-78), 3) := by decide +kernel
theorem dX10_tellersAheadOf_85 : decode cX10_tellersAheadOf 85 = .ok (.iload_n 2, 1) := by decide +kernel
theorem dX10_tellersAheadOf_86 : decode cX10_tellersAheadOf 86 = .ok (.ireturn, 1) := by decide +kernel
theorem dX10_rank_0 : decode cX10_rank 0 = .ok (.iconst 0, 1) := by decide +kernel
theorem dX10_rank_1 : decode cX10_rank 1 = .ok (.istore_n 2, 1) := by decide +kernel
theorem dX10_rank_2 : decode cX10_rank 2 = .ok (.iload_n 2, 1) := by decide +kernel
theorem dX10_rank_3 : decode cX10_rank 3 = .ok (.iconst 4, 1) := by decide +kernel
theorem dX10_rank_4 : decode cX10_rank 4 = .ok (.if_icmp .gt 51, 3) := by decide +kernel
theorem dX10_rank_7 : decode cX10_rank 7 = .ok (.aload_n 0, 1) := by decide +kernel
theorem dX10_rank_8 : decode cX10_rank 8 = .ok (.getfield 35, 3) := by decide +kernel
theorem dX10_rank_11 : decode cX10_rank 11 = .ok (.aload_n 0, 1) := by decide +kernel
theorem dX10_rank_12 : decode cX10_rank 12 = .ok (.getfield 12, 3) := by decide +kernel
theorem dX10_rank_15 : decode cX10_rank 15 = .ok (.iload_n 2, 1) := by decide +kernel
theorem dX10_rank_16 : decode cX10_rank 16 = .ok (.invokevirtual 226, 3) := by decide +kernel
theorem dX10_rank_19 : decode cX10_rank 19 = .ok (.aload_n 0, 1) := by decide +kernel
theorem dX10_rank_20 : decode cX10_rank 20 = .ok (.getfield 74, 3) := by decide +kernel
theorem dX10_rank_23 : decode cX10_rank 23 = .ok (.iload_n 2, 1) := by decide +kernel
theorem dX10_rank_24 : decode cX10_rank 24 = .ok (.aload_n 0, 1) := by decide +kernel
theorem dX10_rank_25 : decode cX10_rank 25 = .ok (.getfield 35, 3) := by decide +kernel
theorem dX10_rank_28 : decode cX10_rank 28 = .ok (.getfield 230, 3) := by decide +kernel
theorem dX10_rank_31 : decode cX10_rank 31 = .ok (.iastore, 1) := by decide +kernel
theorem dX10_rank_32 : decode cX10_rank 32 = .ok (.aload_n 0, 1) := by decide +kernel
theorem dX10_rank_33 : decode cX10_rank 33 = .ok (.getfield 70, 3) := by decide +kernel
theorem dX10_rank_36 : decode cX10_rank 36 = .ok (.iload_n 2, 1) := by decide +kernel
theorem dX10_rank_37 : decode cX10_rank 37 = .ok (.aload_n 0, 1) := by decide +kernel
theorem dX10_rank_38 : decode cX10_rank 38 = .ok (.getfield 35, 3) := by decide +kernel
theorem dX10_rank_41 : decode cX10_rank 41 = .ok (.aload_n 0, 1) := by decide +kernel
theorem dX10_rank_42 : decode cX10_rank 42 = .ok (.getfield 90, 3) := by decide +kernel
theorem dX10_rank_45 : decode cX10_rank 45 = .ok (.invokevirtual 233, 3) := by decide +kernel
theorem dX10_rank_48 : decode cX10_rank 48 = .ok (.lastore, 1) := by decide +kernel
theorem dX10_rank_49 : decode cX10_rank 49 = .ok (.iinc 2 1, 3) := by decide +kernel
theorem dX10_rank_52 : decode cX10_rank 52 = .ok (.goto (-50), 3) := by decide +kernel
theorem dX10_rank_55 : decode cX10_rank 55 = .ok (.iconst 0, 1) := by decide +kernel
theorem dX10_rank_56 : decode cX10_rank 56 = .ok (.istore_n 2, 1) := by decide +kernel
theorem dX10_rank_57 : decode cX10_rank 57 = .ok (.iload_n 2, 1) := by decide +kernel
theorem dX10_rank_58 : decode cX10_rank 58 = .ok (.iconst 4, 1) := by decide +kernel
theorem dX10_rank_59 : decode cX10_rank 59 = .ok (.if_icmp .gt 29, 3) := by decide +kernel
theorem dX10_rank_62 : decode cX10_rank 62 = .ok (.aload_n 0, 1) := by decide +kernel
theorem dX10_rank_63 : decode cX10_rank 63 = .ok (.getfield 74, 3) := by decide +kernel
theorem dX10_rank_66 : decode cX10_rank 66 = .ok (.iload_n 2, 1) := by decide +kernel
theorem dX10_rank_67 : decode cX10_rank 67 = .ok (.iaload, 1) := by decide +kernel
theorem dX10_rank_68 : decode cX10_rank 68 = .ok (.ifCond .le 14, 3) := by decide +kernel
theorem dX10_rank_71 : decode cX10_rank 71 = .ok (.aload_n 0, 1) := by decide +kernel
theorem dX10_rank_72 : decode cX10_rank 72 = .ok (.iload_n 2, 1) := by decide +kernel
theorem dX10_rank_73 : decode cX10_rank 73 = .ok (.invokevirtual 237, 3) := by decide +kernel
theorem dX10_rank_76 : decode cX10_rank 76 = .ok (.iload_n 1, 1) := by decide +kernel
theorem dX10_rank_77 : decode cX10_rank 77 = .ok (.if_icmp .ne 5, 3) := by decide +kernel
theorem dX10_rank_80 : decode cX10_rank 80 = .ok (.iload_n 2, 1) := by decide +kernel
theorem dX10_rank_81 : decode cX10_rank 81 = .ok (.ireturn, 1) := by decide +kernel
theorem dX10_rank_82 : decode cX10_rank 82 = .ok (.iinc 2 1, 3) := by decide +kernel
theorem dX10_rank_85 : decode cX10_rank 85 = .ok (.goto (-28), 3) := by decide +kernel
theorem dX10_rank_88 : decode cX10_rank 88 = .ok (.iconst (-1), 1) := by decide +kernel
theorem dX10_rank_89 : decode cX10_rank 89 = .ok (.ireturn, 1) := by decide +kernel
theorem dX10_believedMiss_0 : decode cX10_believedMiss 0 = .ok (.iload_n 1, 1) := by decide +kernel
theorem dX10_believedMiss_1 : decode cX10_believedMiss 1 = .ok (.aload_n 0, 1) := by decide +kernel
theorem dX10_believedMiss_2 : decode cX10_believedMiss 2 = .ok (.getfield 90, 3) := by decide +kernel
theorem dX10_believedMiss_5 : decode cX10_believedMiss 5 = .ok (.iload_n 2, 1) := by decide +kernel
theorem dX10_believedMiss_6 : decode cX10_believedMiss 6 = .ok (.iconst 1, 1) := by decide +kernel
theorem dX10_believedMiss_7 : decode cX10_believedMiss 7 = .ok (.invokevirtual 210, 3) := by decide +kernel
theorem dX10_believedMiss_10 : decode cX10_believedMiss 10 = .ok (.imul, 1) := by decide +kernel
theorem dX10_believedMiss_11 : decode cX10_believedMiss 11 = .ok (.bipush 100, 2) := by decide +kernel
theorem dX10_believedMiss_13 : decode cX10_believedMiss 13 = .ok (.iload_n 1, 1) := by decide +kernel
theorem dX10_believedMiss_14 : decode cX10_believedMiss 14 = .ok (.isub, 1) := by decide +kernel
theorem dX10_believedMiss_15 : decode cX10_believedMiss 15 = .ok (.aload_n 0, 1) := by decide +kernel
theorem dX10_believedMiss_16 : decode cX10_believedMiss 16 = .ok (.getfield 90, 3) := by decide +kernel
theorem dX10_believedMiss_19 : decode cX10_believedMiss 19 = .ok (.iload_n 2, 1) := by decide +kernel
theorem dX10_believedMiss_20 : decode cX10_believedMiss 20 = .ok (.iconst 0, 1) := by decide +kernel
theorem dX10_believedMiss_21 : decode cX10_believedMiss 21 = .ok (.invokevirtual 210, 3) := by decide +kernel
theorem dX10_believedMiss_24 : decode cX10_believedMiss 24 = .ok (.imul, 1) := by decide +kernel
theorem dX10_believedMiss_25 : decode cX10_believedMiss 25 = .ok (.iadd, 1) := by decide +kernel
theorem dX10_believedMiss_26 : decode cX10_believedMiss 26 = .ok (.ireturn, 1) := by decide +kernel
theorem dX10_leastBest_0 : decode cX10_leastBest 0 = .ok (.iconst 0, 1) := by decide +kernel
theorem dX10_leastBest_1 : decode cX10_leastBest 1 = .ok (.istore_n 2, 1) := by decide +kernel
theorem dX10_leastBest_2 : decode cX10_leastBest 2 = .ok (.aload_n 0, 1) := by decide +kernel
theorem dX10_leastBest_3 : decode cX10_leastBest 3 = .ok (.iload_n 1, 1) := by decide +kernel
theorem dX10_leastBest_4 : decode cX10_leastBest 4 = .ok (.iconst 0, 1) := by decide +kernel
theorem dX10_leastBest_5 : decode cX10_leastBest 5 = .ok (.invokevirtual 250, 3) := by decide +kernel
theorem dX10_leastBest_8 : decode cX10_leastBest 8 = .ok (.istore_n 3, 1) := by decide +kernel
theorem dX10_leastBest_9 : decode cX10_leastBest 9 = .ok (.iconst 1, 1) := by decide +kernel
theorem dX10_leastBest_10 : decode cX10_leastBest 10 = .ok (.istore 4, 2) := by decide +kernel
theorem dX10_leastBest_12 : decode cX10_leastBest 12 = .ok (.iload 4, 2) := by decide +kernel
theorem dX10_leastBest_14 : decode cX10_leastBest 14 = .ok (.bipush 100, 2) := by decide +kernel
theorem dX10_leastBest_16 : decode cX10_leastBest 16 = .ok (.if_icmp .gt 30, 3) := by decide +kernel
theorem dX10_leastBest_19 : decode cX10_leastBest 19 = .ok (.aload_n 0, 1) := by decide +kernel
theorem dX10_leastBest_20 : decode cX10_leastBest 20 = .ok (.iload_n 1, 1) := by decide +kernel
theorem dX10_leastBest_21 : decode cX10_leastBest 21 = .ok (.iload 4, 2) := by decide +kernel
theorem dX10_leastBest_23 : decode cX10_leastBest 23 = .ok (.invokevirtual 250, 3) := by decide +kernel
theorem dX10_leastBest_26 : decode cX10_leastBest 26 = .ok (.istore 5, 2) := by decide +kernel
theorem dX10_leastBest_28 : decode cX10_leastBest 28 = .ok (.iload 5, 2) := by decide +kernel
theorem dX10_leastBest_30 : decode cX10_leastBest 30 = .ok (.iload_n 3, 1) := by decide +kernel
theorem dX10_leastBest_31 : decode cX10_leastBest 31 = .ok (.if_icmp .ge 9, 3) := by decide +kernel
theorem dX10_leastBest_34 : decode cX10_leastBest 34 = .ok (.iload 5, 2) := by decide +kernel
theorem dX10_leastBest_36 : decode cX10_leastBest 36 = .ok (.istore_n 3, 1) := by decide +kernel
theorem dX10_leastBest_37 : decode cX10_leastBest 37 = .ok (.iload 4, 2) := by decide +kernel
theorem dX10_leastBest_39 : decode cX10_leastBest 39 = .ok (.istore_n 2, 1) := by decide +kernel
theorem dX10_leastBest_40 : decode cX10_leastBest 40 = .ok (.iinc 4 1, 3) := by decide +kernel
theorem dX10_leastBest_43 : decode cX10_leastBest 43 = .ok (.goto (-31), 3) := by decide +kernel
theorem dX10_leastBest_46 : decode cX10_leastBest 46 = .ok (.iload_n 2, 1) := by decide +kernel
theorem dX10_leastBest_47 : decode cX10_leastBest 47 = .ok (.ireturn, 1) := by decide +kernel
theorem dX10_lure_0 : decode cX10_lure 0 = .ok (.iload_n 1, 1) := by decide +kernel
theorem dX10_lure_1 : decode cX10_lure 1 = .ok (.invokestatic 100, 3) := by decide +kernel
theorem dX10_lure_4 : decode cX10_lure 4 = .ok (.ifCond .eq 11, 3) := by decide +kernel
theorem dX10_lure_7 : decode cX10_lure 7 = .ok (.aload_n 0, 1) := by decide +kernel
theorem dX10_lure_8 : decode cX10_lure 8 = .ok (.iload_n 1, 1) := by decide +kernel
theorem dX10_lure_9 : decode cX10_lure 9 = .ok (.invokevirtual 240, 3) := by decide +kernel
theorem dX10_lure_12 : decode cX10_lure 12 = .ok (.goto 5, 3) := by decide +kernel
theorem dX10_lure_15 : decode cX10_lure 15 = .ok (.bipush (-2), 2) := by decide +kernel
theorem dX10_lure_17 : decode cX10_lure 17 = .ok (.ireturn, 1) := by decide +kernel
theorem dX10_countHonest_0 : decode cX10_countHonest 0 = .ok (.iconst 0, 1) := by decide +kernel
theorem dX10_countHonest_1 : decode cX10_countHonest 1 = .ok (.istore_n 1, 1) := by decide +kernel
theorem dX10_countHonest_2 : decode cX10_countHonest 2 = .ok (.iconst 0, 1) := by decide +kernel
theorem dX10_countHonest_3 : decode cX10_countHonest 3 = .ok (.istore_n 2, 1) := by decide +kernel
theorem dX10_countHonest_4 : decode cX10_countHonest 4 = .ok (.iload_n 2, 1) := by decide +kernel
theorem dX10_countHonest_5 : decode cX10_countHonest 5 = .ok (.bipush 100, 2) := by decide +kernel
theorem dX10_countHonest_7 : decode cX10_countHonest 7 = .ok (.if_icmp .gt 31, 3) := by decide +kernel
theorem dX10_countHonest_10 : decode cX10_countHonest 10 = .ok (.aload_n 0, 1) := by decide +kernel
theorem dX10_countHonest_11 : decode cX10_countHonest 11 = .ok (.iload_n 2, 1) := by decide +kernel
theorem dX10_countHonest_12 : decode cX10_countHonest 12 = .ok (.iload_n 2, 1) := by decide +kernel
theorem dX10_countHonest_13 : decode cX10_countHonest 13 = .ok (.invokevirtual 250, 3) := by decide +kernel
theorem dX10_countHonest_16 : decode cX10_countHonest 16 = .ok (.aload_n 0, 1) := by decide +kernel
theorem dX10_countHonest_17 : decode cX10_countHonest 17 = .ok (.iload_n 2, 1) := by decide +kernel
theorem dX10_countHonest_18 : decode cX10_countHonest 18 = .ok (.aload_n 0, 1) := by decide +kernel
theorem dX10_countHonest_19 : decode cX10_countHonest 19 = .ok (.iload_n 2, 1) := by decide +kernel
theorem dX10_countHonest_20 : decode cX10_countHonest 20 = .ok (.invokevirtual 240, 3) := by decide +kernel
theorem dX10_countHonest_23 : decode cX10_countHonest 23 = .ok (.invokevirtual 250, 3) := by decide +kernel
theorem dX10_countHonest_26 : decode cX10_countHonest 26 = .ok (.if_icmp .ne 6, 3) := by decide +kernel
theorem dX10_countHonest_29 : decode cX10_countHonest 29 = .ok (.iinc 1 1, 3) := by decide +kernel
theorem dX10_countHonest_32 : decode cX10_countHonest 32 = .ok (.iinc 2 1, 3) := by decide +kernel
theorem dX10_countHonest_35 : decode cX10_countHonest 35 = .ok (.goto (-31), 3) := by decide +kernel
theorem dX10_countHonest_38 : decode cX10_countHonest 38 = .ok (.iload_n 1, 1) := by decide +kernel
theorem dX10_countHonest_39 : decode cX10_countHonest 39 = .ok (.ireturn, 1) := by decide +kernel
theorem dX10_honest_0 : decode cX10_honest 0 = .ok (.aload_n 0, 1) := by decide +kernel
theorem dX10_honest_1 : decode cX10_honest 1 = .ok (.getfield 81, 3) := by decide +kernel
theorem dX10_honest_4 : decode cX10_honest 4 = .ok (.aload_n 0, 1) := by decide +kernel
theorem dX10_honest_5 : decode cX10_honest 5 = .ok (.getfield 90, 3) := by decide +kernel
theorem dX10_honest_8 : decode cX10_honest 8 = .ok (.getfield 207, 3) := by decide +kernel
theorem dX10_honest_11 : decode cX10_honest 11 = .ok (.iaload, 1) := by decide +kernel
theorem dX10_honest_12 : decode cX10_honest 12 = .ok (.ifCond .ne 19, 3) := by decide +kernel
theorem dX10_honest_15 : decode cX10_honest 15 = .ok (.aload_n 0, 1) := by decide +kernel
theorem dX10_honest_16 : decode cX10_honest 16 = .ok (.getfield 81, 3) := by decide +kernel
theorem dX10_honest_19 : decode cX10_honest 19 = .ok (.aload_n 0, 1) := by decide +kernel
theorem dX10_honest_20 : decode cX10_honest 20 = .ok (.getfield 90, 3) := by decide +kernel
theorem dX10_honest_23 : decode cX10_honest 23 = .ok (.getfield 207, 3) := by decide +kernel
theorem dX10_honest_26 : decode cX10_honest 26 = .ok (.aload_n 0, 1) := by decide +kernel
theorem dX10_honest_27 : decode cX10_honest 27 = .ok (.invokevirtual 243, 3) := by decide +kernel
theorem dX10_honest_30 : decode cX10_honest 30 = .ok (.iastore, 1) := by decide +kernel
theorem dX10_honest_31 : decode cX10_honest 31 = .ok (.aload_n 0, 1) := by decide +kernel
theorem dX10_honest_32 : decode cX10_honest 32 = .ok (.getfield 81, 3) := by decide +kernel
theorem dX10_honest_35 : decode cX10_honest 35 = .ok (.aload_n 0, 1) := by decide +kernel
theorem dX10_honest_36 : decode cX10_honest 36 = .ok (.getfield 90, 3) := by decide +kernel
theorem dX10_honest_39 : decode cX10_honest 39 = .ok (.getfield 207, 3) := by decide +kernel
theorem dX10_honest_42 : decode cX10_honest 42 = .ok (.iaload, 1) := by decide +kernel
theorem dX10_honest_43 : decode cX10_honest 43 = .ok (.ireturn, 1) := by decide +kernel
theorem dX10_cut_0 : decode cX10_cut 0 = .ok (.iload_n 1, 1) := by decide +kernel
theorem dX10_cut_1 : decode cX10_cut 1 = .ok (.iconst 1, 1) := by decide +kernel
theorem dX10_cut_2 : decode cX10_cut 2 = .ok (.if_icmp .lt 9, 3) := by decide +kernel
theorem dX10_cut_5 : decode cX10_cut 5 = .ok (.iload_n 1, 1) := by decide +kernel
theorem dX10_cut_6 : decode cX10_cut 6 = .ok (.bipush 100, 2) := by decide +kernel
theorem dX10_cut_8 : decode cX10_cut 8 = .ok (.if_icmp .le 6, 3) := by decide +kernel
theorem dX10_cut_11 : decode cX10_cut 11 = .ok (.bipush (-2), 2) := by decide +kernel
theorem dX10_cut_13 : decode cX10_cut 13 = .ok (.ireturn, 1) := by decide +kernel
theorem dX10_cut_14 : decode cX10_cut 14 = .ok (.aload_n 0, 1) := by decide +kernel
theorem dX10_cut_15 : decode cX10_cut 15 = .ok (.getfield 42, 3) := by decide +kernel
theorem dX10_cut_18 : decode cX10_cut 18 = .ok (.iload_n 1, 1) := by decide +kernel
theorem dX10_cut_19 : decode cX10_cut 19 = .ok (.invokevirtual 253, 3) := by decide +kernel
theorem dX10_cut_22 : decode cX10_cut 22 = .ok (.ifCond .eq 13, 3) := by decide +kernel
theorem dX10_cut_25 : decode cX10_cut 25 = .ok (.aload_n 0, 1) := by decide +kernel
theorem dX10_cut_26 : decode cX10_cut 26 = .ok (.getfield 42, 3) := by decide +kernel
theorem dX10_cut_29 : decode cX10_cut 29 = .ok (.getfield 256, 3) := by decide +kernel
theorem dX10_cut_32 : decode cX10_cut 32 = .ok (.goto 5, 3) := by decide +kernel
theorem dX10_cut_35 : decode cX10_cut 35 = .ok (.bipush (-4), 2) := by decide +kernel
theorem dX10_cut_37 : decode cX10_cut 37 = .ok (.ireturn, 1) := by decide +kernel
theorem dX10_bin_0 : decode cX10_bin 0 = .ok (.iload_n 1, 1) := by decide +kernel
theorem dX10_bin_1 : decode cX10_bin 1 = .ok (.invokestatic 114, 3) := by decide +kernel
theorem dX10_bin_4 : decode cX10_bin 4 = .ok (.ifCond .eq 14, 3) := by decide +kernel
theorem dX10_bin_7 : decode cX10_bin 7 = .ok (.aload_n 0, 1) := by decide +kernel
theorem dX10_bin_8 : decode cX10_bin 8 = .ok (.getfield 42, 3) := by decide +kernel
theorem dX10_bin_11 : decode cX10_bin 11 = .ok (.iload_n 2, 1) := by decide +kernel
theorem dX10_bin_12 : decode cX10_bin 12 = .ok (.invokevirtual 259, 3) := by decide +kernel
theorem dX10_bin_15 : decode cX10_bin 15 = .ok (.ifCond .ne 5, 3) := by decide +kernel
theorem dX10_bin_18 : decode cX10_bin 18 = .ok (.iconst (-1), 1) := by decide +kernel
theorem dX10_bin_19 : decode cX10_bin 19 = .ok (.ireturn, 1) := by decide +kernel
theorem dX10_bin_20 : decode cX10_bin 20 = .ok (.iload_n 3, 1) := by decide +kernel
theorem dX10_bin_21 : decode cX10_bin 21 = .ok (.ifCond .lt 8, 3) := by decide +kernel
theorem dX10_bin_24 : decode cX10_bin 24 = .ok (.iload_n 3, 1) := by decide +kernel
theorem dX10_bin_25 : decode cX10_bin 25 = .ok (.iconst 4, 1) := by decide +kernel
theorem dX10_bin_26 : decode cX10_bin 26 = .ok (.if_icmp .le 6, 3) := by decide +kernel
theorem dX10_bin_29 : decode cX10_bin 29 = .ok (.bipush (-2), 2) := by decide +kernel
theorem dX10_bin_31 : decode cX10_bin 31 = .ok (.ireturn, 1) := by decide +kernel
theorem dX10_bin_32 : decode cX10_bin 32 = .ok (.iload_n 3, 1) := by decide +kernel
theorem dX10_bin_33 : decode cX10_bin 33 = .ok (.iconst 3, 1) := by decide +kernel
theorem dX10_bin_34 : decode cX10_bin 34 = .ok (.if_icmp .ne 12, 3) := by decide +kernel
theorem dX10_bin_37 : decode cX10_bin 37 = .ok (.aload_n 0, 1) := by decide +kernel
theorem dX10_bin_38 : decode cX10_bin 38 = .ok (.getfield 42, 3) := by decide +kernel
theorem dX10_bin_41 : decode cX10_bin 41 = .ok (.iload_n 2, 1) := by decide +kernel
theorem dX10_bin_42 : decode cX10_bin 42 = .ok (.invokevirtual 262, 3) := by decide +kernel
theorem dX10_bin_45 : decode cX10_bin 45 = .ok (.ireturn, 1) := by decide +kernel
theorem dX10_bin_46 : decode cX10_bin 46 = .ok (.iload_n 3, 1) := by decide +kernel
theorem dX10_bin_47 : decode cX10_bin 47 = .ok (.iconst 4, 1) := by decide +kernel
theorem dX10_bin_48 : decode cX10_bin 48 = .ok (.if_icmp .ne 12, 3) := by decide +kernel
theorem dX10_bin_51 : decode cX10_bin 51 = .ok (.aload_n 0, 1) := by decide +kernel
theorem dX10_bin_52 : decode cX10_bin 52 = .ok (.getfield 42, 3) := by decide +kernel
theorem dX10_bin_55 : decode cX10_bin 55 = .ok (.iload_n 2, 1) := by decide +kernel
theorem dX10_bin_56 : decode cX10_bin 56 = .ok (.invokevirtual 265, 3) := by decide +kernel
theorem dX10_bin_59 : decode cX10_bin 59 = .ok (.ireturn, 1) := by decide +kernel
theorem dX10_bin_60 : decode cX10_bin 60 = .ok (.aload_n 0, 1) := by decide +kernel
theorem dX10_bin_61 : decode cX10_bin 61 = .ok (.getfield 35, 3) := by decide +kernel
theorem dX10_bin_64 : decode cX10_bin 64 = .ok (.aload_n 0, 1) := by decide +kernel
theorem dX10_bin_65 : decode cX10_bin 65 = .ok (.getfield 12, 3) := by decide +kernel
theorem dX10_bin_68 : decode cX10_bin 68 = .ok (.iload_n 1, 1) := by decide +kernel
theorem dX10_bin_69 : decode cX10_bin 69 = .ok (.invokevirtual 226, 3) := by decide +kernel
theorem dX10_bin_72 : decode cX10_bin 72 = .ok (.aload_n 0, 1) := by decide +kernel
theorem dX10_bin_73 : decode cX10_bin 73 = .ok (.getfield 42, 3) := by decide +kernel
theorem dX10_bin_76 : decode cX10_bin 76 = .ok (.aload_n 0, 1) := by decide +kernel
theorem dX10_bin_77 : decode cX10_bin 77 = .ok (.getfield 35, 3) := by decide +kernel
theorem dX10_bin_80 : decode cX10_bin 80 = .ok (.invokevirtual 268, 3) := by decide +kernel
theorem dX10_bin_83 : decode cX10_bin 83 = .ok (.iload_n 3, 1) := by decide +kernel
theorem dX10_bin_84 : decode cX10_bin 84 = .ok (.ifCond .ne 13, 3) := by decide +kernel
theorem dX10_bin_87 : decode cX10_bin 87 = .ok (.aload_n 0, 1) := by decide +kernel
theorem dX10_bin_88 : decode cX10_bin 88 = .ok (.getfield 42, 3) := by decide +kernel
theorem dX10_bin_91 : decode cX10_bin 91 = .ok (.getfield 272, 3) := by decide +kernel
theorem dX10_bin_94 : decode cX10_bin 94 = .ok (.iload_n 2, 1) := by decide +kernel
theorem dX10_bin_95 : decode cX10_bin 95 = .ok (.iaload, 1) := by decide +kernel
theorem dX10_bin_96 : decode cX10_bin 96 = .ok (.ireturn, 1) := by decide +kernel
theorem dX10_bin_97 : decode cX10_bin 97 = .ok (.iload_n 3, 1) := by decide +kernel
theorem dX10_bin_98 : decode cX10_bin 98 = .ok (.iconst 1, 1) := by decide +kernel
theorem dX10_bin_99 : decode cX10_bin 99 = .ok (.if_icmp .ne 15, 3) := by decide +kernel
theorem dX10_bin_102 : decode cX10_bin 102 = .ok (.aload_n 0, 1) := by decide +kernel
theorem dX10_bin_103 : decode cX10_bin 103 = .ok (.getfield 42, 3) := by decide +kernel
theorem dX10_bin_106 : decode cX10_bin 106 = .ok (.getfield 275, 3) := by decide +kernel
theorem dX10_bin_109 : decode cX10_bin 109 = .ok (.iload_n 2, 1) := by decide +kernel
theorem dX10_bin_110 : decode cX10_bin 110 = .ok (.iaload, 1) := by decide +kernel
theorem dX10_bin_111 : decode cX10_bin 111 = .ok (.goto 12, 3) := by decide +kernel
theorem dX10_bin_114 : decode cX10_bin 114 = .ok (.aload_n 0, 1) := by decide +kernel
theorem dX10_bin_115 : decode cX10_bin 115 = .ok (.getfield 42, 3) := by decide +kernel
theorem dX10_bin_118 : decode cX10_bin 118 = .ok (.getfield 278, 3) := by decide +kernel
theorem dX10_bin_121 : decode cX10_bin 121 = .ok (.iload_n 2, 1) := by decide +kernel
theorem dX10_bin_122 : decode cX10_bin 122 = .ok (.iaload, 1) := by decide +kernel
theorem dX10_bin_123 : decode cX10_bin 123 = .ok (.ireturn, 1) := by decide +kernel
theorem dX10_sortCases_0 : decode cX10_sortCases 0 = .ok (.aload_n 0, 1) := by decide +kernel
theorem dX10_sortCases_1 : decode cX10_sortCases 1 = .ok (.getfield 35, 3) := by decide +kernel
theorem dX10_sortCases_4 : decode cX10_sortCases 4 = .ok (.aload_n 0, 1) := by decide +kernel
theorem dX10_sortCases_5 : decode cX10_sortCases 5 = .ok (.getfield 12, 3) := by decide +kernel
theorem dX10_sortCases_8 : decode cX10_sortCases 8 = .ok (.iload_n 1, 1) := by decide +kernel
theorem dX10_sortCases_9 : decode cX10_sortCases 9 = .ok (.invokevirtual 226, 3) := by decide +kernel
theorem dX10_sortCases_12 : decode cX10_sortCases 12 = .ok (.aload_n 0, 1) := by decide +kernel
theorem dX10_sortCases_13 : decode cX10_sortCases 13 = .ok (.getfield 35, 3) := by decide +kernel
theorem dX10_sortCases_16 : decode cX10_sortCases 16 = .ok (.getfield 230, 3) := by decide +kernel
theorem dX10_sortCases_19 : decode cX10_sortCases 19 = .ok (.ifCond .ne 5, 3) := by decide +kernel
theorem dX10_sortCases_22 : decode cX10_sortCases 22 = .ok (.iconst 0, 1) := by decide +kernel
theorem dX10_sortCases_23 : decode cX10_sortCases 23 = .ok (.ireturn, 1) := by decide +kernel
theorem dX10_sortCases_24 : decode cX10_sortCases 24 = .ok (.aload_n 0, 1) := by decide +kernel
theorem dX10_sortCases_25 : decode cX10_sortCases 25 = .ok (.getfield 42, 3) := by decide +kernel
theorem dX10_sortCases_28 : decode cX10_sortCases 28 = .ok (.aload_n 0, 1) := by decide +kernel
theorem dX10_sortCases_29 : decode cX10_sortCases 29 = .ok (.getfield 35, 3) := by decide +kernel
theorem dX10_sortCases_32 : decode cX10_sortCases 32 = .ok (.invokevirtual 268, 3) := by decide +kernel
theorem dX10_sortCases_35 : decode cX10_sortCases 35 = .ok (.iconst 1, 1) := by decide +kernel
theorem dX10_sortCases_36 : decode cX10_sortCases 36 = .ok (.ireturn, 1) := by decide +kernel
theorem dX10_joinParts_0 : decode cX10_joinParts 0 = .ok (.aload_n 0, 1) := by decide +kernel
theorem dX10_joinParts_1 : decode cX10_joinParts 1 = .ok (.getfield 56, 3) := by decide +kernel
theorem dX10_joinParts_4 : decode cX10_joinParts 4 = .ok (.lconst 0, 1) := by decide +kernel
theorem dX10_joinParts_5 : decode cX10_joinParts 5 = .ok (.lconst 1, 1) := by decide +kernel
theorem dX10_joinParts_6 : decode cX10_joinParts 6 = .ok (.invokevirtual 246, 3) := by decide +kernel
theorem dX10_joinParts_9 : decode cX10_joinParts 9 = .ok (.iconst 0, 1) := by decide +kernel
theorem dX10_joinParts_10 : decode cX10_joinParts 10 = .ok (.istore_n 1, 1) := by decide +kernel
theorem dX10_joinParts_11 : decode cX10_joinParts 11 = .ok (.iload_n 1, 1) := by decide +kernel
theorem dX10_joinParts_12 : decode cX10_joinParts 12 = .ok (.iconst 5, 1) := by decide +kernel
theorem dX10_joinParts_13 : decode cX10_joinParts 13 = .ok (.if_icmp .ge 77, 3) := by decide +kernel
theorem dX10_joinParts_16 : decode cX10_joinParts 16 = .ok (.aload_n 0, 1) := by decide +kernel
theorem dX10_joinParts_17 : decode cX10_joinParts 17 = .ok (.getfield 42, 3) := by decide +kernel
theorem dX10_joinParts_20 : decode cX10_joinParts 20 = .ok (.iload_n 1, 1) := by decide +kernel
theorem dX10_joinParts_21 : decode cX10_joinParts 21 = .ok (.aload_n 0, 1) := by decide +kernel
theorem dX10_joinParts_22 : decode cX10_joinParts 22 = .ok (.getfield 35, 3) := by decide +kernel
theorem dX10_joinParts_25 : decode cX10_joinParts 25 = .ok (.aload_n 0, 1) := by decide +kernel
theorem dX10_joinParts_26 : decode cX10_joinParts 26 = .ok (.getfield 60, 3) := by decide +kernel
theorem dX10_joinParts_29 : decode cX10_joinParts 29 = .ok (.invokevirtual 287, 3) := by decide +kernel
theorem dX10_joinParts_32 : decode cX10_joinParts 32 = .ok (.iload_n 1, 1) := by decide +kernel
theorem dX10_joinParts_33 : decode cX10_joinParts 33 = .ok (.iconst 1, 1) := by decide +kernel
theorem dX10_joinParts_34 : decode cX10_joinParts 34 = .ok (.if_icmp .eq 8, 3) := by decide +kernel
theorem dX10_joinParts_37 : decode cX10_joinParts 37 = .ok (.iload_n 1, 1) := by decide +kernel
theorem dX10_joinParts_38 : decode cX10_joinParts 38 = .ok (.iconst 4, 1) := by decide +kernel
theorem dX10_joinParts_39 : decode cX10_joinParts 39 = .ok (.if_icmp .ne 7, 3) := by decide +kernel
theorem dX10_joinParts_42 : decode cX10_joinParts 42 = .ok (.iconst 1, 1) := by decide +kernel
theorem dX10_joinParts_43 : decode cX10_joinParts 43 = .ok (.goto 4, 3) := by decide +kernel
theorem dX10_joinParts_46 : decode cX10_joinParts 46 = .ok (.iconst 0, 1) := by decide +kernel
theorem dX10_joinParts_47 : decode cX10_joinParts 47 = .ok (.istore_n 2, 1) := by decide +kernel
theorem dX10_joinParts_48 : decode cX10_joinParts 48 = .ok (.aload_n 0, 1) := by decide +kernel
theorem dX10_joinParts_49 : decode cX10_joinParts 49 = .ok (.getfield 56, 3) := by decide +kernel
theorem dX10_joinParts_52 : decode cX10_joinParts 52 = .ok (.iload_n 2, 1) := by decide +kernel
theorem dX10_joinParts_53 : decode cX10_joinParts 53 = .ok (.ifCond .eq 14, 3) := by decide +kernel
theorem dX10_joinParts_56 : decode cX10_joinParts 56 = .ok (.aload_n 0, 1) := by decide +kernel
theorem dX10_joinParts_57 : decode cX10_joinParts 57 = .ok (.getfield 60, 3) := by decide +kernel
theorem dX10_joinParts_60 : decode cX10_joinParts 60 = .ok (.getfield 322, 3) := by decide +kernel
theorem dX10_joinParts_63 : decode cX10_joinParts 63 = .ok (.lneg, 1) := by decide +kernel
theorem dX10_joinParts_64 : decode cX10_joinParts 64 = .ok (.goto 10, 3) := by decide +kernel
theorem dX10_joinParts_67 : decode cX10_joinParts 67 = .ok (.aload_n 0, 1) := by decide +kernel
theorem dX10_joinParts_68 : decode cX10_joinParts 68 = .ok (.getfield 60, 3) := by decide +kernel
theorem dX10_joinParts_71 : decode cX10_joinParts 71 = .ok (.getfield 322, 3) := by decide +kernel
theorem dX10_joinParts_74 : decode cX10_joinParts 74 = .ok (.aload_n 0, 1) := by decide +kernel
theorem dX10_joinParts_75 : decode cX10_joinParts 75 = .ok (.getfield 60, 3) := by decide +kernel
theorem dX10_joinParts_78 : decode cX10_joinParts 78 = .ok (.getfield 326, 3) := by decide +kernel
theorem dX10_joinParts_81 : decode cX10_joinParts 81 = .ok (.invokevirtual 329, 3) := by decide +kernel
theorem dX10_joinParts_84 : decode cX10_joinParts 84 = .ok (.iinc 1 1, 3) := by decide +kernel
theorem dX10_joinParts_87 : decode cX10_joinParts 87 = .ok (.goto (-76), 3) := by decide +kernel
theorem dX10_joinParts_90 : decode cX10_joinParts 90 = .ok (.return_, 1) := by decide +kernel
theorem dX10_split_0 : decode cX10_split 0 = .ok (.iload_n 1, 1) := by decide +kernel
theorem dX10_split_1 : decode cX10_split 1 = .ok (.invokestatic 114, 3) := by decide +kernel
theorem dX10_split_4 : decode cX10_split 4 = .ok (.ifCond .eq 27, 3) := by decide +kernel
theorem dX10_split_7 : decode cX10_split 7 = .ok (.iload_n 2, 1) := by decide +kernel
theorem dX10_split_8 : decode cX10_split 8 = .ok (.ifCond .lt 23, 3) := by decide +kernel
theorem dX10_split_11 : decode cX10_split 11 = .ok (.iload_n 2, 1) := by decide +kernel
theorem dX10_split_12 : decode cX10_split 12 = .ok (.iconst 5, 1) := by decide +kernel
theorem dX10_split_13 : decode cX10_split 13 = .ok (.if_icmp .gt 18, 3) := by decide +kernel
theorem dX10_split_16 : decode cX10_split 16 = .ok (.iload_n 3, 1) := by decide +kernel
theorem dX10_split_17 : decode cX10_split 17 = .ok (.invokestatic 214, 3) := by decide +kernel
theorem dX10_split_20 : decode cX10_split 20 = .ok (.ifCond .eq 11, 3) := by decide +kernel
theorem dX10_split_23 : decode cX10_split 23 = .ok (.aload_n 0, 1) := by decide +kernel
theorem dX10_split_24 : decode cX10_split 24 = .ok (.iload_n 1, 1) := by decide +kernel
theorem dX10_split_25 : decode cX10_split 25 = .ok (.invokevirtual 281, 3) := by decide +kernel
theorem dX10_split_28 : decode cX10_split 28 = .ok (.ifCond .ne 7, 3) := by decide +kernel
theorem dX10_split_31 : decode cX10_split 31 = .ok (.ldc2_w 220, 3) := by decide +kernel
theorem dX10_split_34 : decode cX10_split 34 = .ok (.lreturn, 1) := by decide +kernel
theorem dX10_split_35 : decode cX10_split 35 = .ok (.iload_n 2, 1) := by decide +kernel
theorem dX10_split_36 : decode cX10_split 36 = .ok (.iconst 5, 1) := by decide +kernel
theorem dX10_split_37 : decode cX10_split 37 = .ok (.if_icmp .ne 10, 3) := by decide +kernel
theorem dX10_split_40 : decode cX10_split 40 = .ok (.aload_n 0, 1) := by decide +kernel
theorem dX10_split_41 : decode cX10_split 41 = .ok (.invokevirtual 284, 3) := by decide +kernel
theorem dX10_split_44 : decode cX10_split 44 = .ok (.goto 19, 3) := by decide +kernel
theorem dX10_split_47 : decode cX10_split 47 = .ok (.aload_n 0, 1) := by decide +kernel
theorem dX10_split_48 : decode cX10_split 48 = .ok (.getfield 42, 3) := by decide +kernel
theorem dX10_split_51 : decode cX10_split 51 = .ok (.iload_n 2, 1) := by decide +kernel
theorem dX10_split_52 : decode cX10_split 52 = .ok (.aload_n 0, 1) := by decide +kernel
theorem dX10_split_53 : decode cX10_split 53 = .ok (.getfield 35, 3) := by decide +kernel
theorem dX10_split_56 : decode cX10_split 56 = .ok (.aload_n 0, 1) := by decide +kernel
theorem dX10_split_57 : decode cX10_split 57 = .ok (.getfield 56, 3) := by decide +kernel
theorem dX10_split_60 : decode cX10_split 60 = .ok (.invokevirtual 287, 3) := by decide +kernel
theorem dX10_split_63 : decode cX10_split 63 = .ok (.aload_n 0, 1) := by decide +kernel
theorem dX10_split_64 : decode cX10_split 64 = .ok (.getfield 56, 3) := by decide +kernel
theorem dX10_split_67 : decode cX10_split 67 = .ok (.iload_n 3, 1) := by decide +kernel
theorem dX10_split_68 : decode cX10_split 68 = .ok (.invokevirtual 222, 3) := by decide +kernel
theorem dX10_split_71 : decode cX10_split 71 = .ok (.lreturn, 1) := by decide +kernel
theorem dX10_joined_0 : decode cX10_joined 0 = .ok (.iload_n 1, 1) := by decide +kernel
theorem dX10_joined_1 : decode cX10_joined 1 = .ok (.invokestatic 114, 3) := by decide +kernel
theorem dX10_joined_4 : decode cX10_joined 4 = .ok (.ifCond .eq 40, 3) := by decide +kernel
theorem dX10_joined_7 : decode cX10_joined 7 = .ok (.aload_n 0, 1) := by decide +kernel
theorem dX10_joined_8 : decode cX10_joined 8 = .ok (.getfield 42, 3) := by decide +kernel
theorem dX10_joined_11 : decode cX10_joined 11 = .ok (.iload_n 2, 1) := by decide +kernel
theorem dX10_joined_12 : decode cX10_joined 12 = .ok (.invokevirtual 259, 3) := by decide +kernel
theorem dX10_joined_15 : decode cX10_joined 15 = .ok (.ifCond .eq 29, 3) := by decide +kernel
theorem dX10_joined_18 : decode cX10_joined 18 = .ok (.iload_n 2, 1) := by decide +kernel
theorem dX10_joined_19 : decode cX10_joined 19 = .ok (.aload_n 0, 1) := by decide +kernel
theorem dX10_joined_20 : decode cX10_joined 20 = .ok (.getfield 42, 3) := by decide +kernel
theorem dX10_joined_23 : decode cX10_joined 23 = .ok (.getfield 256, 3) := by decide +kernel
theorem dX10_joined_26 : decode cX10_joined 26 = .ok (.if_icmp .eq 18, 3) := by decide +kernel
theorem dX10_joined_29 : decode cX10_joined 29 = .ok (.iload_n 3, 1) := by decide +kernel
theorem dX10_joined_30 : decode cX10_joined 30 = .ok (.invokestatic 214, 3) := by decide +kernel
theorem dX10_joined_33 : decode cX10_joined 33 = .ok (.ifCond .eq 11, 3) := by decide +kernel
theorem dX10_joined_36 : decode cX10_joined 36 = .ok (.aload_n 0, 1) := by decide +kernel
theorem dX10_joined_37 : decode cX10_joined 37 = .ok (.iload_n 1, 1) := by decide +kernel
theorem dX10_joined_38 : decode cX10_joined 38 = .ok (.invokevirtual 281, 3) := by decide +kernel
theorem dX10_joined_41 : decode cX10_joined 41 = .ok (.ifCond .ne 7, 3) := by decide +kernel
theorem dX10_joined_44 : decode cX10_joined 44 = .ok (.ldc2_w 220, 3) := by decide +kernel
theorem dX10_joined_47 : decode cX10_joined 47 = .ok (.lreturn, 1) := by decide +kernel
theorem dX10_joined_48 : decode cX10_joined 48 = .ok (.aload_n 0, 1) := by decide +kernel
theorem dX10_joined_49 : decode cX10_joined 49 = .ok (.getfield 42, 3) := by decide +kernel
theorem dX10_joined_52 : decode cX10_joined 52 = .ok (.iload_n 2, 1) := by decide +kernel
theorem dX10_joined_53 : decode cX10_joined 53 = .ok (.aload_n 0, 1) := by decide +kernel
theorem dX10_joined_54 : decode cX10_joined 54 = .ok (.getfield 35, 3) := by decide +kernel
theorem dX10_joined_57 : decode cX10_joined 57 = .ok (.aload_n 0, 1) := by decide +kernel
theorem dX10_joined_58 : decode cX10_joined 58 = .ok (.getfield 56, 3) := by decide +kernel
theorem dX10_joined_61 : decode cX10_joined 61 = .ok (.invokevirtual 291, 3) := by decide +kernel
theorem dX10_joined_64 : decode cX10_joined 64 = .ok (.aload_n 0, 1) := by decide +kernel
theorem dX10_joined_65 : decode cX10_joined 65 = .ok (.getfield 56, 3) := by decide +kernel
theorem dX10_joined_68 : decode cX10_joined 68 = .ok (.iload_n 3, 1) := by decide +kernel
theorem dX10_joined_69 : decode cX10_joined 69 = .ok (.invokevirtual 222, 3) := by decide +kernel
theorem dX10_joined_72 : decode cX10_joined 72 = .ok (.lreturn, 1) := by decide +kernel
theorem dX10_area_0 : decode cX10_area 0 = .ok (.iload_n 1, 1) := by decide +kernel
theorem dX10_area_1 : decode cX10_area 1 = .ok (.invokestatic 114, 3) := by decide +kernel
theorem dX10_area_4 : decode cX10_area 4 = .ok (.ifCond .eq 10, 3) := by decide +kernel
theorem dX10_area_7 : decode cX10_area 7 = .ok (.iload_n 2, 1) := by decide +kernel
theorem dX10_area_8 : decode cX10_area 8 = .ok (.invokestatic 214, 3) := by decide +kernel
theorem dX10_area_11 : decode cX10_area 11 = .ok (.ifCond .ne 7, 3) := by decide +kernel
theorem dX10_area_14 : decode cX10_area 14 = .ok (.ldc2_w 220, 3) := by decide +kernel
theorem dX10_area_17 : decode cX10_area 17 = .ok (.lreturn, 1) := by decide +kernel
theorem dX10_area_18 : decode cX10_area 18 = .ok (.aload_n 0, 1) := by decide +kernel
theorem dX10_area_19 : decode cX10_area 19 = .ok (.getfield 35, 3) := by decide +kernel
theorem dX10_area_22 : decode cX10_area 22 = .ok (.aload_n 0, 1) := by decide +kernel
theorem dX10_area_23 : decode cX10_area 23 = .ok (.getfield 12, 3) := by decide +kernel
theorem dX10_area_26 : decode cX10_area 26 = .ok (.iload_n 1, 1) := by decide +kernel
theorem dX10_area_27 : decode cX10_area 27 = .ok (.invokevirtual 226, 3) := by decide +kernel
theorem dX10_area_30 : decode cX10_area 30 = .ok (.aload_n 0, 1) := by decide +kernel
theorem dX10_area_31 : decode cX10_area 31 = .ok (.getfield 35, 3) := by decide +kernel
theorem dX10_area_34 : decode cX10_area 34 = .ok (.getfield 230, 3) := by decide +kernel
theorem dX10_area_37 : decode cX10_area 37 = .ok (.aload_n 0, 1) := by decide +kernel
theorem dX10_area_38 : decode cX10_area 38 = .ok (.getfield 35, 3) := by decide +kernel
theorem dX10_area_41 : decode cX10_area 41 = .ok (.getfield 294, 3) := by decide +kernel
theorem dX10_area_44 : decode cX10_area 44 = .ok (.isub, 1) := by decide +kernel
theorem dX10_area_45 : decode cX10_area 45 = .ok (.istore_n 3, 1) := by decide +kernel
theorem dX10_area_46 : decode cX10_area 46 = .ok (.aload_n 0, 1) := by decide +kernel
theorem dX10_area_47 : decode cX10_area 47 = .ok (.getfield 35, 3) := by decide +kernel
theorem dX10_area_50 : decode cX10_area 50 = .ok (.getfield 294, 3) := by decide +kernel
theorem dX10_area_53 : decode cX10_area 53 = .ok (.ifCond .eq 7, 3) := by decide +kernel
theorem dX10_area_56 : decode cX10_area 56 = .ok (.iload_n 3, 1) := by decide +kernel
theorem dX10_area_57 : decode cX10_area 57 = .ok (.ifCond .ne 7, 3) := by decide +kernel
theorem dX10_area_60 : decode cX10_area 60 = .ok (.ldc2_w 220, 3) := by decide +kernel
theorem dX10_area_63 : decode cX10_area 63 = .ok (.lreturn, 1) := by decide +kernel
theorem dX10_area_64 : decode cX10_area 64 = .ok (.aload_n 0, 1) := by decide +kernel
theorem dX10_area_65 : decode cX10_area 65 = .ok (.getfield 56, 3) := by decide +kernel
theorem dX10_area_68 : decode cX10_area 68 = .ok (.aload_n 0, 1) := by decide +kernel
theorem dX10_area_69 : decode cX10_area 69 = .ok (.getfield 35, 3) := by decide +kernel
theorem dX10_area_72 : decode cX10_area 72 = .ok (.invokevirtual 297, 3) := by decide +kernel
theorem dX10_area_75 : decode cX10_area 75 = .ok (.ldc2_w 301, 3) := by decide +kernel
theorem dX10_area_78 : decode cX10_area 78 = .ok (.aload_n 0, 1) := by decide +kernel
theorem dX10_area_79 : decode cX10_area 79 = .ok (.getfield 35, 3) := by decide +kernel
theorem dX10_area_82 : decode cX10_area 82 = .ok (.getfield 294, 3) := by decide +kernel
theorem dX10_area_85 : decode cX10_area 85 = .ok (.i2l, 1) := by decide +kernel
theorem dX10_area_86 : decode cX10_area 86 = .ok (.lmul, 1) := by decide +kernel
theorem dX10_area_87 : decode cX10_area 87 = .ok (.iload_n 3, 1) := by decide +kernel
theorem dX10_area_88 : decode cX10_area 88 = .ok (.i2l, 1) := by decide +kernel
theorem dX10_area_89 : decode cX10_area 89 = .ok (.lmul, 1) := by decide +kernel
theorem dX10_area_90 : decode cX10_area 90 = .ok (.invokevirtual 246, 3) := by decide +kernel
theorem dX10_area_93 : decode cX10_area 93 = .ok (.aload_n 0, 1) := by decide +kernel
theorem dX10_area_94 : decode cX10_area 94 = .ok (.getfield 56, 3) := by decide +kernel
theorem dX10_area_97 : decode cX10_area 97 = .ok (.iload_n 2, 1) := by decide +kernel
theorem dX10_area_98 : decode cX10_area 98 = .ok (.invokevirtual 222, 3) := by decide +kernel
theorem dX10_area_101 : decode cX10_area 101 = .ok (.lreturn, 1) := by decide +kernel
theorem dX10_pools_0 : decode cX10_pools 0 = .ok (.iload_n 1, 1) := by decide +kernel
theorem dX10_pools_1 : decode cX10_pools 1 = .ok (.invokestatic 114, 3) := by decide +kernel
theorem dX10_pools_4 : decode cX10_pools 4 = .ok (.ifCond .ne 5, 3) := by decide +kernel
theorem dX10_pools_7 : decode cX10_pools 7 = .ok (.iconst (-1), 1) := by decide +kernel
theorem dX10_pools_8 : decode cX10_pools 8 = .ok (.ireturn, 1) := by decide +kernel
theorem dX10_pools_9 : decode cX10_pools 9 = .ok (.aload_n 0, 1) := by decide +kernel
theorem dX10_pools_10 : decode cX10_pools 10 = .ok (.getfield 35, 3) := by decide +kernel
theorem dX10_pools_13 : decode cX10_pools 13 = .ok (.aload_n 0, 1) := by decide +kernel
theorem dX10_pools_14 : decode cX10_pools 14 = .ok (.getfield 12, 3) := by decide +kernel
theorem dX10_pools_17 : decode cX10_pools 17 = .ok (.iload_n 1, 1) := by decide +kernel
theorem dX10_pools_18 : decode cX10_pools 18 = .ok (.invokevirtual 226, 3) := by decide +kernel
theorem dX10_pools_21 : decode cX10_pools 21 = .ok (.aload_n 0, 1) := by decide +kernel
theorem dX10_pools_22 : decode cX10_pools 22 = .ok (.getfield 49, 3) := by decide +kernel
theorem dX10_pools_25 : decode cX10_pools 25 = .ok (.aload_n 0, 1) := by decide +kernel
theorem dX10_pools_26 : decode cX10_pools 26 = .ok (.getfield 35, 3) := by decide +kernel
theorem dX10_pools_29 : decode cX10_pools 29 = .ok (.invokevirtual 303, 3) := by decide +kernel
theorem dX10_pools_32 : decode cX10_pools 32 = .ok (.aload_n 0, 1) := by decide +kernel
theorem dX10_pools_33 : decode cX10_pools 33 = .ok (.getfield 49, 3) := by decide +kernel
theorem dX10_pools_36 : decode cX10_pools 36 = .ok (.getfield 306, 3) := by decide +kernel
theorem dX10_pools_39 : decode cX10_pools 39 = .ok (.ireturn, 1) := by decide +kernel
theorem dX10_pool_0 : decode cX10_pool 0 = .ok (.iload_n 1, 1) := by decide +kernel
theorem dX10_pool_1 : decode cX10_pool 1 = .ok (.invokestatic 114, 3) := by decide +kernel
theorem dX10_pool_4 : decode cX10_pool 4 = .ok (.ifCond .ne 5, 3) := by decide +kernel
theorem dX10_pool_7 : decode cX10_pool 7 = .ok (.iconst (-1), 1) := by decide +kernel
theorem dX10_pool_8 : decode cX10_pool 8 = .ok (.ireturn, 1) := by decide +kernel
theorem dX10_pool_9 : decode cX10_pool 9 = .ok (.aload_n 0, 1) := by decide +kernel
theorem dX10_pool_10 : decode cX10_pool 10 = .ok (.getfield 35, 3) := by decide +kernel
theorem dX10_pool_13 : decode cX10_pool 13 = .ok (.aload_n 0, 1) := by decide +kernel
theorem dX10_pool_14 : decode cX10_pool 14 = .ok (.getfield 12, 3) := by decide +kernel
theorem dX10_pool_17 : decode cX10_pool 17 = .ok (.iload_n 1, 1) := by decide +kernel
theorem dX10_pool_18 : decode cX10_pool 18 = .ok (.invokevirtual 226, 3) := by decide +kernel
theorem dX10_pool_21 : decode cX10_pool 21 = .ok (.aload_n 0, 1) := by decide +kernel
theorem dX10_pool_22 : decode cX10_pool 22 = .ok (.getfield 49, 3) := by decide +kernel
theorem dX10_pool_25 : decode cX10_pool 25 = .ok (.aload_n 0, 1) := by decide +kernel
theorem dX10_pool_26 : decode cX10_pool 26 = .ok (.getfield 35, 3) := by decide +kernel
theorem dX10_pool_29 : decode cX10_pool 29 = .ok (.invokevirtual 303, 3) := by decide +kernel
theorem dX10_pool_32 : decode cX10_pool 32 = .ok (.iload_n 2, 1) := by decide +kernel
theorem dX10_pool_33 : decode cX10_pool 33 = .ok (.ifCond .lt 14, 3) := by decide +kernel
theorem dX10_pool_36 : decode cX10_pool 36 = .ok (.iload_n 2, 1) := by decide +kernel
theorem dX10_pool_37 : decode cX10_pool 37 = .ok (.aload_n 0, 1) := by decide +kernel
theorem dX10_pool_38 : decode cX10_pool 38 = .ok (.getfield 49, 3) := by decide +kernel
theorem dX10_pool_41 : decode cX10_pool 41 = .ok (.getfield 306, 3) := by decide +kernel
theorem dX10_pool_44 : decode cX10_pool 44 = .ok (.if_icmp .lt 5, 3) := by decide +kernel
theorem dX10_pool_47 : decode cX10_pool 47 = .ok (.iconst (-1), 1) := by decide +kernel
theorem dX10_pool_48 : decode cX10_pool 48 = .ok (.ireturn, 1) := by decide +kernel
theorem dX10_pool_49 : decode cX10_pool 49 = .ok (.iload_n 3, 1) := by decide +kernel
theorem dX10_pool_50 : decode cX10_pool 50 = .ok (.ifCond .lt 8, 3) := by decide +kernel
theorem dX10_pool_53 : decode cX10_pool 53 = .ok (.iload_n 3, 1) := by decide +kernel
theorem dX10_pool_54 : decode cX10_pool 54 = .ok (.iconst 3, 1) := by decide +kernel
theorem dX10_pool_55 : decode cX10_pool 55 = .ok (.if_icmp .le 6, 3) := by decide +kernel
theorem dX10_pool_58 : decode cX10_pool 58 = .ok (.bipush (-2), 2) := by decide +kernel
theorem dX10_pool_60 : decode cX10_pool 60 = .ok (.ireturn, 1) := by decide +kernel
theorem dX10_pool_61 : decode cX10_pool 61 = .ok (.aload_n 0, 1) := by decide +kernel
theorem dX10_pool_62 : decode cX10_pool 62 = .ok (.getfield 49, 3) := by decide +kernel
theorem dX10_pool_65 : decode cX10_pool 65 = .ok (.iload_n 2, 1) := by decide +kernel
theorem dX10_pool_66 : decode cX10_pool 66 = .ok (.iload_n 3, 1) := by decide +kernel
theorem dX10_pool_67 : decode cX10_pool 67 = .ok (.invokevirtual 307, 3) := by decide +kernel
theorem dX10_pool_70 : decode cX10_pool 70 = .ok (.ireturn, 1) := by decide +kernel
theorem dX10_flat_0 : decode cX10_flat 0 = .ok (.iload_n 1, 1) := by decide +kernel
theorem dX10_flat_1 : decode cX10_flat 1 = .ok (.invokestatic 114, 3) := by decide +kernel
theorem dX10_flat_4 : decode cX10_flat 4 = .ok (.ifCond .eq 10, 3) := by decide +kernel
theorem dX10_flat_7 : decode cX10_flat 7 = .ok (.iload_n 2, 1) := by decide +kernel
theorem dX10_flat_8 : decode cX10_flat 8 = .ok (.invokestatic 214, 3) := by decide +kernel
theorem dX10_flat_11 : decode cX10_flat 11 = .ok (.ifCond .ne 7, 3) := by decide +kernel
theorem dX10_flat_14 : decode cX10_flat 14 = .ok (.ldc2_w 220, 3) := by decide +kernel
theorem dX10_flat_17 : decode cX10_flat 17 = .ok (.lreturn, 1) := by decide +kernel
theorem dX10_flat_18 : decode cX10_flat 18 = .ok (.aload_n 0, 1) := by decide +kernel
theorem dX10_flat_19 : decode cX10_flat 19 = .ok (.getfield 35, 3) := by decide +kernel
theorem dX10_flat_22 : decode cX10_flat 22 = .ok (.aload_n 0, 1) := by decide +kernel
theorem dX10_flat_23 : decode cX10_flat 23 = .ok (.getfield 12, 3) := by decide +kernel
theorem dX10_flat_26 : decode cX10_flat 26 = .ok (.iload_n 1, 1) := by decide +kernel
theorem dX10_flat_27 : decode cX10_flat 27 = .ok (.invokevirtual 226, 3) := by decide +kernel
theorem dX10_flat_30 : decode cX10_flat 30 = .ok (.aload_n 0, 1) := by decide +kernel
theorem dX10_flat_31 : decode cX10_flat 31 = .ok (.getfield 35, 3) := by decide +kernel
theorem dX10_flat_34 : decode cX10_flat 34 = .ok (.getfield 230, 3) := by decide +kernel
theorem dX10_flat_37 : decode cX10_flat 37 = .ok (.ifCond .ne 7, 3) := by decide +kernel
theorem dX10_flat_40 : decode cX10_flat 40 = .ok (.ldc2_w 220, 3) := by decide +kernel
theorem dX10_flat_43 : decode cX10_flat 43 = .ok (.lreturn, 1) := by decide +kernel
theorem dX10_flat_44 : decode cX10_flat 44 = .ok (.aload_n 0, 1) := by decide +kernel
theorem dX10_flat_45 : decode cX10_flat 45 = .ok (.getfield 49, 3) := by decide +kernel
theorem dX10_flat_48 : decode cX10_flat 48 = .ok (.aload_n 0, 1) := by decide +kernel
theorem dX10_flat_49 : decode cX10_flat 49 = .ok (.getfield 35, 3) := by decide +kernel
theorem dX10_flat_52 : decode cX10_flat 52 = .ok (.invokevirtual 303, 3) := by decide +kernel
theorem dX10_flat_55 : decode cX10_flat 55 = .ok (.aload_n 0, 1) := by decide +kernel
theorem dX10_flat_56 : decode cX10_flat 56 = .ok (.getfield 49, 3) := by decide +kernel
theorem dX10_flat_59 : decode cX10_flat 59 = .ok (.aload_n 0, 1) := by decide +kernel
theorem dX10_flat_60 : decode cX10_flat 60 = .ok (.getfield 35, 3) := by decide +kernel
theorem dX10_flat_63 : decode cX10_flat 63 = .ok (.getfield 230, 3) := by decide +kernel
theorem dX10_flat_66 : decode cX10_flat 66 = .ok (.aload_n 0, 1) := by decide +kernel
theorem dX10_flat_67 : decode cX10_flat 67 = .ok (.getfield 56, 3) := by decide +kernel
theorem dX10_flat_70 : decode cX10_flat 70 = .ok (.invokevirtual 310, 3) := by decide +kernel
theorem dX10_flat_73 : decode cX10_flat 73 = .ok (.aload_n 0, 1) := by decide +kernel
theorem dX10_flat_74 : decode cX10_flat 74 = .ok (.getfield 56, 3) := by decide +kernel
theorem dX10_flat_77 : decode cX10_flat 77 = .ok (.iload_n 2, 1) := by decide +kernel
theorem dX10_flat_78 : decode cX10_flat 78 = .ok (.invokevirtual 222, 3) := by decide +kernel
theorem dX10_flat_81 : decode cX10_flat 81 = .ok (.lreturn, 1) := by decide +kernel
theorem dX10_countWins_0 : decode cX10_countWins 0 = .ok (.aload_n 0, 1) := by decide +kernel
theorem dX10_countWins_1 : decode cX10_countWins 1 = .ok (.getfield 78, 3) := by decide +kernel
theorem dX10_countWins_4 : decode cX10_countWins 4 = .ok (.iconst 0, 1) := by decide +kernel
theorem dX10_countWins_5 : decode cX10_countWins 5 = .ok (.iconst 0, 1) := by decide +kernel
theorem dX10_countWins_6 : decode cX10_countWins 6 = .ok (.iastore, 1) := by decide +kernel
theorem dX10_countWins_7 : decode cX10_countWins 7 = .ok (.aload_n 0, 1) := by decide +kernel
theorem dX10_countWins_8 : decode cX10_countWins 8 = .ok (.getfield 78, 3) := by decide +kernel
theorem dX10_countWins_11 : decode cX10_countWins 11 = .ok (.iconst 1, 1) := by decide +kernel
theorem dX10_countWins_12 : decode cX10_countWins 12 = .ok (.iconst 0, 1) := by decide +kernel
theorem dX10_countWins_13 : decode cX10_countWins 13 = .ok (.iastore, 1) := by decide +kernel
theorem dX10_countWins_14 : decode cX10_countWins 14 = .ok (.aload_n 0, 1) := by decide +kernel
theorem dX10_countWins_15 : decode cX10_countWins 15 = .ok (.getfield 78, 3) := by decide +kernel
theorem dX10_countWins_18 : decode cX10_countWins 18 = .ok (.iconst 2, 1) := by decide +kernel
theorem dX10_countWins_19 : decode cX10_countWins 19 = .ok (.iconst 0, 1) := by decide +kernel
theorem dX10_countWins_20 : decode cX10_countWins 20 = .ok (.iastore, 1) := by decide +kernel
theorem dX10_countWins_21 : decode cX10_countWins 21 = .ok (.iconst 0, 1) := by decide +kernel
theorem dX10_countWins_22 : decode cX10_countWins 22 = .ok (.istore_n 3, 1) := by decide +kernel
theorem dX10_countWins_23 : decode cX10_countWins 23 = .ok (.iload_n 3, 1) := by decide +kernel
theorem dX10_countWins_24 : decode cX10_countWins 24 = .ok (.bipush 40, 2) := by decide +kernel
theorem dX10_countWins_26 : decode cX10_countWins 26 = .ok (.if_icmp .ge 129, 3) := by decide +kernel
theorem dX10_countWins_29 : decode cX10_countWins 29 = .ok (.aload_n 0, 1) := by decide +kernel
theorem dX10_countWins_30 : decode cX10_countWins 30 = .ok (.getfield 12, 3) := by decide +kernel
theorem dX10_countWins_33 : decode cX10_countWins 33 = .ok (.iload_n 1, 1) := by decide +kernel
theorem dX10_countWins_34 : decode cX10_countWins 34 = .ok (.iload_n 3, 1) := by decide +kernel
theorem dX10_countWins_35 : decode cX10_countWins 35 = .ok (.invokevirtual 332, 3) := by decide +kernel
theorem dX10_countWins_38 : decode cX10_countWins 38 = .ok (.ifCond .eq 111, 3) := by decide +kernel
theorem dX10_countWins_41 : decode cX10_countWins 41 = .ok (.aload_n 0, 1) := by decide +kernel
theorem dX10_countWins_42 : decode cX10_countWins 42 = .ok (.getfield 12, 3) := by decide +kernel
theorem dX10_countWins_45 : decode cX10_countWins 45 = .ok (.iload_n 2, 1) := by decide +kernel
theorem dX10_countWins_46 : decode cX10_countWins 46 = .ok (.iload_n 3, 1) := by decide +kernel
theorem dX10_countWins_47 : decode cX10_countWins 47 = .ok (.invokevirtual 332, 3) := by decide +kernel
theorem dX10_countWins_50 : decode cX10_countWins 50 = .ok (.ifCond .eq 99, 3) := by decide +kernel
theorem dX10_countWins_53 : decode cX10_countWins 53 = .ok (.aload_n 0, 1) := by decide +kernel
theorem dX10_countWins_54 : decode cX10_countWins 54 = .ok (.getfield 12, 3) := by decide +kernel
theorem dX10_countWins_57 : decode cX10_countWins 57 = .ok (.getfield 120, 3) := by decide +kernel
theorem dX10_countWins_60 : decode cX10_countWins 60 = .ok (.iload_n 3, 1) := by decide +kernel
theorem dX10_countWins_61 : decode cX10_countWins 61 = .ok (.iaload, 1) := by decide +kernel
theorem dX10_countWins_62 : decode cX10_countWins 62 = .ok (.iconst 1, 1) := by decide +kernel
theorem dX10_countWins_63 : decode cX10_countWins 63 = .ok (.if_icmp .ne 7, 3) := by decide +kernel
theorem dX10_countWins_66 : decode cX10_countWins 66 = .ok (.iconst 1, 1) := by decide +kernel
theorem dX10_countWins_67 : decode cX10_countWins 67 = .ok (.goto 4, 3) := by decide +kernel
theorem dX10_countWins_70 : decode cX10_countWins 70 = .ok (.iconst 0, 1) := by decide +kernel
theorem dX10_countWins_71 : decode cX10_countWins 71 = .ok (.istore 4, 2) := by decide +kernel
theorem dX10_countWins_73 : decode cX10_countWins 73 = .ok (.aload_n 0, 1) := by decide +kernel
theorem dX10_countWins_74 : decode cX10_countWins 74 = .ok (.getfield 90, 3) := by decide +kernel
theorem dX10_countWins_77 : decode cX10_countWins 77 = .ok (.aload_n 0, 1) := by decide +kernel
theorem dX10_countWins_78 : decode cX10_countWins 78 = .ok (.getfield 12, 3) := by decide +kernel
theorem dX10_countWins_81 : decode cX10_countWins 81 = .ok (.iload_n 1, 1) := by decide +kernel
theorem dX10_countWins_82 : decode cX10_countWins 82 = .ok (.iload_n 3, 1) := by decide +kernel
theorem dX10_countWins_83 : decode cX10_countWins 83 = .ok (.invokevirtual 117, 3) := by decide +kernel
theorem dX10_countWins_86 : decode cX10_countWins 86 = .ok (.iload 4, 2) := by decide +kernel
theorem dX10_countWins_88 : decode cX10_countWins 88 = .ok (.invokevirtual 210, 3) := by decide +kernel
theorem dX10_countWins_91 : decode cX10_countWins 91 = .ok (.istore 5, 2) := by decide +kernel
theorem dX10_countWins_93 : decode cX10_countWins 93 = .ok (.aload_n 0, 1) := by decide +kernel
theorem dX10_countWins_94 : decode cX10_countWins 94 = .ok (.getfield 90, 3) := by decide +kernel
theorem dX10_countWins_97 : decode cX10_countWins 97 = .ok (.aload_n 0, 1) := by decide +kernel
theorem dX10_countWins_98 : decode cX10_countWins 98 = .ok (.getfield 12, 3) := by decide +kernel
theorem dX10_countWins_101 : decode cX10_countWins 101 = .ok (.iload_n 2, 1) := by decide +kernel
theorem dX10_countWins_102 : decode cX10_countWins 102 = .ok (.iload_n 3, 1) := by decide +kernel
theorem dX10_countWins_103 : decode cX10_countWins 103 = .ok (.invokevirtual 117, 3) := by decide +kernel
theorem dX10_countWins_106 : decode cX10_countWins 106 = .ok (.iload 4, 2) := by decide +kernel
theorem dX10_countWins_108 : decode cX10_countWins 108 = .ok (.invokevirtual 210, 3) := by decide +kernel
theorem dX10_countWins_111 : decode cX10_countWins 111 = .ok (.istore 6, 2) := by decide +kernel
theorem dX10_countWins_113 : decode cX10_countWins 113 = .ok (.iload 5, 2) := by decide +kernel
theorem dX10_countWins_115 : decode cX10_countWins 115 = .ok (.iload 6, 2) := by decide +kernel
theorem dX10_countWins_117 : decode cX10_countWins 117 = .ok (.if_icmp .ge 7, 3) := by decide +kernel
theorem dX10_countWins_120 : decode cX10_countWins 120 = .ok (.iconst 0, 1) := by decide +kernel
theorem dX10_countWins_121 : decode cX10_countWins 121 = .ok (.goto 15, 3) := by decide +kernel
theorem dX10_countWins_124 : decode cX10_countWins 124 = .ok (.iload 5, 2) := by decide +kernel
theorem dX10_countWins_126 : decode cX10_countWins 126 = .ok (.iload 6, 2) := by decide +kernel
theorem dX10_countWins_128 : decode cX10_countWins 128 = .ok (.if_icmp .le 7, 3) := by decide +kernel
theorem dX10_countWins_131 : decode cX10_countWins 131 = .ok (.iconst 1, 1) := by decide +kernel
theorem dX10_countWins_132 : decode cX10_countWins 132 = .ok (.goto 4, 3) := by decide +kernel
theorem dX10_countWins_135 : decode cX10_countWins 135 = .ok (.iconst 2, 1) := by decide +kernel
theorem dX10_countWins_136 : decode cX10_countWins 136 = .ok (.istore 7, 2) := by decide +kernel
theorem dX10_countWins_138 : decode cX10_countWins 138 = .ok (.aload_n 0, 1) := by decide +kernel
theorem dX10_countWins_139 : decode cX10_countWins 139 = .ok (.getfield 78, 3) := by decide +kernel
theorem dX10_countWins_142 : decode cX10_countWins 142 = .ok (.iload 7, 2) := by decide +kernel
theorem dX10_countWins_144 : decode cX10_countWins 144 = .ok (.dup2, 1) := by decide +kernel
theorem dX10_countWins_145 : decode cX10_countWins 145 = .ok (.iaload, 1) := by decide +kernel
theorem dX10_countWins_146 : decode cX10_countWins 146 = .ok (.iconst 1, 1) := by decide +kernel
theorem dX10_countWins_147 : decode cX10_countWins 147 = .ok (.iadd, 1) := by decide +kernel
theorem dX10_countWins_148 : decode cX10_countWins 148 = .ok (.iastore, 1) := by decide +kernel
theorem dX10_countWins_149 : decode cX10_countWins 149 = .ok (.iinc 3 1, 3) := by decide +kernel
theorem dX10_countWins_152 : decode cX10_countWins 152 = .ok (.goto (-129), 3) := by decide +kernel
theorem dX10_countWins_155 : decode cX10_countWins 155 = .ok (.return_, 1) := by decide +kernel
theorem dX10_better_0 : decode cX10_better 0 = .ok (.iload_n 1, 1) := by decide +kernel
theorem dX10_better_1 : decode cX10_better 1 = .ok (.invokestatic 114, 3) := by decide +kernel
theorem dX10_better_4 : decode cX10_better 4 = .ok (.ifCond .eq 10, 3) := by decide +kernel
theorem dX10_better_7 : decode cX10_better 7 = .ok (.iload_n 2, 1) := by decide +kernel
theorem dX10_better_8 : decode cX10_better 8 = .ok (.invokestatic 114, 3) := by decide +kernel
theorem dX10_better_11 : decode cX10_better 11 = .ok (.ifCond .ne 5, 3) := by decide +kernel
theorem dX10_better_14 : decode cX10_better 14 = .ok (.iconst (-1), 1) := by decide +kernel
theorem dX10_better_15 : decode cX10_better 15 = .ok (.ireturn, 1) := by decide +kernel
theorem dX10_better_16 : decode cX10_better 16 = .ok (.iload_n 3, 1) := by decide +kernel
theorem dX10_better_17 : decode cX10_better 17 = .ok (.ifCond .lt 8, 3) := by decide +kernel
theorem dX10_better_20 : decode cX10_better 20 = .ok (.iload_n 3, 1) := by decide +kernel
theorem dX10_better_21 : decode cX10_better 21 = .ok (.iconst 3, 1) := by decide +kernel
theorem dX10_better_22 : decode cX10_better 22 = .ok (.if_icmp .le 6, 3) := by decide +kernel
theorem dX10_better_25 : decode cX10_better 25 = .ok (.bipush (-2), 2) := by decide +kernel
theorem dX10_better_27 : decode cX10_better 27 = .ok (.ireturn, 1) := by decide +kernel
theorem dX10_better_28 : decode cX10_better 28 = .ok (.aload_n 0, 1) := by decide +kernel
theorem dX10_better_29 : decode cX10_better 29 = .ok (.iload_n 1, 1) := by decide +kernel
theorem dX10_better_30 : decode cX10_better 30 = .ok (.iload_n 2, 1) := by decide +kernel
theorem dX10_better_31 : decode cX10_better 31 = .ok (.invokevirtual 314, 3) := by decide +kernel
theorem dX10_better_34 : decode cX10_better 34 = .ok (.iload_n 3, 1) := by decide +kernel
theorem dX10_better_35 : decode cX10_better 35 = .ok (.ifCond .ne 24, 3) := by decide +kernel
theorem dX10_better_38 : decode cX10_better 38 = .ok (.aload_n 0, 1) := by decide +kernel
theorem dX10_better_39 : decode cX10_better 39 = .ok (.getfield 78, 3) := by decide +kernel
theorem dX10_better_42 : decode cX10_better 42 = .ok (.iconst 0, 1) := by decide +kernel
theorem dX10_better_43 : decode cX10_better 43 = .ok (.iaload, 1) := by decide +kernel
theorem dX10_better_44 : decode cX10_better 44 = .ok (.aload_n 0, 1) := by decide +kernel
theorem dX10_better_45 : decode cX10_better 45 = .ok (.getfield 78, 3) := by decide +kernel
theorem dX10_better_48 : decode cX10_better 48 = .ok (.iconst 1, 1) := by decide +kernel
theorem dX10_better_49 : decode cX10_better 49 = .ok (.iaload, 1) := by decide +kernel
theorem dX10_better_50 : decode cX10_better 50 = .ok (.iadd, 1) := by decide +kernel
theorem dX10_better_51 : decode cX10_better 51 = .ok (.aload_n 0, 1) := by decide +kernel
theorem dX10_better_52 : decode cX10_better 52 = .ok (.getfield 78, 3) := by decide +kernel
theorem dX10_better_55 : decode cX10_better 55 = .ok (.iconst 2, 1) := by decide +kernel
theorem dX10_better_56 : decode cX10_better 56 = .ok (.iaload, 1) := by decide +kernel
theorem dX10_better_57 : decode cX10_better 57 = .ok (.iadd, 1) := by decide +kernel
theorem dX10_better_58 : decode cX10_better 58 = .ok (.ireturn, 1) := by decide +kernel
theorem dX10_better_59 : decode cX10_better 59 = .ok (.aload_n 0, 1) := by decide +kernel
theorem dX10_better_60 : decode cX10_better 60 = .ok (.getfield 78, 3) := by decide +kernel
theorem dX10_better_63 : decode cX10_better 63 = .ok (.iload_n 3, 1) := by decide +kernel
theorem dX10_better_64 : decode cX10_better 64 = .ok (.iconst 1, 1) := by decide +kernel
theorem dX10_better_65 : decode cX10_better 65 = .ok (.isub, 1) := by decide +kernel
theorem dX10_better_66 : decode cX10_better 66 = .ok (.iaload, 1) := by decide +kernel
theorem dX10_better_67 : decode cX10_better 67 = .ok (.ireturn, 1) := by decide +kernel
theorem dX10_waysWithAtLeast_0 : decode cX10_waysWithAtLeast 0 = .ok (.lconst 1, 1) := by decide +kernel
theorem dX10_waysWithAtLeast_1 : decode cX10_waysWithAtLeast 1 = .ok (.lstore_n 2, 1) := by decide +kernel
theorem dX10_waysWithAtLeast_2 : decode cX10_waysWithAtLeast 2 = .ok (.lconst 0, 1) := by decide +kernel
theorem dX10_waysWithAtLeast_3 : decode cX10_waysWithAtLeast 3 = .ok (.lstore 4, 2) := by decide +kernel
theorem dX10_waysWithAtLeast_5 : decode cX10_waysWithAtLeast 5 = .ok (.iload_n 1, 1) := by decide +kernel
theorem dX10_waysWithAtLeast_6 : decode cX10_waysWithAtLeast 6 = .ok (.istore 6, 2) := by decide +kernel
theorem dX10_waysWithAtLeast_8 : decode cX10_waysWithAtLeast 8 = .ok (.iload 6, 2) := by decide +kernel
theorem dX10_waysWithAtLeast_10 : decode cX10_waysWithAtLeast 10 = .ok (.iload_n 0, 1) := by decide +kernel
theorem dX10_waysWithAtLeast_11 : decode cX10_waysWithAtLeast 11 = .ok (.if_icmp .lt 34, 3) := by decide +kernel
theorem dX10_waysWithAtLeast_14 : decode cX10_waysWithAtLeast 14 = .ok (.iload 6, 2) := by decide +kernel
theorem dX10_waysWithAtLeast_16 : decode cX10_waysWithAtLeast 16 = .ok (.ifCond .lt 29, 3) := by decide +kernel
theorem dX10_waysWithAtLeast_19 : decode cX10_waysWithAtLeast 19 = .ok (.lload 4, 2) := by decide +kernel
theorem dX10_waysWithAtLeast_21 : decode cX10_waysWithAtLeast 21 = .ok (.lload_n 2, 1) := by decide +kernel
theorem dX10_waysWithAtLeast_22 : decode cX10_waysWithAtLeast 22 = .ok (.ladd, 1) := by decide +kernel
theorem dX10_waysWithAtLeast_23 : decode cX10_waysWithAtLeast 23 = .ok (.lstore 4, 2) := by decide +kernel
theorem dX10_waysWithAtLeast_25 : decode cX10_waysWithAtLeast 25 = .ok (.lload_n 2, 1) := by decide +kernel
theorem dX10_waysWithAtLeast_26 : decode cX10_waysWithAtLeast 26 = .ok (.iload 6, 2) := by decide +kernel
theorem dX10_waysWithAtLeast_28 : decode cX10_waysWithAtLeast 28 = .ok (.i2l, 1) := by decide +kernel
theorem dX10_waysWithAtLeast_29 : decode cX10_waysWithAtLeast 29 = .ok (.lmul, 1) := by decide +kernel
theorem dX10_waysWithAtLeast_30 : decode cX10_waysWithAtLeast 30 = .ok (.iload_n 1, 1) := by decide +kernel
theorem dX10_waysWithAtLeast_31 : decode cX10_waysWithAtLeast 31 = .ok (.iload 6, 2) := by decide +kernel
theorem dX10_waysWithAtLeast_33 : decode cX10_waysWithAtLeast 33 = .ok (.isub, 1) := by decide +kernel
theorem dX10_waysWithAtLeast_34 : decode cX10_waysWithAtLeast 34 = .ok (.iconst 1, 1) := by decide +kernel
theorem dX10_waysWithAtLeast_35 : decode cX10_waysWithAtLeast 35 = .ok (.iadd, 1) := by decide +kernel
theorem dX10_waysWithAtLeast_36 : decode cX10_waysWithAtLeast 36 = .ok (.i2l, 1) := by decide +kernel
theorem dX10_waysWithAtLeast_37 : decode cX10_waysWithAtLeast 37 = .ok (.ldiv, 1) := by decide +kernel
theorem dX10_waysWithAtLeast_38 : decode cX10_waysWithAtLeast 38 = .ok (.lstore_n 2, 1) := by decide +kernel
theorem dX10_waysWithAtLeast_39 : decode cX10_waysWithAtLeast 39 = .ok (.iinc 6 (-1), 3) := by decide +kernel
theorem dX10_waysWithAtLeast_42 : decode cX10_waysWithAtLeast 42 = .ok (.goto (-34), 3) := by decide +kernel
theorem dX10_waysWithAtLeast_45 : decode cX10_waysWithAtLeast 45 = .ok (.lload 4, 2) := by decide +kernel
theorem dX10_waysWithAtLeast_47 : decode cX10_waysWithAtLeast 47 = .ok (.lreturn, 1) := by decide +kernel
theorem dX10_luck_0 : decode cX10_luck 0 = .ok (.iload_n 1, 1) := by decide +kernel
theorem dX10_luck_1 : decode cX10_luck 1 = .ok (.invokestatic 114, 3) := by decide +kernel
theorem dX10_luck_4 : decode cX10_luck 4 = .ok (.ifCond .eq 17, 3) := by decide +kernel
theorem dX10_luck_7 : decode cX10_luck 7 = .ok (.iload_n 2, 1) := by decide +kernel
theorem dX10_luck_8 : decode cX10_luck 8 = .ok (.invokestatic 114, 3) := by decide +kernel
theorem dX10_luck_11 : decode cX10_luck 11 = .ok (.ifCond .eq 10, 3) := by decide +kernel
theorem dX10_luck_14 : decode cX10_luck 14 = .ok (.iload_n 3, 1) := by decide +kernel
theorem dX10_luck_15 : decode cX10_luck 15 = .ok (.invokestatic 214, 3) := by decide +kernel
theorem dX10_luck_18 : decode cX10_luck 18 = .ok (.ifCond .ne 7, 3) := by decide +kernel
theorem dX10_luck_21 : decode cX10_luck 21 = .ok (.ldc2_w 220, 3) := by decide +kernel
theorem dX10_luck_24 : decode cX10_luck 24 = .ok (.lreturn, 1) := by decide +kernel
theorem dX10_luck_25 : decode cX10_luck 25 = .ok (.aload_n 0, 1) := by decide +kernel
theorem dX10_luck_26 : decode cX10_luck 26 = .ok (.iload_n 1, 1) := by decide +kernel
theorem dX10_luck_27 : decode cX10_luck 27 = .ok (.iload_n 2, 1) := by decide +kernel
theorem dX10_luck_28 : decode cX10_luck 28 = .ok (.invokevirtual 314, 3) := by decide +kernel
theorem dX10_luck_31 : decode cX10_luck 31 = .ok (.aload_n 0, 1) := by decide +kernel
theorem dX10_luck_32 : decode cX10_luck 32 = .ok (.getfield 78, 3) := by decide +kernel
theorem dX10_luck_35 : decode cX10_luck 35 = .ok (.iconst 0, 1) := by decide +kernel
theorem dX10_luck_36 : decode cX10_luck 36 = .ok (.iaload, 1) := by decide +kernel
theorem dX10_luck_37 : decode cX10_luck 37 = .ok (.aload_n 0, 1) := by decide +kernel
theorem dX10_luck_38 : decode cX10_luck 38 = .ok (.getfield 78, 3) := by decide +kernel
theorem dX10_luck_41 : decode cX10_luck 41 = .ok (.iconst 1, 1) := by decide +kernel
theorem dX10_luck_42 : decode cX10_luck 42 = .ok (.iaload, 1) := by decide +kernel
theorem dX10_luck_43 : decode cX10_luck 43 = .ok (.iadd, 1) := by decide +kernel
theorem dX10_luck_44 : decode cX10_luck 44 = .ok (.istore 4, 2) := by decide +kernel
theorem dX10_luck_46 : decode cX10_luck 46 = .ok (.aload_n 0, 1) := by decide +kernel
theorem dX10_luck_47 : decode cX10_luck 47 = .ok (.getfield 78, 3) := by decide +kernel
theorem dX10_luck_50 : decode cX10_luck 50 = .ok (.iconst 0, 1) := by decide +kernel
theorem dX10_luck_51 : decode cX10_luck 51 = .ok (.iaload, 1) := by decide +kernel
theorem dX10_luck_52 : decode cX10_luck 52 = .ok (.aload_n 0, 1) := by decide +kernel
theorem dX10_luck_53 : decode cX10_luck 53 = .ok (.getfield 78, 3) := by decide +kernel
theorem dX10_luck_56 : decode cX10_luck 56 = .ok (.iconst 1, 1) := by decide +kernel
theorem dX10_luck_57 : decode cX10_luck 57 = .ok (.iaload, 1) := by decide +kernel
theorem dX10_luck_58 : decode cX10_luck 58 = .ok (.invokestatic 150, 3) := by decide +kernel
theorem dX10_luck_61 : decode cX10_luck 61 = .ok (.istore 5, 2) := by decide +kernel
theorem dX10_luck_63 : decode cX10_luck 63 = .ok (.aload_n 0, 1) := by decide +kernel
theorem dX10_luck_64 : decode cX10_luck 64 = .ok (.getfield 56, 3) := by decide +kernel
theorem dX10_luck_67 : decode cX10_luck 67 = .ok (.iload 5, 2) := by decide +kernel
theorem dX10_luck_69 : decode cX10_luck 69 = .ok (.iload 4, 2) := by decide +kernel
theorem dX10_luck_71 : decode cX10_luck 71 = .ok (.invokestatic 318, 3) := by decide +kernel
theorem dX10_luck_74 : decode cX10_luck 74 = .ok (.lconst 1, 1) := by decide +kernel
theorem dX10_luck_75 : decode cX10_luck 75 = .ok (.iload 4, 2) := by decide +kernel
theorem dX10_luck_77 : decode cX10_luck 77 = .ok (.lshl, 1) := by decide +kernel
theorem dX10_luck_78 : decode cX10_luck 78 = .ok (.invokevirtual 246, 3) := by decide +kernel
theorem dX10_luck_81 : decode cX10_luck 81 = .ok (.aload_n 0, 1) := by decide +kernel
theorem dX10_luck_82 : decode cX10_luck 82 = .ok (.getfield 56, 3) := by decide +kernel
theorem dX10_luck_85 : decode cX10_luck 85 = .ok (.iload_n 3, 1) := by decide +kernel
theorem dX10_luck_86 : decode cX10_luck 86 = .ok (.invokevirtual 222, 3) := by decide +kernel
theorem dX10_luck_89 : decode cX10_luck 89 = .ok (.lreturn, 1) := by decide +kernel
theorem dX10_signOf_0 : decode cX10_signOf 0 = .ok (.iload_n 0, 1) := by decide +kernel
theorem dX10_signOf_1 : decode cX10_signOf 1 = .ok (.bipush 50, 2) := by decide +kernel
theorem dX10_signOf_3 : decode cX10_signOf 3 = .ok (.if_icmp .ne 6, 3) := by decide +kernel
theorem dX10_signOf_6 : decode cX10_signOf 6 = .ok (.bipush 61, 2) := by decide +kernel
theorem dX10_signOf_8 : decode cX10_signOf 8 = .ok (.ireturn, 1) := by decide +kernel
theorem dX10_signOf_9 : decode cX10_signOf 9 = .ok (.iload_n 0, 1) := by decide +kernel
theorem dX10_signOf_10 : decode cX10_signOf 10 = .ok (.bipush 50, 2) := by decide +kernel
theorem dX10_signOf_12 : decode cX10_signOf 12 = .ok (.if_icmp .le 7, 3) := by decide +kernel
theorem dX10_signOf_15 : decode cX10_signOf 15 = .ok (.iconst 1, 1) := by decide +kernel
theorem dX10_signOf_16 : decode cX10_signOf 16 = .ok (.goto 4, 3) := by decide +kernel
theorem dX10_signOf_19 : decode cX10_signOf 19 = .ok (.iconst 0, 1) := by decide +kernel
theorem dX10_signOf_20 : decode cX10_signOf 20 = .ok (.iload_n 1, 1) := by decide +kernel
theorem dX10_signOf_21 : decode cX10_signOf 21 = .ok (.if_icmp .ne 8, 3) := by decide +kernel
theorem dX10_signOf_24 : decode cX10_signOf 24 = .ok (.bipush 43, 2) := by decide +kernel
theorem dX10_signOf_26 : decode cX10_signOf 26 = .ok (.goto 5, 3) := by decide +kernel
theorem dX10_signOf_29 : decode cX10_signOf 29 = .ok (.bipush 45, 2) := by decide +kernel
theorem dX10_signOf_31 : decode cX10_signOf 31 = .ok (.ireturn, 1) := by decide +kernel
theorem dX10_writeReport_0 : decode cX10_writeReport 0 = .ok (.aload_n 0, 1) := by decide +kernel
theorem dX10_writeReport_1 : decode cX10_writeReport 1 = .ok (.getfield 66, 3) := by decide +kernel
theorem dX10_writeReport_4 : decode cX10_writeReport 4 = .ok (.invokevirtual 353, 3) := by decide +kernel
theorem dX10_writeReport_7 : decode cX10_writeReport 7 = .ok (.aload_n 0, 1) := by decide +kernel
theorem dX10_writeReport_8 : decode cX10_writeReport 8 = .ok (.getfield 66, 3) := by decide +kernel
theorem dX10_writeReport_11 : decode cX10_writeReport 11 = .ok (.bipush 84, 2) := by decide +kernel
theorem dX10_writeReport_13 : decode cX10_writeReport 13 = .ok (.invokevirtual 355, 3) := by decide +kernel
theorem dX10_writeReport_16 : decode cX10_writeReport 16 = .ok (.aload_n 0, 1) := by decide +kernel
theorem dX10_writeReport_17 : decode cX10_writeReport 17 = .ok (.getfield 66, 3) := by decide +kernel
theorem dX10_writeReport_20 : decode cX10_writeReport 20 = .ok (.bipush 48, 2) := by decide +kernel
theorem dX10_writeReport_22 : decode cX10_writeReport 22 = .ok (.iload_n 1, 1) := by decide +kernel
theorem dX10_writeReport_23 : decode cX10_writeReport 23 = .ok (.iadd, 1) := by decide +kernel
theorem dX10_writeReport_24 : decode cX10_writeReport 24 = .ok (.invokevirtual 355, 3) := by decide +kernel
theorem dX10_writeReport_27 : decode cX10_writeReport 27 = .ok (.aload_n 0, 1) := by decide +kernel
theorem dX10_writeReport_28 : decode cX10_writeReport 28 = .ok (.getfield 66, 3) := by decide +kernel
theorem dX10_writeReport_31 : decode cX10_writeReport 31 = .ok (.bipush 32, 2) := by decide +kernel
theorem dX10_writeReport_33 : decode cX10_writeReport 33 = .ok (.invokevirtual 355, 3) := by decide +kernel
theorem dX10_writeReport_36 : decode cX10_writeReport 36 = .ok (.aload_n 0, 1) := by decide +kernel
theorem dX10_writeReport_37 : decode cX10_writeReport 37 = .ok (.getfield 66, 3) := by decide +kernel
theorem dX10_writeReport_40 : decode cX10_writeReport 40 = .ok (.aload_n 0, 1) := by decide +kernel
theorem dX10_writeReport_41 : decode cX10_writeReport 41 = .ok (.getfield 90, 3) := by decide +kernel
theorem dX10_writeReport_44 : decode cX10_writeReport 44 = .ok (.getfield 199, 3) := by decide +kernel
theorem dX10_writeReport_47 : decode cX10_writeReport 47 = .ok (.invokevirtual 357, 3) := by decide +kernel
theorem dX10_writeReport_50 : decode cX10_writeReport 50 = .ok (.aload_n 0, 1) := by decide +kernel
theorem dX10_writeReport_51 : decode cX10_writeReport 51 = .ok (.getfield 66, 3) := by decide +kernel
theorem dX10_writeReport_54 : decode cX10_writeReport 54 = .ok (.bipush 32, 2) := by decide +kernel
theorem dX10_writeReport_56 : decode cX10_writeReport 56 = .ok (.invokevirtual 355, 3) := by decide +kernel
theorem dX10_writeReport_59 : decode cX10_writeReport 59 = .ok (.aload_n 0, 1) := by decide +kernel
theorem dX10_writeReport_60 : decode cX10_writeReport 60 = .ok (.iload_n 1, 1) := by decide +kernel
theorem dX10_writeReport_61 : decode cX10_writeReport 61 = .ok (.invokevirtual 217, 3) := by decide +kernel
theorem dX10_writeReport_64 : decode cX10_writeReport 64 = .ok (.ifCond .eq 43, 3) := by decide +kernel
theorem dX10_writeReport_67 : decode cX10_writeReport 67 = .ok (.aload_n 0, 1) := by decide +kernel
theorem dX10_writeReport_68 : decode cX10_writeReport 68 = .ok (.getfield 66, 3) := by decide +kernel
theorem dX10_writeReport_71 : decode cX10_writeReport 71 = .ok (.aload_n 0, 1) := by decide +kernel
theorem dX10_writeReport_72 : decode cX10_writeReport 72 = .ok (.getfield 56, 3) := by decide +kernel
theorem dX10_writeReport_75 : decode cX10_writeReport 75 = .ok (.getfield 322, 3) := by decide +kernel
theorem dX10_writeReport_78 : decode cX10_writeReport 78 = .ok (.invokevirtual 361, 3) := by decide +kernel
theorem dX10_writeReport_81 : decode cX10_writeReport 81 = .ok (.aload_n 0, 1) := by decide +kernel
theorem dX10_writeReport_82 : decode cX10_writeReport 82 = .ok (.getfield 66, 3) := by decide +kernel
theorem dX10_writeReport_85 : decode cX10_writeReport 85 = .ok (.bipush 47, 2) := by decide +kernel
theorem dX10_writeReport_87 : decode cX10_writeReport 87 = .ok (.invokevirtual 355, 3) := by decide +kernel
theorem dX10_writeReport_90 : decode cX10_writeReport 90 = .ok (.aload_n 0, 1) := by decide +kernel
theorem dX10_writeReport_91 : decode cX10_writeReport 91 = .ok (.getfield 66, 3) := by decide +kernel
theorem dX10_writeReport_94 : decode cX10_writeReport 94 = .ok (.aload_n 0, 1) := by decide +kernel
theorem dX10_writeReport_95 : decode cX10_writeReport 95 = .ok (.getfield 56, 3) := by decide +kernel
theorem dX10_writeReport_98 : decode cX10_writeReport 98 = .ok (.getfield 326, 3) := by decide +kernel
theorem dX10_writeReport_101 : decode cX10_writeReport 101 = .ok (.invokevirtual 361, 3) := by decide +kernel
theorem dX10_writeReport_104 : decode cX10_writeReport 104 = .ok (.goto 12, 3) := by decide +kernel
theorem dX10_writeReport_107 : decode cX10_writeReport 107 = .ok (.aload_n 0, 1) := by decide +kernel
theorem dX10_writeReport_108 : decode cX10_writeReport 108 = .ok (.getfield 66, 3) := by decide +kernel
theorem dX10_writeReport_111 : decode cX10_writeReport 111 = .ok (.bipush 45, 2) := by decide +kernel
theorem dX10_writeReport_113 : decode cX10_writeReport 113 = .ok (.invokevirtual 355, 3) := by decide +kernel
theorem dX10_writeReport_116 : decode cX10_writeReport 116 = .ok (.aload_n 0, 1) := by decide +kernel
theorem dX10_writeReport_117 : decode cX10_writeReport 117 = .ok (.getfield 66, 3) := by decide +kernel
theorem dX10_writeReport_120 : decode cX10_writeReport 120 = .ok (.bipush 32, 2) := by decide +kernel
theorem dX10_writeReport_122 : decode cX10_writeReport 122 = .ok (.invokevirtual 355, 3) := by decide +kernel
theorem dX10_writeReport_125 : decode cX10_writeReport 125 = .ok (.iconst 0, 1) := by decide +kernel
theorem dX10_writeReport_126 : decode cX10_writeReport 126 = .ok (.istore_n 2, 1) := by decide +kernel
theorem dX10_writeReport_127 : decode cX10_writeReport 127 = .ok (.iload_n 2, 1) := by decide +kernel
theorem dX10_writeReport_128 : decode cX10_writeReport 128 = .ok (.aload_n 0, 1) := by decide +kernel
theorem dX10_writeReport_129 : decode cX10_writeReport 129 = .ok (.getfield 35, 3) := by decide +kernel
theorem dX10_writeReport_132 : decode cX10_writeReport 132 = .ok (.getfield 230, 3) := by decide +kernel
theorem dX10_writeReport_135 : decode cX10_writeReport 135 = .ok (.if_icmp .ge 37, 3) := by decide +kernel
theorem dX10_writeReport_138 : decode cX10_writeReport 138 = .ok (.aload_n 0, 1) := by decide +kernel
theorem dX10_writeReport_139 : decode cX10_writeReport 139 = .ok (.getfield 66, 3) := by decide +kernel
theorem dX10_writeReport_142 : decode cX10_writeReport 142 = .ok (.aload_n 0, 1) := by decide +kernel
theorem dX10_writeReport_143 : decode cX10_writeReport 143 = .ok (.getfield 35, 3) := by decide +kernel
theorem dX10_writeReport_146 : decode cX10_writeReport 146 = .ok (.getfield 365, 3) := by decide +kernel
theorem dX10_writeReport_149 : decode cX10_writeReport 149 = .ok (.iload_n 2, 1) := by decide +kernel
theorem dX10_writeReport_150 : decode cX10_writeReport 150 = .ok (.iaload, 1) := by decide +kernel
theorem dX10_writeReport_151 : decode cX10_writeReport 151 = .ok (.aload_n 0, 1) := by decide +kernel
theorem dX10_writeReport_152 : decode cX10_writeReport 152 = .ok (.getfield 35, 3) := by decide +kernel
theorem dX10_writeReport_155 : decode cX10_writeReport 155 = .ok (.getfield 368, 3) := by decide +kernel
theorem dX10_writeReport_158 : decode cX10_writeReport 158 = .ok (.iload_n 2, 1) := by decide +kernel
theorem dX10_writeReport_159 : decode cX10_writeReport 159 = .ok (.baload, 1) := by decide +kernel
theorem dX10_writeReport_160 : decode cX10_writeReport 160 = .ok (.invokestatic 372, 3) := by decide +kernel
theorem dX10_writeReport_163 : decode cX10_writeReport 163 = .ok (.invokevirtual 355, 3) := by decide +kernel
theorem dX10_writeReport_166 : decode cX10_writeReport 166 = .ok (.iinc 2 1, 3) := by decide +kernel
theorem dX10_writeReport_169 : decode cX10_writeReport 169 = .ok (.goto (-42), 3) := by decide +kernel
theorem dX10_writeReport_172 : decode cX10_writeReport 172 = .ok (.return_, 1) := by decide +kernel
theorem dX10_report_0 : decode cX10_report 0 = .ok (.iload_n 1, 1) := by decide +kernel
theorem dX10_report_1 : decode cX10_report 1 = .ok (.invokestatic 114, 3) := by decide +kernel
theorem dX10_report_4 : decode cX10_report 4 = .ok (.ifCond .ne 5, 3) := by decide +kernel
theorem dX10_report_7 : decode cX10_report 7 = .ok (.iconst (-1), 1) := by decide +kernel
theorem dX10_report_8 : decode cX10_report 8 = .ok (.ireturn, 1) := by decide +kernel
theorem dX10_report_9 : decode cX10_report 9 = .ok (.iload_n 2, 1) := by decide +kernel
theorem dX10_report_10 : decode cX10_report 10 = .ok (.iconst (-1), 1) := by decide +kernel
theorem dX10_report_11 : decode cX10_report 11 = .ok (.if_icmp .lt 9, 3) := by decide +kernel
theorem dX10_report_14 : decode cX10_report 14 = .ok (.iload_n 2, 1) := by decide +kernel
theorem dX10_report_15 : decode cX10_report 15 = .ok (.bipush 100, 2) := by decide +kernel
theorem dX10_report_17 : decode cX10_report 17 = .ok (.if_icmp .lt 6, 3) := by decide +kernel
theorem dX10_report_20 : decode cX10_report 20 = .ok (.bipush (-2), 2) := by decide +kernel
theorem dX10_report_22 : decode cX10_report 22 = .ok (.ireturn, 1) := by decide +kernel
theorem dX10_report_23 : decode cX10_report 23 = .ok (.aload_n 0, 1) := by decide +kernel
theorem dX10_report_24 : decode cX10_report 24 = .ok (.iload_n 1, 1) := by decide +kernel
theorem dX10_report_25 : decode cX10_report 25 = .ok (.invokevirtual 336, 3) := by decide +kernel
theorem dX10_report_28 : decode cX10_report 28 = .ok (.iload_n 2, 1) := by decide +kernel
theorem dX10_report_29 : decode cX10_report 29 = .ok (.iconst (-1), 1) := by decide +kernel
theorem dX10_report_30 : decode cX10_report 30 = .ok (.if_icmp .ne 11, 3) := by decide +kernel
theorem dX10_report_33 : decode cX10_report 33 = .ok (.aload_n 0, 1) := by decide +kernel
theorem dX10_report_34 : decode cX10_report 34 = .ok (.getfield 66, 3) := by decide +kernel
theorem dX10_report_37 : decode cX10_report 37 = .ok (.getfield 340, 3) := by decide +kernel
theorem dX10_report_40 : decode cX10_report 40 = .ok (.ireturn, 1) := by decide +kernel
theorem dX10_report_41 : decode cX10_report 41 = .ok (.iload_n 2, 1) := by decide +kernel
theorem dX10_report_42 : decode cX10_report 42 = .ok (.aload_n 0, 1) := by decide +kernel
theorem dX10_report_43 : decode cX10_report 43 = .ok (.getfield 66, 3) := by decide +kernel
theorem dX10_report_46 : decode cX10_report 46 = .ok (.getfield 340, 3) := by decide +kernel
theorem dX10_report_49 : decode cX10_report 49 = .ok (.if_icmp .ge 15, 3) := by decide +kernel
theorem dX10_report_52 : decode cX10_report 52 = .ok (.aload_n 0, 1) := by decide +kernel
theorem dX10_report_53 : decode cX10_report 53 = .ok (.getfield 66, 3) := by decide +kernel
theorem dX10_report_56 : decode cX10_report 56 = .ok (.getfield 341, 3) := by decide +kernel
theorem dX10_report_59 : decode cX10_report 59 = .ok (.iload_n 2, 1) := by decide +kernel
theorem dX10_report_60 : decode cX10_report 60 = .ok (.iaload, 1) := by decide +kernel
theorem dX10_report_61 : decode cX10_report 61 = .ok (.goto 5, 3) := by decide +kernel
theorem dX10_report_64 : decode cX10_report 64 = .ok (.bipush (-9), 2) := by decide +kernel
theorem dX10_report_66 : decode cX10_report 66 = .ok (.ireturn, 1) := by decide +kernel
theorem dX10_many_0 : decode cX10_many 0 = .ok (.iload_n 1, 1) := by decide +kernel
theorem dX10_many_1 : decode cX10_many 1 = .ok (.tableswitch 89 0 5 #[39, 48, 57, 65, 73, 81], 39) := by decide +kernel
theorem dX10_many_40 : decode cX10_many 40 = .ok (.aload_n 0, 1) := by decide +kernel
theorem dX10_many_41 : decode cX10_many 41 = .ok (.getfield 12, 3) := by decide +kernel
theorem dX10_many_44 : decode cX10_many 44 = .ok (.iconst 1, 1) := by decide +kernel
theorem dX10_many_45 : decode cX10_many 45 = .ok (.invokevirtual 344, 3) := by decide +kernel
theorem dX10_many_48 : decode cX10_many 48 = .ok (.ireturn, 1) := by decide +kernel
theorem dX10_many_49 : decode cX10_many 49 = .ok (.aload_n 0, 1) := by decide +kernel
theorem dX10_many_50 : decode cX10_many 50 = .ok (.getfield 12, 3) := by decide +kernel
theorem dX10_many_53 : decode cX10_many 53 = .ok (.iconst 2, 1) := by decide +kernel
theorem dX10_many_54 : decode cX10_many 54 = .ok (.invokevirtual 344, 3) := by decide +kernel
theorem dX10_many_57 : decode cX10_many 57 = .ok (.ireturn, 1) := by decide +kernel
theorem dX10_many_58 : decode cX10_many 58 = .ok (.aload_n 0, 1) := by decide +kernel
theorem dX10_many_59 : decode cX10_many 59 = .ok (.getfield 12, 3) := by decide +kernel
theorem dX10_many_62 : decode cX10_many 62 = .ok (.invokevirtual 347, 3) := by decide +kernel
theorem dX10_many_65 : decode cX10_many 65 = .ok (.ireturn, 1) := by decide +kernel
theorem dX10_many_66 : decode cX10_many 66 = .ok (.aload_n 0, 1) := by decide +kernel
theorem dX10_many_67 : decode cX10_many 67 = .ok (.getfield 21, 3) := by decide +kernel
theorem dX10_many_70 : decode cX10_many 70 = .ok (.getfield 126, 3) := by decide +kernel
theorem dX10_many_73 : decode cX10_many 73 = .ok (.ireturn, 1) := by decide +kernel
theorem dX10_many_74 : decode cX10_many 74 = .ok (.aload_n 0, 1) := by decide +kernel
theorem dX10_many_75 : decode cX10_many 75 = .ok (.getfield 42, 3) := by decide +kernel
theorem dX10_many_78 : decode cX10_many 78 = .ok (.getfield 256, 3) := by decide +kernel
theorem dX10_many_81 : decode cX10_many 81 = .ok (.ireturn, 1) := by decide +kernel
theorem dX10_many_82 : decode cX10_many 82 = .ok (.aload_n 0, 1) := by decide +kernel
theorem dX10_many_83 : decode cX10_many 83 = .ok (.getfield 12, 3) := by decide +kernel
theorem dX10_many_86 : decode cX10_many 86 = .ok (.invokevirtual 350, 3) := by decide +kernel
theorem dX10_many_89 : decode cX10_many 89 = .ok (.ireturn, 1) := by decide +kernel
theorem dX10_many_90 : decode cX10_many 90 = .ok (.bipush (-2), 2) := by decide +kernel
theorem dX10_many_92 : decode cX10_many 92 = .ok (.ireturn, 1) := by decide +kernel
