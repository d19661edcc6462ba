theorem dX11_within_0 : decode cX11_within 0 = .ok (.iload_n 0, 1) := by decide +kernel
theorem dX11_within_1 : decode cX11_within 1 = .ok (.iload_n 1, 1) := by decide +kernel
theorem dX11_within_2 : decode cX11_within 2 = .ok (.if_icmp .lt 12, 3) := by decide +kernel
theorem dX11_within_5 : decode cX11_within 5 = .ok (.iload_n 0, 1) := by decide +kernel
theorem dX11_within_6 : decode cX11_within 6 = .ok (.iload_n 2, 1) := by decide +kernel
theorem dX11_within_7 : decode cX11_within 7 = .ok (.if_icmp .gt 7, 3) := by decide +kernel
theorem dX11_within_10 : decode cX11_within 10 = .ok (.iconst 1, 1) := by decide +kernel
theorem dX11_within_11 : decode cX11_within 11 = .ok (.goto 4, 3) := by decide +kernel
theorem dX11_within_14 : decode cX11_within 14 = .ok (.iconst 0, 1) := by decide +kernel
theorem dX11_within_15 : decode cX11_within 15 = .ok (.ireturn, 1) := by decide +kernel
theorem dX11_isOne_0 : decode cX11_isOne 0 = .ok (.iload_n 0, 1) := by decide +kernel
theorem dX11_isOne_1 : decode cX11_isOne 1 = .ok (.iconst 0, 1) := by decide +kernel
theorem dX11_isOne_2 : decode cX11_isOne 2 = .ok (.iconst 3, 1) := by decide +kernel
theorem dX11_isOne_3 : decode cX11_isOne 3 = .ok (.invokestatic 66, 3) := by decide +kernel
theorem dX11_isOne_6 : decode cX11_isOne 6 = .ok (.ireturn, 1) := by decide +kernel
theorem dX11_isAny_0 : decode cX11_isAny 0 = .ok (.iload_n 0, 1) := by decide +kernel
theorem dX11_isAny_1 : decode cX11_isAny 1 = .ok (.iconst 0, 1) := by decide +kernel
theorem dX11_isAny_2 : decode cX11_isAny 2 = .ok (.iconst 4, 1) := by decide +kernel
theorem dX11_isAny_3 : decode cX11_isAny 3 = .ok (.invokestatic 66, 3) := by decide +kernel
theorem dX11_isAny_6 : decode cX11_isAny 6 = .ok (.ireturn, 1) := by decide +kernel
theorem dX11_isEvent_0 : decode cX11_isEvent 0 = .ok (.iload_n 0, 1) := by decide +kernel
theorem dX11_isEvent_1 : decode cX11_isEvent 1 = .ok (.iconst 0, 1) := by decide +kernel
theorem dX11_isEvent_2 : decode cX11_isEvent 2 = .ok (.bipush 39, 2) := by decide +kernel
theorem dX11_isEvent_4 : decode cX11_isEvent 4 = .ok (.invokestatic 66, 3) := by decide +kernel
theorem dX11_isEvent_7 : decode cX11_isEvent 7 = .ok (.ireturn, 1) := by decide +kernel
theorem dX11_tell_0 : decode cX11_tell 0 = .ok (.iload_n 1, 1) := by decide +kernel
theorem dX11_tell_1 : decode cX11_tell 1 = .ok (.invokestatic 70, 3) := by decide +kernel
theorem dX11_tell_4 : decode cX11_tell 4 = .ok (.ifCond .eq 10, 3) := by decide +kernel
theorem dX11_tell_7 : decode cX11_tell 7 = .ok (.iload_n 2, 1) := by decide +kernel
theorem dX11_tell_8 : decode cX11_tell 8 = .ok (.invokestatic 74, 3) := by decide +kernel
theorem dX11_tell_11 : decode cX11_tell 11 = .ok (.ifCond .ne 5, 3) := by decide +kernel
theorem dX11_tell_14 : decode cX11_tell 14 = .ok (.iconst (-1), 1) := by decide +kernel
theorem dX11_tell_15 : decode cX11_tell 15 = .ok (.ireturn, 1) := by decide +kernel
theorem dX11_tell_16 : decode cX11_tell 16 = .ok (.iload_n 3, 1) := by decide +kernel
theorem dX11_tell_17 : decode cX11_tell 17 = .ok (.iconst 0, 1) := by decide +kernel
theorem dX11_tell_18 : decode cX11_tell 18 = .ok (.bipush 100, 2) := by decide +kernel
theorem dX11_tell_20 : decode cX11_tell 20 = .ok (.invokestatic 66, 3) := by decide +kernel
theorem dX11_tell_23 : decode cX11_tell 23 = .ok (.ifCond .ne 6, 3) := by decide +kernel
theorem dX11_tell_26 : decode cX11_tell 26 = .ok (.bipush (-2), 2) := by decide +kernel
theorem dX11_tell_28 : decode cX11_tell 28 = .ok (.ireturn, 1) := by decide +kernel
theorem dX11_tell_29 : decode cX11_tell 29 = .ok (.aload_n 0, 1) := by decide +kernel
theorem dX11_tell_30 : decode cX11_tell 30 = .ok (.getfield 7, 3) := by decide +kernel
theorem dX11_tell_33 : decode cX11_tell 33 = .ok (.bipush 40, 2) := by decide +kernel
theorem dX11_tell_35 : decode cX11_tell 35 = .ok (.iload_n 1, 1) := by decide +kernel
theorem dX11_tell_36 : decode cX11_tell 36 = .ok (.imul, 1) := by decide +kernel
theorem dX11_tell_37 : decode cX11_tell 37 = .ok (.iload_n 2, 1) := by decide +kernel
theorem dX11_tell_38 : decode cX11_tell 38 = .ok (.iadd, 1) := by decide +kernel
theorem dX11_tell_39 : decode cX11_tell 39 = .ok (.iaload, 1) := by decide +kernel
theorem dX11_tell_40 : decode cX11_tell 40 = .ok (.istore 4, 2) := by decide +kernel
theorem dX11_tell_42 : decode cX11_tell 42 = .ok (.aload_n 0, 1) := by decide +kernel
theorem dX11_tell_43 : decode cX11_tell 43 = .ok (.getfield 7, 3) := by decide +kernel
theorem dX11_tell_46 : decode cX11_tell 46 = .ok (.bipush 40, 2) := by decide +kernel
theorem dX11_tell_48 : decode cX11_tell 48 = .ok (.iload_n 1, 1) := by decide +kernel
theorem dX11_tell_49 : decode cX11_tell 49 = .ok (.imul, 1) := by decide +kernel
theorem dX11_tell_50 : decode cX11_tell 50 = .ok (.iload_n 2, 1) := by decide +kernel
theorem dX11_tell_51 : decode cX11_tell 51 = .ok (.iadd, 1) := by decide +kernel
theorem dX11_tell_52 : decode cX11_tell 52 = .ok (.iload_n 3, 1) := by decide +kernel
theorem dX11_tell_53 : decode cX11_tell 53 = .ok (.iastore, 1) := by decide +kernel
theorem dX11_tell_54 : decode cX11_tell 54 = .ok (.iload 4, 2) := by decide +kernel
theorem dX11_tell_56 : decode cX11_tell 56 = .ok (.ireturn, 1) := by decide +kernel
theorem dX11_drop_0 : decode cX11_drop 0 = .ok (.iload_n 1, 1) := by decide +kernel
theorem dX11_drop_1 : decode cX11_drop 1 = .ok (.invokestatic 70, 3) := by decide +kernel
theorem dX11_drop_4 : decode cX11_drop 4 = .ok (.ifCond .eq 10, 3) := by decide +kernel
theorem dX11_drop_7 : decode cX11_drop 7 = .ok (.iload_n 2, 1) := by decide +kernel
theorem dX11_drop_8 : decode cX11_drop 8 = .ok (.invokestatic 74, 3) := by decide +kernel
theorem dX11_drop_11 : decode cX11_drop 11 = .ok (.ifCond .ne 5, 3) := by decide +kernel
theorem dX11_drop_14 : decode cX11_drop 14 = .ok (.iconst (-1), 1) := by decide +kernel
theorem dX11_drop_15 : decode cX11_drop 15 = .ok (.ireturn, 1) := by decide +kernel
theorem dX11_drop_16 : decode cX11_drop 16 = .ok (.aload_n 0, 1) := by decide +kernel
theorem dX11_drop_17 : decode cX11_drop 17 = .ok (.getfield 7, 3) := by decide +kernel
theorem dX11_drop_20 : decode cX11_drop 20 = .ok (.bipush 40, 2) := by decide +kernel
theorem dX11_drop_22 : decode cX11_drop 22 = .ok (.iload_n 1, 1) := by decide +kernel
theorem dX11_drop_23 : decode cX11_drop 23 = .ok (.imul, 1) := by decide +kernel
theorem dX11_drop_24 : decode cX11_drop 24 = .ok (.iload_n 2, 1) := by decide +kernel
theorem dX11_drop_25 : decode cX11_drop 25 = .ok (.iadd, 1) := by decide +kernel
theorem dX11_drop_26 : decode cX11_drop 26 = .ok (.iaload, 1) := by decide +kernel
theorem dX11_drop_27 : decode cX11_drop 27 = .ok (.istore_n 3, 1) := by decide +kernel
theorem dX11_drop_28 : decode cX11_drop 28 = .ok (.aload_n 0, 1) := by decide +kernel
theorem dX11_drop_29 : decode cX11_drop 29 = .ok (.getfield 7, 3) := by decide +kernel
theorem dX11_drop_32 : decode cX11_drop 32 = .ok (.bipush 40, 2) := by decide +kernel
theorem dX11_drop_34 : decode cX11_drop 34 = .ok (.iload_n 1, 1) := by decide +kernel
theorem dX11_drop_35 : decode cX11_drop 35 = .ok (.imul, 1) := by decide +kernel
theorem dX11_drop_36 : decode cX11_drop 36 = .ok (.iload_n 2, 1) := by decide +kernel
theorem dX11_drop_37 : decode cX11_drop 37 = .ok (.iadd, 1) := by decide +kernel
theorem dX11_drop_38 : decode cX11_drop 38 = .ok (.bipush (-9), 2) := by decide +kernel
theorem dX11_drop_40 : decode cX11_drop 40 = .ok (.iastore, 1) := by decide +kernel
theorem dX11_drop_41 : decode cX11_drop 41 = .ok (.iload_n 3, 1) := by decide +kernel
theorem dX11_drop_42 : decode cX11_drop 42 = .ok (.ireturn, 1) := by decide +kernel
theorem dX11_becomes_0 : decode cX11_becomes 0 = .ok (.iload_n 1, 1) := by decide +kernel
theorem dX11_becomes_1 : decode cX11_becomes 1 = .ok (.invokestatic 74, 3) := by decide +kernel
theorem dX11_becomes_4 : decode cX11_becomes 4 = .ok (.ifCond .ne 5, 3) := by decide +kernel
theorem dX11_becomes_7 : decode cX11_becomes 7 = .ok (.iconst (-1), 1) := by decide +kernel
theorem dX11_becomes_8 : decode cX11_becomes 8 = .ok (.ireturn, 1) := by decide +kernel
theorem dX11_becomes_9 : decode cX11_becomes 9 = .ok (.aload_n 0, 1) := by decide +kernel
theorem dX11_becomes_10 : decode cX11_becomes 10 = .ok (.getfield 13, 3) := by decide +kernel
theorem dX11_becomes_13 : decode cX11_becomes 13 = .ok (.iload_n 1, 1) := by decide +kernel
theorem dX11_becomes_14 : decode cX11_becomes 14 = .ok (.iaload, 1) := by decide +kernel
theorem dX11_becomes_15 : decode cX11_becomes 15 = .ok (.istore_n 3, 1) := by decide +kernel
theorem dX11_becomes_16 : decode cX11_becomes 16 = .ok (.aload_n 0, 1) := by decide +kernel
theorem dX11_becomes_17 : decode cX11_becomes 17 = .ok (.getfield 13, 3) := by decide +kernel
theorem dX11_becomes_20 : decode cX11_becomes 20 = .ok (.iload_n 1, 1) := by decide +kernel
theorem dX11_becomes_21 : decode cX11_becomes 21 = .ok (.iload_n 2, 1) := by decide +kernel
theorem dX11_becomes_22 : decode cX11_becomes 22 = .ok (.iastore, 1) := by decide +kernel
theorem dX11_becomes_23 : decode cX11_becomes 23 = .ok (.iload_n 3, 1) := by decide +kernel
theorem dX11_becomes_24 : decode cX11_becomes 24 = .ok (.ireturn, 1) := by decide +kernel
theorem dX11_yes_0 : decode cX11_yes 0 = .ok (.aload_n 0, 1) := by decide +kernel
theorem dX11_yes_1 : decode cX11_yes 1 = .ok (.iload_n 1, 1) := by decide +kernel
theorem dX11_yes_2 : decode cX11_yes 2 = .ok (.iconst 1, 1) := by decide +kernel
theorem dX11_yes_3 : decode cX11_yes 3 = .ok (.invokevirtual 77, 3) := by decide +kernel
theorem dX11_yes_6 : decode cX11_yes 6 = .ok (.ireturn, 1) := by decide +kernel
theorem dX11_no_0 : decode cX11_no 0 = .ok (.aload_n 0, 1) := by decide +kernel
theorem dX11_no_1 : decode cX11_no 1 = .ok (.iload_n 1, 1) := by decide +kernel
theorem dX11_no_2 : decode cX11_no 2 = .ok (.iconst 2, 1) := by decide +kernel
theorem dX11_no_3 : decode cX11_no 3 = .ok (.invokevirtual 77, 3) := by decide +kernel
theorem dX11_no_6 : decode cX11_no 6 = .ok (.ireturn, 1) := by decide +kernel
theorem dX11_open_0 : decode cX11_open 0 = .ok (.aload_n 0, 1) := by decide +kernel
theorem dX11_open_1 : decode cX11_open 1 = .ok (.iload_n 1, 1) := by decide +kernel
theorem dX11_open_2 : decode cX11_open 2 = .ok (.iconst 0, 1) := by decide +kernel
theorem dX11_open_3 : decode cX11_open 3 = .ok (.invokevirtual 77, 3) := by decide +kernel
theorem dX11_open_6 : decode cX11_open 6 = .ok (.ireturn, 1) := by decide +kernel
theorem dX11_weigh_0 : decode cX11_weigh 0 = .ok (.iload_n 1, 1) := by decide +kernel
theorem dX11_weigh_1 : decode cX11_weigh 1 = .ok (.invokestatic 70, 3) := by decide +kernel
theorem dX11_weigh_4 : decode cX11_weigh 4 = .ok (.ifCond .ne 5, 3) := by decide +kernel
theorem dX11_weigh_7 : decode cX11_weigh 7 = .ok (.iconst (-1), 1) := by decide +kernel
theorem dX11_weigh_8 : decode cX11_weigh 8 = .ok (.ireturn, 1) := by decide +kernel
theorem dX11_weigh_9 : decode cX11_weigh 9 = .ok (.iload_n 2, 1) := by decide +kernel
theorem dX11_weigh_10 : decode cX11_weigh 10 = .ok (.iconst 0, 1) := by decide +kernel
theorem dX11_weigh_11 : decode cX11_weigh 11 = .ok (.bipush 9, 2) := by decide +kernel
theorem dX11_weigh_13 : decode cX11_weigh 13 = .ok (.invokestatic 66, 3) := by decide +kernel
theorem dX11_weigh_16 : decode cX11_weigh 16 = .ok (.ifCond .ne 6, 3) := by decide +kernel
theorem dX11_weigh_19 : decode cX11_weigh 19 = .ok (.bipush (-2), 2) := by decide +kernel
theorem dX11_weigh_21 : decode cX11_weigh 21 = .ok (.ireturn, 1) := by decide +kernel
theorem dX11_weigh_22 : decode cX11_weigh 22 = .ok (.aload_n 0, 1) := by decide +kernel
theorem dX11_weigh_23 : decode cX11_weigh 23 = .ok (.getfield 16, 3) := by decide +kernel
theorem dX11_weigh_26 : decode cX11_weigh 26 = .ok (.iload_n 1, 1) := by decide +kernel
theorem dX11_weigh_27 : decode cX11_weigh 27 = .ok (.iaload, 1) := by decide +kernel
theorem dX11_weigh_28 : decode cX11_weigh 28 = .ok (.istore_n 3, 1) := by decide +kernel
theorem dX11_weigh_29 : decode cX11_weigh 29 = .ok (.aload_n 0, 1) := by decide +kernel
theorem dX11_weigh_30 : decode cX11_weigh 30 = .ok (.getfield 16, 3) := by decide +kernel
theorem dX11_weigh_33 : decode cX11_weigh 33 = .ok (.iload_n 1, 1) := by decide +kernel
theorem dX11_weigh_34 : decode cX11_weigh 34 = .ok (.iload_n 2, 1) := by decide +kernel
theorem dX11_weigh_35 : decode cX11_weigh 35 = .ok (.iastore, 1) := by decide +kernel
theorem dX11_weigh_36 : decode cX11_weigh 36 = .ok (.iload_n 3, 1) := by decide +kernel
theorem dX11_weigh_37 : decode cX11_weigh 37 = .ok (.ireturn, 1) := by decide +kernel
theorem dX11_toldBy_0 : decode cX11_toldBy 0 = .ok (.iload_n 1, 1) := by decide +kernel
theorem dX11_toldBy_1 : decode cX11_toldBy 1 = .ok (.iconst 4, 1) := by decide +kernel
theorem dX11_toldBy_2 : decode cX11_toldBy 2 = .ok (.if_icmp .ge 15, 3) := by decide +kernel
theorem dX11_toldBy_5 : decode cX11_toldBy 5 = .ok (.aload_n 0, 1) := by decide +kernel
theorem dX11_toldBy_6 : decode cX11_toldBy 6 = .ok (.getfield 7, 3) := by decide +kernel
theorem dX11_toldBy_9 : decode cX11_toldBy 9 = .ok (.bipush 40, 2) := by decide +kernel
theorem dX11_toldBy_11 : decode cX11_toldBy 11 = .ok (.iload_n 1, 1) := by decide +kernel
theorem dX11_toldBy_12 : decode cX11_toldBy 12 = .ok (.imul, 1) := by decide +kernel
theorem dX11_toldBy_13 : decode cX11_toldBy 13 = .ok (.iload_n 2, 1) := by decide +kernel
theorem dX11_toldBy_14 : decode cX11_toldBy 14 = .ok (.iadd, 1) := by decide +kernel
theorem dX11_toldBy_15 : decode cX11_toldBy 15 = .ok (.iaload, 1) := by decide +kernel
theorem dX11_toldBy_16 : decode cX11_toldBy 16 = .ok (.ireturn, 1) := by decide +kernel
theorem dX11_toldBy_17 : decode cX11_toldBy 17 = .ok (.iconst 0, 1) := by decide +kernel
theorem dX11_toldBy_18 : decode cX11_toldBy 18 = .ok (.istore_n 3, 1) := by decide +kernel
theorem dX11_toldBy_19 : decode cX11_toldBy 19 = .ok (.iconst 0, 1) := by decide +kernel
theorem dX11_toldBy_20 : decode cX11_toldBy 20 = .ok (.istore 4, 2) := by decide +kernel
theorem dX11_toldBy_22 : decode cX11_toldBy 22 = .ok (.iconst 0, 1) := by decide +kernel
theorem dX11_toldBy_23 : decode cX11_toldBy 23 = .ok (.istore 5, 2) := by decide +kernel
theorem dX11_toldBy_25 : decode cX11_toldBy 25 = .ok (.iload 5, 2) := by decide +kernel
theorem dX11_toldBy_27 : decode cX11_toldBy 27 = .ok (.iconst 4, 1) := by decide +kernel
theorem dX11_toldBy_28 : decode cX11_toldBy 28 = .ok (.if_icmp .ge 70, 3) := by decide +kernel
theorem dX11_toldBy_31 : decode cX11_toldBy 31 = .ok (.aload_n 0, 1) := by decide +kernel
theorem dX11_toldBy_32 : decode cX11_toldBy 32 = .ok (.getfield 7, 3) := by decide +kernel
theorem dX11_toldBy_35 : decode cX11_toldBy 35 = .ok (.bipush 40, 2) := by decide +kernel
theorem dX11_toldBy_37 : decode cX11_toldBy 37 = .ok (.iload 5, 2) := by decide +kernel
theorem dX11_toldBy_39 : decode cX11_toldBy 39 = .ok (.imul, 1) := by decide +kernel
theorem dX11_toldBy_40 : decode cX11_toldBy 40 = .ok (.iload_n 2, 1) := by decide +kernel
theorem dX11_toldBy_41 : decode cX11_toldBy 41 = .ok (.iadd, 1) := by decide +kernel
theorem dX11_toldBy_42 : decode cX11_toldBy 42 = .ok (.iaload, 1) := by decide +kernel
theorem dX11_toldBy_43 : decode cX11_toldBy 43 = .ok (.istore 6, 2) := by decide +kernel
theorem dX11_toldBy_45 : decode cX11_toldBy 45 = .ok (.iload_n 3, 1) := by decide +kernel
theorem dX11_toldBy_46 : decode cX11_toldBy 46 = .ok (.iload 6, 2) := by decide +kernel
theorem dX11_toldBy_48 : decode cX11_toldBy 48 = .ok (.bipush (-9), 2) := by decide +kernel
theorem dX11_toldBy_50 : decode cX11_toldBy 50 = .ok (.if_icmp .ne 7, 3) := by decide +kernel
theorem dX11_toldBy_53 : decode cX11_toldBy 53 = .ok (.iconst 0, 1) := by decide +kernel
theorem dX11_toldBy_54 : decode cX11_toldBy 54 = .ok (.goto 13, 3) := by decide +kernel
theorem dX11_toldBy_57 : decode cX11_toldBy 57 = .ok (.aload_n 0, 1) := by decide +kernel
theorem dX11_toldBy_58 : decode cX11_toldBy 58 = .ok (.getfield 16, 3) := by decide +kernel
theorem dX11_toldBy_61 : decode cX11_toldBy 61 = .ok (.iload 5, 2) := by decide +kernel
theorem dX11_toldBy_63 : decode cX11_toldBy 63 = .ok (.iaload, 1) := by decide +kernel
theorem dX11_toldBy_64 : decode cX11_toldBy 64 = .ok (.iload 6, 2) := by decide +kernel
theorem dX11_toldBy_66 : decode cX11_toldBy 66 = .ok (.imul, 1) := by decide +kernel
theorem dX11_toldBy_67 : decode cX11_toldBy 67 = .ok (.iadd, 1) := by decide +kernel
theorem dX11_toldBy_68 : decode cX11_toldBy 68 = .ok (.istore_n 3, 1) := by decide +kernel
theorem dX11_toldBy_69 : decode cX11_toldBy 69 = .ok (.iload 4, 2) := by decide +kernel
theorem dX11_toldBy_71 : decode cX11_toldBy 71 = .ok (.iload 6, 2) := by decide +kernel
theorem dX11_toldBy_73 : decode cX11_toldBy 73 = .ok (.bipush (-9), 2) := by decide +kernel
theorem dX11_toldBy_75 : decode cX11_toldBy 75 = .ok (.if_icmp .ne 7, 3) := by decide +kernel
theorem dX11_toldBy_78 : decode cX11_toldBy 78 = .ok (.iconst 0, 1) := by decide +kernel
theorem dX11_toldBy_79 : decode cX11_toldBy 79 = .ok (.goto 10, 3) := by decide +kernel
theorem dX11_toldBy_82 : decode cX11_toldBy 82 = .ok (.aload_n 0, 1) := by decide +kernel
theorem dX11_toldBy_83 : decode cX11_toldBy 83 = .ok (.getfield 16, 3) := by decide +kernel
theorem dX11_toldBy_86 : decode cX11_toldBy 86 = .ok (.iload 5, 2) := by decide +kernel
theorem dX11_toldBy_88 : decode cX11_toldBy 88 = .ok (.iaload, 1) := by decide +kernel
theorem dX11_toldBy_89 : decode cX11_toldBy 89 = .ok (.iadd, 1) := by decide +kernel
theorem dX11_toldBy_90 : decode cX11_toldBy 90 = .ok (.istore 4, 2) := by decide +kernel
theorem dX11_toldBy_92 : decode cX11_toldBy 92 = .ok (.iinc 5 1, 3) := by decide +kernel
theorem dX11_toldBy_95 : decode cX11_toldBy 95 = .ok (.goto (-70), 3) := by decide +kernel
theorem dX11_toldBy_98 : decode cX11_toldBy 98 = .ok (.iload 4, 2) := by decide +kernel
theorem dX11_toldBy_100 : decode cX11_toldBy 100 = .ok (.ifCond .ne 8, 3) := by decide +kernel
theorem dX11_toldBy_103 : decode cX11_toldBy 103 = .ok (.bipush (-9), 2) := by decide +kernel
theorem dX11_toldBy_105 : decode cX11_toldBy 105 = .ok (.goto 14, 3) := by decide +kernel
theorem dX11_toldBy_108 : decode cX11_toldBy 108 = .ok (.iconst 2, 1) := by decide +kernel
theorem dX11_toldBy_109 : decode cX11_toldBy 109 = .ok (.iload_n 3, 1) := by decide +kernel
theorem dX11_toldBy_110 : decode cX11_toldBy 110 = .ok (.imul, 1) := by decide +kernel
theorem dX11_toldBy_111 : decode cX11_toldBy 111 = .ok (.iload 4, 2) := by decide +kernel
theorem dX11_toldBy_113 : decode cX11_toldBy 113 = .ok (.iadd, 1) := by decide +kernel
theorem dX11_toldBy_114 : decode cX11_toldBy 114 = .ok (.iconst 2, 1) := by decide +kernel
theorem dX11_toldBy_115 : decode cX11_toldBy 115 = .ok (.iload 4, 2) := by decide +kernel
theorem dX11_toldBy_117 : decode cX11_toldBy 117 = .ok (.imul, 1) := by decide +kernel
theorem dX11_toldBy_118 : decode cX11_toldBy 118 = .ok (.idiv, 1) := by decide +kernel
theorem dX11_toldBy_119 : decode cX11_toldBy 119 = .ok (.ireturn, 1) := by decide +kernel
theorem dX11_told_0 : decode cX11_told 0 = .ok (.iload_n 1, 1) := by decide +kernel
theorem dX11_told_1 : decode cX11_told 1 = .ok (.invokestatic 81, 3) := by decide +kernel
theorem dX11_told_4 : decode cX11_told 4 = .ok (.ifCond .eq 19, 3) := by decide +kernel
theorem dX11_told_7 : decode cX11_told 7 = .ok (.iload_n 2, 1) := by decide +kernel
theorem dX11_told_8 : decode cX11_told 8 = .ok (.invokestatic 74, 3) := by decide +kernel
theorem dX11_told_11 : decode cX11_told 11 = .ok (.ifCond .eq 12, 3) := by decide +kernel
theorem dX11_told_14 : decode cX11_told 14 = .ok (.aload_n 0, 1) := by decide +kernel
theorem dX11_told_15 : decode cX11_told 15 = .ok (.iload_n 1, 1) := by decide +kernel
theorem dX11_told_16 : decode cX11_told 16 = .ok (.iload_n 2, 1) := by decide +kernel
theorem dX11_told_17 : decode cX11_told 17 = .ok (.invokevirtual 84, 3) := by decide +kernel
theorem dX11_told_20 : decode cX11_told 20 = .ok (.goto 4, 3) := by decide +kernel
theorem dX11_told_23 : decode cX11_told 23 = .ok (.iconst (-1), 1) := by decide +kernel
theorem dX11_told_24 : decode cX11_told 24 = .ok (.ireturn, 1) := by decide +kernel
theorem dX11_came_0 : decode cX11_came 0 = .ok (.iload_n 1, 1) := by decide +kernel
theorem dX11_came_1 : decode cX11_came 1 = .ok (.invokestatic 74, 3) := by decide +kernel
theorem dX11_came_4 : decode cX11_came 4 = .ok (.ifCond .eq 12, 3) := by decide +kernel
theorem dX11_came_7 : decode cX11_came 7 = .ok (.aload_n 0, 1) := by decide +kernel
theorem dX11_came_8 : decode cX11_came 8 = .ok (.getfield 13, 3) := by decide +kernel
theorem dX11_came_11 : decode cX11_came 11 = .ok (.iload_n 1, 1) := by decide +kernel
theorem dX11_came_12 : decode cX11_came 12 = .ok (.iaload, 1) := by decide +kernel
theorem dX11_came_13 : decode cX11_came 13 = .ok (.goto 4, 3) := by decide +kernel
theorem dX11_came_16 : decode cX11_came 16 = .ok (.iconst (-1), 1) := by decide +kernel
theorem dX11_came_17 : decode cX11_came 17 = .ok (.ireturn, 1) := by decide +kernel
theorem dX11_key_0 : decode cX11_key 0 = .ok (.iload_n 1, 1) := by decide +kernel
theorem dX11_key_1 : decode cX11_key 1 = .ok (.iconst 0, 1) := by decide +kernel
theorem dX11_key_2 : decode cX11_key 2 = .ok (.bipush 127, 2) := by decide +kernel
theorem dX11_key_4 : decode cX11_key 4 = .ok (.invokestatic 66, 3) := by decide +kernel
theorem dX11_key_7 : decode cX11_key 7 = .ok (.ifCond .ne 6, 3) := by decide +kernel
theorem dX11_key_10 : decode cX11_key 10 = .ok (.bipush (-2), 2) := by decide +kernel
theorem dX11_key_12 : decode cX11_key 12 = .ok (.ireturn, 1) := by decide +kernel
theorem dX11_key_13 : decode cX11_key 13 = .ok (.aload_n 0, 1) := by decide +kernel
theorem dX11_key_14 : decode cX11_key 14 = .ok (.getfield 87, 3) := by decide +kernel
theorem dX11_key_17 : decode cX11_key 17 = .ok (.bipush 24, 2) := by decide +kernel
theorem dX11_key_19 : decode cX11_key 19 = .ok (.if_icmp .ne 6, 3) := by decide +kernel
theorem dX11_key_22 : decode cX11_key 22 = .ok (.bipush (-4), 2) := by decide +kernel
theorem dX11_key_24 : decode cX11_key 24 = .ok (.ireturn, 1) := by decide +kernel
theorem dX11_key_25 : decode cX11_key 25 = .ok (.aload_n 0, 1) := by decide +kernel
theorem dX11_key_26 : decode cX11_key 26 = .ok (.getfield 19, 3) := by decide +kernel
theorem dX11_key_29 : decode cX11_key 29 = .ok (.aload_n 0, 1) := by decide +kernel
theorem dX11_key_30 : decode cX11_key 30 = .ok (.getfield 87, 3) := by decide +kernel
theorem dX11_key_33 : decode cX11_key 33 = .ok (.iload_n 1, 1) := by decide +kernel
theorem dX11_key_34 : decode cX11_key 34 = .ok (.iastore, 1) := by decide +kernel
theorem dX11_key_35 : decode cX11_key 35 = .ok (.aload_n 0, 1) := by decide +kernel
theorem dX11_key_36 : decode cX11_key 36 = .ok (.dup, 1) := by decide +kernel
theorem dX11_key_37 : decode cX11_key 37 = .ok (.getfield 87, 3) := by decide +kernel
theorem dX11_key_40 : decode cX11_key 40 = .ok (.iconst 1, 1) := by decide +kernel
theorem dX11_key_41 : decode cX11_key 41 = .ok (.iadd, 1) := by decide +kernel
theorem dX11_key_42 : decode cX11_key 42 = .ok (.putfield 87, 3) := by decide +kernel
theorem dX11_key_45 : decode cX11_key 45 = .ok (.aload_n 0, 1) := by decide +kernel
theorem dX11_key_46 : decode cX11_key 46 = .ok (.getfield 87, 3) := by decide +kernel
theorem dX11_key_49 : decode cX11_key 49 = .ok (.ireturn, 1) := by decide +kernel
theorem dX11_wipe_0 : decode cX11_wipe 0 = .ok (.aload_n 0, 1) := by decide +kernel
theorem dX11_wipe_1 : decode cX11_wipe 1 = .ok (.getfield 87, 3) := by decide +kernel
theorem dX11_wipe_4 : decode cX11_wipe 4 = .ok (.istore_n 1, 1) := by decide +kernel
theorem dX11_wipe_5 : decode cX11_wipe 5 = .ok (.aload_n 0, 1) := by decide +kernel
theorem dX11_wipe_6 : decode cX11_wipe 6 = .ok (.iconst 0, 1) := by decide +kernel
theorem dX11_wipe_7 : decode cX11_wipe 7 = .ok (.putfield 87, 3) := by decide +kernel
theorem dX11_wipe_10 : decode cX11_wipe 10 = .ok (.iload_n 1, 1) := by decide +kernel
theorem dX11_wipe_11 : decode cX11_wipe 11 = .ok (.ireturn, 1) := by decide +kernel
theorem dX11_wordLong_0 : decode cX11_wordLong 0 = .ok (.iconst 0, 1) := by decide +kernel
theorem dX11_wordLong_1 : decode cX11_wordLong 1 = .ok (.istore_n 2, 1) := by decide +kernel
theorem dX11_wordLong_2 : decode cX11_wordLong 2 = .ok (.iload_n 2, 1) := by decide +kernel
theorem dX11_wordLong_3 : decode cX11_wordLong 3 = .ok (.bipush 6, 2) := by decide +kernel
theorem dX11_wordLong_5 : decode cX11_wordLong 5 = .ok (.if_icmp .ge 23, 3) := by decide +kernel
theorem dX11_wordLong_8 : decode cX11_wordLong 8 = .ok (.aload_n 0, 1) := by decide +kernel
theorem dX11_wordLong_9 : decode cX11_wordLong 9 = .ok (.getfield 22, 3) := by decide +kernel
theorem dX11_wordLong_12 : decode cX11_wordLong 12 = .ok (.bipush 6, 2) := by decide +kernel
theorem dX11_wordLong_14 : decode cX11_wordLong 14 = .ok (.iload_n 1, 1) := by decide +kernel
theorem dX11_wordLong_15 : decode cX11_wordLong 15 = .ok (.imul, 1) := by decide +kernel
theorem dX11_wordLong_16 : decode cX11_wordLong 16 = .ok (.iload_n 2, 1) := by decide +kernel
theorem dX11_wordLong_17 : decode cX11_wordLong 17 = .ok (.iadd, 1) := by decide +kernel
theorem dX11_wordLong_18 : decode cX11_wordLong 18 = .ok (.iaload, 1) := by decide +kernel
theorem dX11_wordLong_19 : decode cX11_wordLong 19 = .ok (.ifCond .eq 9, 3) := by decide +kernel
theorem dX11_wordLong_22 : decode cX11_wordLong 22 = .ok (.iinc 2 1, 3) := by decide +kernel
theorem dX11_wordLong_25 : decode cX11_wordLong 25 = .ok (.goto (-23), 3) := by decide +kernel
theorem dX11_wordLong_28 : decode cX11_wordLong 28 = .ok (.iload_n 2, 1) := by decide +kernel
theorem dX11_wordLong_29 : decode cX11_wordLong 29 = .ok (.ireturn, 1) := by decide +kernel
theorem dX11_readsWord_0 : decode cX11_readsWord 0 = .ok (.aload_n 0, 1) := by decide +kernel
theorem dX11_readsWord_1 : decode cX11_readsWord 1 = .ok (.bipush (-9), 2) := by decide +kernel
theorem dX11_readsWord_3 : decode cX11_readsWord 3 = .ok (.putfield 91, 3) := by decide +kernel
theorem dX11_readsWord_6 : decode cX11_readsWord 6 = .ok (.iconst 0, 1) := by decide +kernel
theorem dX11_readsWord_7 : decode cX11_readsWord 7 = .ok (.istore_n 1, 1) := by decide +kernel
theorem dX11_readsWord_8 : decode cX11_readsWord 8 = .ok (.iload_n 1, 1) := by decide +kernel
theorem dX11_readsWord_9 : decode cX11_readsWord 9 = .ok (.bipush 6, 2) := by decide +kernel
theorem dX11_readsWord_11 : decode cX11_readsWord 11 = .ok (.if_icmp .ge 46, 3) := by decide +kernel
theorem dX11_readsWord_14 : decode cX11_readsWord 14 = .ok (.aload_n 0, 1) := by decide +kernel
theorem dX11_readsWord_15 : decode cX11_readsWord 15 = .ok (.getfield 87, 3) := by decide +kernel
theorem dX11_readsWord_18 : decode cX11_readsWord 18 = .ok (.ifCond .le 39, 3) := by decide +kernel
theorem dX11_readsWord_21 : decode cX11_readsWord 21 = .ok (.aload_n 0, 1) := by decide +kernel
theorem dX11_readsWord_22 : decode cX11_readsWord 22 = .ok (.aload_n 0, 1) := by decide +kernel
theorem dX11_readsWord_23 : decode cX11_readsWord 23 = .ok (.getfield 19, 3) := by decide +kernel
theorem dX11_readsWord_26 : decode cX11_readsWord 26 = .ok (.iconst 0, 1) := by decide +kernel
theorem dX11_readsWord_27 : decode cX11_readsWord 27 = .ok (.iaload, 1) := by decide +kernel
theorem dX11_readsWord_28 : decode cX11_readsWord 28 = .ok (.aload_n 0, 1) := by decide +kernel
theorem dX11_readsWord_29 : decode cX11_readsWord 29 = .ok (.getfield 22, 3) := by decide +kernel
theorem dX11_readsWord_32 : decode cX11_readsWord 32 = .ok (.bipush 6, 2) := by decide +kernel
theorem dX11_readsWord_34 : decode cX11_readsWord 34 = .ok (.iload_n 1, 1) := by decide +kernel
theorem dX11_readsWord_35 : decode cX11_readsWord 35 = .ok (.imul, 1) := by decide +kernel
theorem dX11_readsWord_36 : decode cX11_readsWord 36 = .ok (.iaload, 1) := by decide +kernel
theorem dX11_readsWord_37 : decode cX11_readsWord 37 = .ok (.if_icmp .ne 7, 3) := by decide +kernel
theorem dX11_readsWord_40 : decode cX11_readsWord 40 = .ok (.iload_n 1, 1) := by decide +kernel
theorem dX11_readsWord_41 : decode cX11_readsWord 41 = .ok (.goto 7, 3) := by decide +kernel
theorem dX11_readsWord_44 : decode cX11_readsWord 44 = .ok (.aload_n 0, 1) := by decide +kernel
theorem dX11_readsWord_45 : decode cX11_readsWord 45 = .ok (.getfield 91, 3) := by decide +kernel
theorem dX11_readsWord_48 : decode cX11_readsWord 48 = .ok (.putfield 91, 3) := by decide +kernel
theorem dX11_readsWord_51 : decode cX11_readsWord 51 = .ok (.iinc 1 1, 3) := by decide +kernel
theorem dX11_readsWord_54 : decode cX11_readsWord 54 = .ok (.goto (-46), 3) := by decide +kernel
theorem dX11_readsWord_57 : decode cX11_readsWord 57 = .ok (.aload_n 0, 1) := by decide +kernel
theorem dX11_readsWord_58 : decode cX11_readsWord 58 = .ok (.iconst 0, 1) := by decide +kernel
theorem dX11_readsWord_59 : decode cX11_readsWord 59 = .ok (.putfield 94, 3) := by decide +kernel
theorem dX11_readsWord_62 : decode cX11_readsWord 62 = .ok (.aload_n 0, 1) := by decide +kernel
theorem dX11_readsWord_63 : decode cX11_readsWord 63 = .ok (.getfield 91, 3) := by decide +kernel
theorem dX11_readsWord_66 : decode cX11_readsWord 66 = .ok (.bipush (-9), 2) := by decide +kernel
theorem dX11_readsWord_68 : decode cX11_readsWord 68 = .ok (.if_icmp .ne 7, 3) := by decide +kernel
theorem dX11_readsWord_71 : decode cX11_readsWord 71 = .ok (.iconst 1, 1) := by decide +kernel
theorem dX11_readsWord_72 : decode cX11_readsWord 72 = .ok (.goto 11, 3) := by decide +kernel
theorem dX11_readsWord_75 : decode cX11_readsWord 75 = .ok (.aload_n 0, 1) := by decide +kernel
theorem dX11_readsWord_76 : decode cX11_readsWord 76 = .ok (.aload_n 0, 1) := by decide +kernel
theorem dX11_readsWord_77 : decode cX11_readsWord 77 = .ok (.getfield 91, 3) := by decide +kernel
theorem dX11_readsWord_80 : decode cX11_readsWord 80 = .ok (.invokevirtual 97, 3) := by decide +kernel
theorem dX11_readsWord_83 : decode cX11_readsWord 83 = .ok (.istore_n 1, 1) := by decide +kernel
theorem dX11_readsWord_84 : decode cX11_readsWord 84 = .ok (.aload_n 0, 1) := by decide +kernel
theorem dX11_readsWord_85 : decode cX11_readsWord 85 = .ok (.getfield 94, 3) := by decide +kernel
theorem dX11_readsWord_88 : decode cX11_readsWord 88 = .ok (.iload_n 1, 1) := by decide +kernel
theorem dX11_readsWord_89 : decode cX11_readsWord 89 = .ok (.if_icmp .ge 67, 3) := by decide +kernel
theorem dX11_readsWord_92 : decode cX11_readsWord 92 = .ok (.aload_n 0, 1) := by decide +kernel
theorem dX11_readsWord_93 : decode cX11_readsWord 93 = .ok (.getfield 94, 3) := by decide +kernel
theorem dX11_readsWord_96 : decode cX11_readsWord 96 = .ok (.aload_n 0, 1) := by decide +kernel
theorem dX11_readsWord_97 : decode cX11_readsWord 97 = .ok (.getfield 87, 3) := by decide +kernel
theorem dX11_readsWord_100 : decode cX11_readsWord 100 = .ok (.if_icmp .eq 41, 3) := by decide +kernel
theorem dX11_readsWord_103 : decode cX11_readsWord 103 = .ok (.aload_n 0, 1) := by decide +kernel
theorem dX11_readsWord_104 : decode cX11_readsWord 104 = .ok (.getfield 91, 3) := by decide +kernel
theorem dX11_readsWord_107 : decode cX11_readsWord 107 = .ok (.bipush (-9), 2) := by decide +kernel
theorem dX11_readsWord_109 : decode cX11_readsWord 109 = .ok (.if_icmp .eq 32, 3) := by decide +kernel
theorem dX11_readsWord_112 : decode cX11_readsWord 112 = .ok (.aload_n 0, 1) := by decide +kernel
theorem dX11_readsWord_113 : decode cX11_readsWord 113 = .ok (.getfield 19, 3) := by decide +kernel
theorem dX11_readsWord_116 : decode cX11_readsWord 116 = .ok (.aload_n 0, 1) := by decide +kernel
theorem dX11_readsWord_117 : decode cX11_readsWord 117 = .ok (.getfield 94, 3) := by decide +kernel
theorem dX11_readsWord_120 : decode cX11_readsWord 120 = .ok (.iaload, 1) := by decide +kernel
theorem dX11_readsWord_121 : decode cX11_readsWord 121 = .ok (.aload_n 0, 1) := by decide +kernel
theorem dX11_readsWord_122 : decode cX11_readsWord 122 = .ok (.getfield 22, 3) := by decide +kernel
theorem dX11_readsWord_125 : decode cX11_readsWord 125 = .ok (.bipush 6, 2) := by decide +kernel
theorem dX11_readsWord_127 : decode cX11_readsWord 127 = .ok (.aload_n 0, 1) := by decide +kernel
theorem dX11_readsWord_128 : decode cX11_readsWord 128 = .ok (.getfield 91, 3) := by decide +kernel
theorem dX11_readsWord_131 : decode cX11_readsWord 131 = .ok (.imul, 1) := by decide +kernel
theorem dX11_readsWord_132 : decode cX11_readsWord 132 = .ok (.aload_n 0, 1) := by decide +kernel
theorem dX11_readsWord_133 : decode cX11_readsWord 133 = .ok (.getfield 94, 3) := by decide +kernel
theorem dX11_readsWord_136 : decode cX11_readsWord 136 = .ok (.iadd, 1) := by decide +kernel
theorem dX11_readsWord_137 : decode cX11_readsWord 137 = .ok (.iaload, 1) := by decide +kernel
theorem dX11_readsWord_138 : decode cX11_readsWord 138 = .ok (.if_icmp .eq 5, 3) := by decide +kernel
theorem dX11_readsWord_141 : decode cX11_readsWord 141 = .ok (.iconst 0, 1) := by decide +kernel
theorem dX11_readsWord_142 : decode cX11_readsWord 142 = .ok (.ireturn, 1) := by decide +kernel
theorem dX11_readsWord_143 : decode cX11_readsWord 143 = .ok (.aload_n 0, 1) := by decide +kernel
theorem dX11_readsWord_144 : decode cX11_readsWord 144 = .ok (.dup, 1) := by decide +kernel
theorem dX11_readsWord_145 : decode cX11_readsWord 145 = .ok (.getfield 94, 3) := by decide +kernel
theorem dX11_readsWord_148 : decode cX11_readsWord 148 = .ok (.iconst 1, 1) := by decide +kernel
theorem dX11_readsWord_149 : decode cX11_readsWord 149 = .ok (.iadd, 1) := by decide +kernel
theorem dX11_readsWord_150 : decode cX11_readsWord 150 = .ok (.putfield 94, 3) := by decide +kernel
theorem dX11_readsWord_153 : decode cX11_readsWord 153 = .ok (.goto (-69), 3) := by decide +kernel
theorem dX11_readsWord_156 : decode cX11_readsWord 156 = .ok (.iconst 1, 1) := by decide +kernel
theorem dX11_readsWord_157 : decode cX11_readsWord 157 = .ok (.ireturn, 1) := by decide +kernel
theorem dX11_manyNumbers_0 : decode cX11_manyNumbers 0 = .ok (.iload_n 0, 1) := by decide +kernel
theorem dX11_manyNumbers_1 : decode cX11_manyNumbers 1 = .ok (.ifCond .ne 7, 3) := by decide +kernel
theorem dX11_manyNumbers_4 : decode cX11_manyNumbers 4 = .ok (.iconst 3, 1) := by decide +kernel
theorem dX11_manyNumbers_5 : decode cX11_manyNumbers 5 = .ok (.goto 18, 3) := by decide +kernel
theorem dX11_manyNumbers_8 : decode cX11_manyNumbers 8 = .ok (.iload_n 0, 1) := by decide +kernel
theorem dX11_manyNumbers_9 : decode cX11_manyNumbers 9 = .ok (.iconst 1, 1) := by decide +kernel
theorem dX11_manyNumbers_10 : decode cX11_manyNumbers 10 = .ok (.if_icmp .eq 8, 3) := by decide +kernel
theorem dX11_manyNumbers_13 : decode cX11_manyNumbers 13 = .ok (.iload_n 0, 1) := by decide +kernel
theorem dX11_manyNumbers_14 : decode cX11_manyNumbers 14 = .ok (.iconst 5, 1) := by decide +kernel
theorem dX11_manyNumbers_15 : decode cX11_manyNumbers 15 = .ok (.if_icmp .ne 7, 3) := by decide +kernel
theorem dX11_manyNumbers_18 : decode cX11_manyNumbers 18 = .ok (.iconst 2, 1) := by decide +kernel
theorem dX11_manyNumbers_19 : decode cX11_manyNumbers 19 = .ok (.goto 4, 3) := by decide +kernel
theorem dX11_manyNumbers_22 : decode cX11_manyNumbers 22 = .ok (.iconst 1, 1) := by decide +kernel
theorem dX11_manyNumbers_23 : decode cX11_manyNumbers 23 = .ok (.ireturn, 1) := by decide +kernel
theorem dX11_greatest_0 : decode cX11_greatest 0 = .ok (.iload_n 0, 1) := by decide +kernel
theorem dX11_greatest_1 : decode cX11_greatest 1 = .ok (.iconst 2, 1) := by decide +kernel
theorem dX11_greatest_2 : decode cX11_greatest 2 = .ok (.if_icmp .eq 13, 3) := by decide +kernel
theorem dX11_greatest_5 : decode cX11_greatest 5 = .ok (.iload_n 0, 1) := by decide +kernel
theorem dX11_greatest_6 : decode cX11_greatest 6 = .ok (.iconst 3, 1) := by decide +kernel
theorem dX11_greatest_7 : decode cX11_greatest 7 = .ok (.if_icmp .eq 8, 3) := by decide +kernel
theorem dX11_greatest_10 : decode cX11_greatest 10 = .ok (.iload_n 0, 1) := by decide +kernel
theorem dX11_greatest_11 : decode cX11_greatest 11 = .ok (.iconst 4, 1) := by decide +kernel
theorem dX11_greatest_12 : decode cX11_greatest 12 = .ok (.if_icmp .ne 6, 3) := by decide +kernel
theorem dX11_greatest_15 : decode cX11_greatest 15 = .ok (.bipush 39, 2) := by decide +kernel
theorem dX11_greatest_17 : decode cX11_greatest 17 = .ok (.ireturn, 1) := by decide +kernel
theorem dX11_greatest_18 : decode cX11_greatest 18 = .ok (.iload_n 1, 1) := by decide +kernel
theorem dX11_greatest_19 : decode cX11_greatest 19 = .ok (.ifCond .ne 5, 3) := by decide +kernel
theorem dX11_greatest_22 : decode cX11_greatest 22 = .ok (.iconst 3, 1) := by decide +kernel
theorem dX11_greatest_23 : decode cX11_greatest 23 = .ok (.ireturn, 1) := by decide +kernel
theorem dX11_greatest_24 : decode cX11_greatest 24 = .ok (.iload_n 0, 1) := by decide +kernel
theorem dX11_greatest_25 : decode cX11_greatest 25 = .ok (.iconst 5, 1) := by decide +kernel
theorem dX11_greatest_26 : decode cX11_greatest 26 = .ok (.if_icmp .ne 8, 3) := by decide +kernel
theorem dX11_greatest_29 : decode cX11_greatest 29 = .ok (.bipush 9, 2) := by decide +kernel
theorem dX11_greatest_31 : decode cX11_greatest 31 = .ok (.goto 15, 3) := by decide +kernel
theorem dX11_greatest_34 : decode cX11_greatest 34 = .ok (.iload_n 1, 1) := by decide +kernel
theorem dX11_greatest_35 : decode cX11_greatest 35 = .ok (.iconst 1, 1) := by decide +kernel
theorem dX11_greatest_36 : decode cX11_greatest 36 = .ok (.if_icmp .ne 8, 3) := by decide +kernel
theorem dX11_greatest_39 : decode cX11_greatest 39 = .ok (.bipush 39, 2) := by decide +kernel
theorem dX11_greatest_41 : decode cX11_greatest 41 = .ok (.goto 5, 3) := by decide +kernel
theorem dX11_greatest_44 : decode cX11_greatest 44 = .ok (.bipush 100, 2) := by decide +kernel
theorem dX11_greatest_46 : decode cX11_greatest 46 = .ok (.ireturn, 1) := by decide +kernel
theorem dX11_isFigure_0 : decode cX11_isFigure 0 = .ok (.aload_n 0, 1) := by decide +kernel
theorem dX11_isFigure_1 : decode cX11_isFigure 1 = .ok (.getfield 94, 3) := by decide +kernel
theorem dX11_isFigure_4 : decode cX11_isFigure 4 = .ok (.aload_n 0, 1) := by decide +kernel
theorem dX11_isFigure_5 : decode cX11_isFigure 5 = .ok (.getfield 87, 3) := by decide +kernel
theorem dX11_isFigure_8 : decode cX11_isFigure 8 = .ok (.if_icmp .ge 26, 3) := by decide +kernel
theorem dX11_isFigure_11 : decode cX11_isFigure 11 = .ok (.aload_n 0, 1) := by decide +kernel
theorem dX11_isFigure_12 : decode cX11_isFigure 12 = .ok (.getfield 19, 3) := by decide +kernel
theorem dX11_isFigure_15 : decode cX11_isFigure 15 = .ok (.aload_n 0, 1) := by decide +kernel
theorem dX11_isFigure_16 : decode cX11_isFigure 16 = .ok (.getfield 94, 3) := by decide +kernel
theorem dX11_isFigure_19 : decode cX11_isFigure 19 = .ok (.iaload, 1) := by decide +kernel
theorem dX11_isFigure_20 : decode cX11_isFigure 20 = .ok (.bipush 48, 2) := by decide +kernel
theorem dX11_isFigure_22 : decode cX11_isFigure 22 = .ok (.bipush 57, 2) := by decide +kernel
theorem dX11_isFigure_24 : decode cX11_isFigure 24 = .ok (.invokestatic 66, 3) := by decide +kernel
theorem dX11_isFigure_27 : decode cX11_isFigure 27 = .ok (.ifCond .eq 7, 3) := by decide +kernel
theorem dX11_isFigure_30 : decode cX11_isFigure 30 = .ok (.iconst 1, 1) := by decide +kernel
theorem dX11_isFigure_31 : decode cX11_isFigure 31 = .ok (.goto 4, 3) := by decide +kernel
theorem dX11_isFigure_34 : decode cX11_isFigure 34 = .ok (.iconst 0, 1) := by decide +kernel
theorem dX11_isFigure_35 : decode cX11_isFigure 35 = .ok (.ireturn, 1) := by decide +kernel
theorem dX11_readsNumber_0 : decode cX11_readsNumber 0 = .ok (.aload_n 0, 1) := by decide +kernel
theorem dX11_readsNumber_1 : decode cX11_readsNumber 1 = .ok (.getfield 94, 3) := by decide +kernel
theorem dX11_readsNumber_4 : decode cX11_readsNumber 4 = .ok (.aload_n 0, 1) := by decide +kernel
theorem dX11_readsNumber_5 : decode cX11_readsNumber 5 = .ok (.getfield 87, 3) := by decide +kernel
theorem dX11_readsNumber_8 : decode cX11_readsNumber 8 = .ok (.if_icmp .eq 17, 3) := by decide +kernel
theorem dX11_readsNumber_11 : decode cX11_readsNumber 11 = .ok (.aload_n 0, 1) := by decide +kernel
theorem dX11_readsNumber_12 : decode cX11_readsNumber 12 = .ok (.getfield 19, 3) := by decide +kernel
theorem dX11_readsNumber_15 : decode cX11_readsNumber 15 = .ok (.aload_n 0, 1) := by decide +kernel
theorem dX11_readsNumber_16 : decode cX11_readsNumber 16 = .ok (.getfield 94, 3) := by decide +kernel
theorem dX11_readsNumber_19 : decode cX11_readsNumber 19 = .ok (.iaload, 1) := by decide +kernel
theorem dX11_readsNumber_20 : decode cX11_readsNumber 20 = .ok (.bipush 32, 2) := by decide +kernel
theorem dX11_readsNumber_22 : decode cX11_readsNumber 22 = .ok (.if_icmp .eq 5, 3) := by decide +kernel
theorem dX11_readsNumber_25 : decode cX11_readsNumber 25 = .ok (.iconst 0, 1) := by decide +kernel
theorem dX11_readsNumber_26 : decode cX11_readsNumber 26 = .ok (.ireturn, 1) := by decide +kernel
theorem dX11_readsNumber_27 : decode cX11_readsNumber 27 = .ok (.aload_n 0, 1) := by decide +kernel
theorem dX11_readsNumber_28 : decode cX11_readsNumber 28 = .ok (.dup, 1) := by decide +kernel
theorem dX11_readsNumber_29 : decode cX11_readsNumber 29 = .ok (.getfield 94, 3) := by decide +kernel
theorem dX11_readsNumber_32 : decode cX11_readsNumber 32 = .ok (.iconst 1, 1) := by decide +kernel
theorem dX11_readsNumber_33 : decode cX11_readsNumber 33 = .ok (.iadd, 1) := by decide +kernel
theorem dX11_readsNumber_34 : decode cX11_readsNumber 34 = .ok (.putfield 94, 3) := by decide +kernel
theorem dX11_readsNumber_37 : decode cX11_readsNumber 37 = .ok (.iconst 0, 1) := by decide +kernel
theorem dX11_readsNumber_38 : decode cX11_readsNumber 38 = .ok (.istore_n 2, 1) := by decide +kernel
theorem dX11_readsNumber_39 : decode cX11_readsNumber 39 = .ok (.iconst 0, 1) := by decide +kernel
theorem dX11_readsNumber_40 : decode cX11_readsNumber 40 = .ok (.istore_n 3, 1) := by decide +kernel
theorem dX11_readsNumber_41 : decode cX11_readsNumber 41 = .ok (.aload_n 0, 1) := by decide +kernel
theorem dX11_readsNumber_42 : decode cX11_readsNumber 42 = .ok (.invokevirtual 101, 3) := by decide +kernel
theorem dX11_readsNumber_45 : decode cX11_readsNumber 45 = .ok (.ifCond .eq 72, 3) := by decide +kernel
theorem dX11_readsNumber_48 : decode cX11_readsNumber 48 = .ok (.iload_n 3, 1) := by decide +kernel
theorem dX11_readsNumber_49 : decode cX11_readsNumber 49 = .ok (.iconst 3, 1) := by decide +kernel
theorem dX11_readsNumber_50 : decode cX11_readsNumber 50 = .ok (.if_icmp .ge 67, 3) := by decide +kernel
theorem dX11_readsNumber_53 : decode cX11_readsNumber 53 = .ok (.bipush 10, 2) := by decide +kernel
theorem dX11_readsNumber_55 : decode cX11_readsNumber 55 = .ok (.iload_n 2, 1) := by decide +kernel
theorem dX11_readsNumber_56 : decode cX11_readsNumber 56 = .ok (.imul, 1) := by decide +kernel
theorem dX11_readsNumber_57 : decode cX11_readsNumber 57 = .ok (.aload_n 0, 1) := by decide +kernel
theorem dX11_readsNumber_58 : decode cX11_readsNumber 58 = .ok (.getfield 19, 3) := by decide +kernel
theorem dX11_readsNumber_61 : decode cX11_readsNumber 61 = .ok (.aload_n 0, 1) := by decide +kernel
theorem dX11_readsNumber_62 : decode cX11_readsNumber 62 = .ok (.getfield 94, 3) := by decide +kernel
theorem dX11_readsNumber_65 : decode cX11_readsNumber 65 = .ok (.iaload, 1) := by decide +kernel
theorem dX11_readsNumber_66 : decode cX11_readsNumber 66 = .ok (.iadd, 1) := by decide +kernel
theorem dX11_readsNumber_67 : decode cX11_readsNumber 67 = .ok (.bipush 48, 2) := by decide +kernel
theorem dX11_readsNumber_69 : decode cX11_readsNumber 69 = .ok (.isub, 1) := by decide +kernel
theorem dX11_readsNumber_70 : decode cX11_readsNumber 70 = .ok (.aload_n 0, 1) := by decide +kernel
theorem dX11_readsNumber_71 : decode cX11_readsNumber 71 = .ok (.getfield 91, 3) := by decide +kernel
theorem dX11_readsNumber_74 : decode cX11_readsNumber 74 = .ok (.iload_n 1, 1) := by decide +kernel
theorem dX11_readsNumber_75 : decode cX11_readsNumber 75 = .ok (.invokestatic 105, 3) := by decide +kernel
theorem dX11_readsNumber_78 : decode cX11_readsNumber 78 = .ok (.if_icmp .le 5, 3) := by decide +kernel
theorem dX11_readsNumber_81 : decode cX11_readsNumber 81 = .ok (.iconst 0, 1) := by decide +kernel
theorem dX11_readsNumber_82 : decode cX11_readsNumber 82 = .ok (.ireturn, 1) := by decide +kernel
theorem dX11_readsNumber_83 : decode cX11_readsNumber 83 = .ok (.bipush 10, 2) := by decide +kernel
theorem dX11_readsNumber_85 : decode cX11_readsNumber 85 = .ok (.iload_n 2, 1) := by decide +kernel
theorem dX11_readsNumber_86 : decode cX11_readsNumber 86 = .ok (.imul, 1) := by decide +kernel
theorem dX11_readsNumber_87 : decode cX11_readsNumber 87 = .ok (.aload_n 0, 1) := by decide +kernel
theorem dX11_readsNumber_88 : decode cX11_readsNumber 88 = .ok (.getfield 19, 3) := by decide +kernel
theorem dX11_readsNumber_91 : decode cX11_readsNumber 91 = .ok (.aload_n 0, 1) := by decide +kernel
theorem dX11_readsNumber_92 : decode cX11_readsNumber 92 = .ok (.getfield 94, 3) := by decide +kernel
theorem dX11_readsNumber_95 : decode cX11_readsNumber 95 = .ok (.iaload, 1) := by decide +kernel
theorem dX11_readsNumber_96 : decode cX11_readsNumber 96 = .ok (.iadd, 1) := by decide +kernel
theorem dX11_readsNumber_97 : decode cX11_readsNumber 97 = .ok (.bipush 48, 2) := by decide +kernel
theorem dX11_readsNumber_99 : decode cX11_readsNumber 99 = .ok (.isub, 1) := by decide +kernel
theorem dX11_readsNumber_100 : decode cX11_readsNumber 100 = .ok (.istore_n 2, 1) := by decide +kernel
theorem dX11_readsNumber_101 : decode cX11_readsNumber 101 = .ok (.iinc 3 1, 3) := by decide +kernel
theorem dX11_readsNumber_104 : decode cX11_readsNumber 104 = .ok (.aload_n 0, 1) := by decide +kernel
theorem dX11_readsNumber_105 : decode cX11_readsNumber 105 = .ok (.dup, 1) := by decide +kernel
theorem dX11_readsNumber_106 : decode cX11_readsNumber 106 = .ok (.getfield 94, 3) := by decide +kernel
theorem dX11_readsNumber_109 : decode cX11_readsNumber 109 = .ok (.iconst 1, 1) := by decide +kernel
theorem dX11_readsNumber_110 : decode cX11_readsNumber 110 = .ok (.iadd, 1) := by decide +kernel
theorem dX11_readsNumber_111 : decode cX11_readsNumber 111 = .ok (.putfield 94, 3) := by decide +kernel
theorem dX11_readsNumber_114 : decode cX11_readsNumber 114 = .ok (.goto (-73), 3) := by decide +kernel
theorem dX11_readsNumber_117 : decode cX11_readsNumber 117 = .ok (.aload_n 0, 1) := by decide +kernel
theorem dX11_readsNumber_118 : decode cX11_readsNumber 118 = .ok (.getfield 25, 3) := by decide +kernel
theorem dX11_readsNumber_121 : decode cX11_readsNumber 121 = .ok (.iload_n 1, 1) := by decide +kernel
theorem dX11_readsNumber_122 : decode cX11_readsNumber 122 = .ok (.iload_n 2, 1) := by decide +kernel
theorem dX11_readsNumber_123 : decode cX11_readsNumber 123 = .ok (.iastore, 1) := by decide +kernel
theorem dX11_readsNumber_124 : decode cX11_readsNumber 124 = .ok (.iload_n 3, 1) := by decide +kernel
theorem dX11_readsNumber_125 : decode cX11_readsNumber 125 = .ok (.ifCond .le 7, 3) := by decide +kernel
theorem dX11_readsNumber_128 : decode cX11_readsNumber 128 = .ok (.iconst 1, 1) := by decide +kernel
theorem dX11_readsNumber_129 : decode cX11_readsNumber 129 = .ok (.goto 4, 3) := by decide +kernel
theorem dX11_readsNumber_132 : decode cX11_readsNumber 132 = .ok (.iconst 0, 1) := by decide +kernel
theorem dX11_readsNumber_133 : decode cX11_readsNumber 133 = .ok (.ireturn, 1) := by decide +kernel
theorem dX11_readsLine_0 : decode cX11_readsLine 0 = .ok (.aload_n 0, 1) := by decide +kernel
theorem dX11_readsLine_1 : decode cX11_readsLine 1 = .ok (.invokevirtual 108, 3) := by decide +kernel
theorem dX11_readsLine_4 : decode cX11_readsLine 4 = .ok (.ifCond .ne 5, 3) := by decide +kernel
theorem dX11_readsLine_7 : decode cX11_readsLine 7 = .ok (.iconst 0, 1) := by decide +kernel
theorem dX11_readsLine_8 : decode cX11_readsLine 8 = .ok (.ireturn, 1) := by decide +kernel
theorem dX11_readsLine_9 : decode cX11_readsLine 9 = .ok (.iconst 0, 1) := by decide +kernel
theorem dX11_readsLine_10 : decode cX11_readsLine 10 = .ok (.istore_n 1, 1) := by decide +kernel
theorem dX11_readsLine_11 : decode cX11_readsLine 11 = .ok (.iload_n 1, 1) := by decide +kernel
theorem dX11_readsLine_12 : decode cX11_readsLine 12 = .ok (.aload_n 0, 1) := by decide +kernel
theorem dX11_readsLine_13 : decode cX11_readsLine 13 = .ok (.getfield 91, 3) := by decide +kernel
theorem dX11_readsLine_16 : decode cX11_readsLine 16 = .ok (.invokestatic 111, 3) := by decide +kernel
theorem dX11_readsLine_19 : decode cX11_readsLine 19 = .ok (.if_icmp .ge 19, 3) := by decide +kernel
theorem dX11_readsLine_22 : decode cX11_readsLine 22 = .ok (.aload_n 0, 1) := by decide +kernel
theorem dX11_readsLine_23 : decode cX11_readsLine 23 = .ok (.iload_n 1, 1) := by decide +kernel
theorem dX11_readsLine_24 : decode cX11_readsLine 24 = .ok (.invokevirtual 114, 3) := by decide +kernel
theorem dX11_readsLine_27 : decode cX11_readsLine 27 = .ok (.ifCond .ne 5, 3) := by decide +kernel
theorem dX11_readsLine_30 : decode cX11_readsLine 30 = .ok (.iconst 0, 1) := by decide +kernel
theorem dX11_readsLine_31 : decode cX11_readsLine 31 = .ok (.ireturn, 1) := by decide +kernel
theorem dX11_readsLine_32 : decode cX11_readsLine 32 = .ok (.iinc 1 1, 3) := by decide +kernel
theorem dX11_readsLine_35 : decode cX11_readsLine 35 = .ok (.goto (-24), 3) := by decide +kernel
theorem dX11_readsLine_38 : decode cX11_readsLine 38 = .ok (.aload_n 0, 1) := by decide +kernel
theorem dX11_readsLine_39 : decode cX11_readsLine 39 = .ok (.getfield 94, 3) := by decide +kernel
theorem dX11_readsLine_42 : decode cX11_readsLine 42 = .ok (.aload_n 0, 1) := by decide +kernel
theorem dX11_readsLine_43 : decode cX11_readsLine 43 = .ok (.getfield 87, 3) := by decide +kernel
theorem dX11_readsLine_46 : decode cX11_readsLine 46 = .ok (.if_icmp .ne 7, 3) := by decide +kernel
theorem dX11_readsLine_49 : decode cX11_readsLine 49 = .ok (.iconst 1, 1) := by decide +kernel
theorem dX11_readsLine_50 : decode cX11_readsLine 50 = .ok (.goto 4, 3) := by decide +kernel
theorem dX11_readsLine_53 : decode cX11_readsLine 53 = .ok (.iconst 0, 1) := by decide +kernel
theorem dX11_readsLine_54 : decode cX11_readsLine 54 = .ok (.ireturn, 1) := by decide +kernel
theorem dX11_does_0 : decode cX11_does 0 = .ok (.aload_n 0, 1) := by decide +kernel
theorem dX11_does_1 : decode cX11_does 1 = .ok (.getfield 91, 3) := by decide +kernel
theorem dX11_does_4 : decode cX11_does 4 = .ok (.tableswitch 109 0 4 #[36, 59, 76, 87, 98], 36) := by decide +kernel
theorem dX11_does_40 : decode cX11_does 40 = .ok (.aload_n 0, 1) := by decide +kernel
theorem dX11_does_41 : decode cX11_does 41 = .ok (.aload_n 0, 1) := by decide +kernel
theorem dX11_does_42 : decode cX11_does 42 = .ok (.getfield 25, 3) := by decide +kernel
theorem dX11_does_45 : decode cX11_does 45 = .ok (.iconst 0, 1) := by decide +kernel
theorem dX11_does_46 : decode cX11_does 46 = .ok (.iaload, 1) := by decide +kernel
theorem dX11_does_47 : decode cX11_does 47 = .ok (.aload_n 0, 1) := by decide +kernel
theorem dX11_does_48 : decode cX11_does 48 = .ok (.getfield 25, 3) := by decide +kernel
theorem dX11_does_51 : decode cX11_does 51 = .ok (.iconst 1, 1) := by decide +kernel
theorem dX11_does_52 : decode cX11_does 52 = .ok (.iaload, 1) := by decide +kernel
theorem dX11_does_53 : decode cX11_does 53 = .ok (.aload_n 0, 1) := by decide +kernel
theorem dX11_does_54 : decode cX11_does 54 = .ok (.getfield 25, 3) := by decide +kernel
theorem dX11_does_57 : decode cX11_does 57 = .ok (.iconst 2, 1) := by decide +kernel
theorem dX11_does_58 : decode cX11_does 58 = .ok (.iaload, 1) := by decide +kernel
theorem dX11_does_59 : decode cX11_does 59 = .ok (.invokevirtual 124, 3) := by decide +kernel
theorem dX11_does_62 : decode cX11_does 62 = .ok (.ireturn, 1) := by decide +kernel
theorem dX11_does_63 : decode cX11_does 63 = .ok (.aload_n 0, 1) := by decide +kernel
theorem dX11_does_64 : decode cX11_does 64 = .ok (.aload_n 0, 1) := by decide +kernel
theorem dX11_does_65 : decode cX11_does 65 = .ok (.getfield 25, 3) := by decide +kernel
theorem dX11_does_68 : decode cX11_does 68 = .ok (.iconst 0, 1) := by decide +kernel
theorem dX11_does_69 : decode cX11_does 69 = .ok (.iaload, 1) := by decide +kernel
theorem dX11_does_70 : decode cX11_does 70 = .ok (.aload_n 0, 1) := by decide +kernel
theorem dX11_does_71 : decode cX11_does 71 = .ok (.getfield 25, 3) := by decide +kernel
theorem dX11_does_74 : decode cX11_does 74 = .ok (.iconst 1, 1) := by decide +kernel
theorem dX11_does_75 : decode cX11_does 75 = .ok (.iaload, 1) := by decide +kernel
theorem dX11_does_76 : decode cX11_does 76 = .ok (.invokevirtual 128, 3) := by decide +kernel
theorem dX11_does_79 : decode cX11_does 79 = .ok (.ireturn, 1) := by decide +kernel
theorem dX11_does_80 : decode cX11_does 80 = .ok (.aload_n 0, 1) := by decide +kernel
theorem dX11_does_81 : decode cX11_does 81 = .ok (.aload_n 0, 1) := by decide +kernel
theorem dX11_does_82 : decode cX11_does 82 = .ok (.getfield 25, 3) := by decide +kernel
theorem dX11_does_85 : decode cX11_does 85 = .ok (.iconst 0, 1) := by decide +kernel
theorem dX11_does_86 : decode cX11_does 86 = .ok (.iaload, 1) := by decide +kernel
theorem dX11_does_87 : decode cX11_does 87 = .ok (.invokevirtual 131, 3) := by decide +kernel
theorem dX11_does_90 : decode cX11_does 90 = .ok (.ireturn, 1) := by decide +kernel
theorem dX11_does_91 : decode cX11_does 91 = .ok (.aload_n 0, 1) := by decide +kernel
theorem dX11_does_92 : decode cX11_does 92 = .ok (.aload_n 0, 1) := by decide +kernel
theorem dX11_does_93 : decode cX11_does 93 = .ok (.getfield 25, 3) := by decide +kernel
theorem dX11_does_96 : decode cX11_does 96 = .ok (.iconst 0, 1) := by decide +kernel
theorem dX11_does_97 : decode cX11_does 97 = .ok (.iaload, 1) := by decide +kernel
theorem dX11_does_98 : decode cX11_does 98 = .ok (.invokevirtual 134, 3) := by decide +kernel
theorem dX11_does_101 : decode cX11_does 101 = .ok (.ireturn, 1) := by decide +kernel
theorem dX11_does_102 : decode cX11_does 102 = .ok (.aload_n 0, 1) := by decide +kernel
theorem dX11_does_103 : decode cX11_does 103 = .ok (.aload_n 0, 1) := by decide +kernel
theorem dX11_does_104 : decode cX11_does 104 = .ok (.getfield 25, 3) := by decide +kernel
theorem dX11_does_107 : decode cX11_does 107 = .ok (.iconst 0, 1) := by decide +kernel
theorem dX11_does_108 : decode cX11_does 108 = .ok (.iaload, 1) := by decide +kernel
theorem dX11_does_109 : decode cX11_does 109 = .ok (.invokevirtual 137, 3) := by decide +kernel
theorem dX11_does_112 : decode cX11_does 112 = .ok (.ireturn, 1) := by decide +kernel
theorem dX11_does_113 : decode cX11_does 113 = .ok (.aload_n 0, 1) := by decide +kernel
theorem dX11_does_114 : decode cX11_does 114 = .ok (.aload_n 0, 1) := by decide +kernel
theorem dX11_does_115 : decode cX11_does 115 = .ok (.getfield 25, 3) := by decide +kernel
theorem dX11_does_118 : decode cX11_does 118 = .ok (.iconst 0, 1) := by decide +kernel
theorem dX11_does_119 : decode cX11_does 119 = .ok (.iaload, 1) := by decide +kernel
theorem dX11_does_120 : decode cX11_does 120 = .ok (.aload_n 0, 1) := by decide +kernel
theorem dX11_does_121 : decode cX11_does 121 = .ok (.getfield 25, 3) := by decide +kernel
theorem dX11_does_124 : decode cX11_does 124 = .ok (.iconst 1, 1) := by decide +kernel
theorem dX11_does_125 : decode cX11_does 125 = .ok (.iaload, 1) := by decide +kernel
theorem dX11_does_126 : decode cX11_does 126 = .ok (.invokevirtual 140, 3) := by decide +kernel
theorem dX11_does_129 : decode cX11_does 129 = .ok (.ireturn, 1) := by decide +kernel
theorem dX11_line_0 : decode cX11_line 0 = .ok (.aload_n 0, 1) := by decide +kernel
theorem dX11_line_1 : decode cX11_line 1 = .ok (.invokevirtual 117, 3) := by decide +kernel
theorem dX11_line_4 : decode cX11_line 4 = .ok (.ifCond .ne 11, 3) := by decide +kernel
theorem dX11_line_7 : decode cX11_line 7 = .ok (.bipush (-100), 2) := by decide +kernel
theorem dX11_line_9 : decode cX11_line 9 = .ok (.aload_n 0, 1) := by decide +kernel
theorem dX11_line_10 : decode cX11_line 10 = .ok (.getfield 94, 3) := by decide +kernel
theorem dX11_line_13 : decode cX11_line 13 = .ok (.isub, 1) := by decide +kernel
theorem dX11_line_14 : decode cX11_line 14 = .ok (.ireturn, 1) := by decide +kernel
theorem dX11_line_15 : decode cX11_line 15 = .ok (.aload_n 0, 1) := by decide +kernel
theorem dX11_line_16 : decode cX11_line 16 = .ok (.iconst 0, 1) := by decide +kernel
theorem dX11_line_17 : decode cX11_line 17 = .ok (.putfield 87, 3) := by decide +kernel
theorem dX11_line_20 : decode cX11_line 20 = .ok (.aload_n 0, 1) := by decide +kernel
theorem dX11_line_21 : decode cX11_line 21 = .ok (.invokevirtual 120, 3) := by decide +kernel
theorem dX11_line_24 : decode cX11_line 24 = .ok (.sipush 1000, 3) := by decide +kernel
theorem dX11_line_27 : decode cX11_line 27 = .ok (.iadd, 1) := by decide +kernel
theorem dX11_line_28 : decode cX11_line 28 = .ok (.ireturn, 1) := by decide +kernel
theorem dX11_isOnTape_0 : decode cX11_isOnTape 0 = .ok (.aload_n 0, 1) := by decide +kernel
theorem dX11_isOnTape_1 : decode cX11_isOnTape 1 = .ok (.iload_n 1, 1) := by decide +kernel
theorem dX11_isOnTape_2 : decode cX11_isOnTape 2 = .ok (.invokevirtual 97, 3) := by decide +kernel
theorem dX11_isOnTape_5 : decode cX11_isOnTape 5 = .ok (.aload_n 0, 1) := by decide +kernel
theorem dX11_isOnTape_6 : decode cX11_isOnTape 6 = .ok (.getfield 87, 3) := by decide +kernel
theorem dX11_isOnTape_9 : decode cX11_isOnTape 9 = .ok (.if_icmp .eq 5, 3) := by decide +kernel
theorem dX11_isOnTape_12 : decode cX11_isOnTape 12 = .ok (.iconst 0, 1) := by decide +kernel
theorem dX11_isOnTape_13 : decode cX11_isOnTape 13 = .ok (.ireturn, 1) := by decide +kernel
theorem dX11_isOnTape_14 : decode cX11_isOnTape 14 = .ok (.iconst 0, 1) := by decide +kernel
theorem dX11_isOnTape_15 : decode cX11_isOnTape 15 = .ok (.istore_n 2, 1) := by decide +kernel
theorem dX11_isOnTape_16 : decode cX11_isOnTape 16 = .ok (.iload_n 2, 1) := by decide +kernel
theorem dX11_isOnTape_17 : decode cX11_isOnTape 17 = .ok (.aload_n 0, 1) := by decide +kernel
theorem dX11_isOnTape_18 : decode cX11_isOnTape 18 = .ok (.getfield 87, 3) := by decide +kernel
theorem dX11_isOnTape_21 : decode cX11_isOnTape 21 = .ok (.if_icmp .ge 31, 3) := by decide +kernel
theorem dX11_isOnTape_24 : decode cX11_isOnTape 24 = .ok (.aload_n 0, 1) := by decide +kernel
theorem dX11_isOnTape_25 : decode cX11_isOnTape 25 = .ok (.getfield 19, 3) := by decide +kernel
theorem dX11_isOnTape_28 : decode cX11_isOnTape 28 = .ok (.iload_n 2, 1) := by decide +kernel
theorem dX11_isOnTape_29 : decode cX11_isOnTape 29 = .ok (.iaload, 1) := by decide +kernel
theorem dX11_isOnTape_30 : decode cX11_isOnTape 30 = .ok (.aload_n 0, 1) := by decide +kernel
theorem dX11_isOnTape_31 : decode cX11_isOnTape 31 = .ok (.getfield 22, 3) := by decide +kernel
theorem dX11_isOnTape_34 : decode cX11_isOnTape 34 = .ok (.bipush 6, 2) := by decide +kernel
theorem dX11_isOnTape_36 : decode cX11_isOnTape 36 = .ok (.iload_n 1, 1) := by decide +kernel
theorem dX11_isOnTape_37 : decode cX11_isOnTape 37 = .ok (.imul, 1) := by decide +kernel
theorem dX11_isOnTape_38 : decode cX11_isOnTape 38 = .ok (.iload_n 2, 1) := by decide +kernel
theorem dX11_isOnTape_39 : decode cX11_isOnTape 39 = .ok (.iadd, 1) := by decide +kernel
theorem dX11_isOnTape_40 : decode cX11_isOnTape 40 = .ok (.iaload, 1) := by decide +kernel
theorem dX11_isOnTape_41 : decode cX11_isOnTape 41 = .ok (.if_icmp .eq 5, 3) := by decide +kernel
theorem dX11_isOnTape_44 : decode cX11_isOnTape 44 = .ok (.iconst 0, 1) := by decide +kernel
theorem dX11_isOnTape_45 : decode cX11_isOnTape 45 = .ok (.ireturn, 1) := by decide +kernel
theorem dX11_isOnTape_46 : decode cX11_isOnTape 46 = .ok (.iinc 2 1, 3) := by decide +kernel
theorem dX11_isOnTape_49 : decode cX11_isOnTape 49 = .ok (.goto (-33), 3) := by decide +kernel
theorem dX11_isOnTape_52 : decode cX11_isOnTape 52 = .ok (.iconst 1, 1) := by decide +kernel
theorem dX11_isOnTape_53 : decode cX11_isOnTape 53 = .ok (.ireturn, 1) := by decide +kernel
theorem dX11_rule_0 : decode cX11_rule 0 = .ok (.iconst 0, 1) := by decide +kernel
theorem dX11_rule_1 : decode cX11_rule 1 = .ok (.istore_n 1, 1) := by decide +kernel
theorem dX11_rule_2 : decode cX11_rule 2 = .ok (.iload_n 1, 1) := by decide +kernel
theorem dX11_rule_3 : decode cX11_rule 3 = .ok (.iconst 4, 1) := by decide +kernel
theorem dX11_rule_4 : decode cX11_rule 4 = .ok (.if_icmp .ge 32, 3) := by decide +kernel
theorem dX11_rule_7 : decode cX11_rule 7 = .ok (.aload_n 0, 1) := by decide +kernel
theorem dX11_rule_8 : decode cX11_rule 8 = .ok (.bipush 6, 2) := by decide +kernel
theorem dX11_rule_10 : decode cX11_rule 10 = .ok (.iload_n 1, 1) := by decide +kernel
theorem dX11_rule_11 : decode cX11_rule 11 = .ok (.iadd, 1) := by decide +kernel
theorem dX11_rule_12 : decode cX11_rule 12 = .ok (.invokevirtual 143, 3) := by decide +kernel
theorem dX11_rule_15 : decode cX11_rule 15 = .ok (.ifCond .eq 15, 3) := by decide +kernel
theorem dX11_rule_18 : decode cX11_rule 18 = .ok (.aload_n 0, 1) := by decide +kernel
theorem dX11_rule_19 : decode cX11_rule 19 = .ok (.iload_n 1, 1) := by decide +kernel
theorem dX11_rule_20 : decode cX11_rule 20 = .ok (.putfield 146, 3) := by decide +kernel
theorem dX11_rule_23 : decode cX11_rule 23 = .ok (.aload_n 0, 1) := by decide +kernel
theorem dX11_rule_24 : decode cX11_rule 24 = .ok (.iconst 0, 1) := by decide +kernel
theorem dX11_rule_25 : decode cX11_rule 25 = .ok (.putfield 87, 3) := by decide +kernel
theorem dX11_rule_28 : decode cX11_rule 28 = .ok (.iload_n 1, 1) := by decide +kernel
theorem dX11_rule_29 : decode cX11_rule 29 = .ok (.ireturn, 1) := by decide +kernel
theorem dX11_rule_30 : decode cX11_rule 30 = .ok (.iinc 1 1, 3) := by decide +kernel
theorem dX11_rule_33 : decode cX11_rule 33 = .ok (.goto (-31), 3) := by decide +kernel
theorem dX11_rule_36 : decode cX11_rule 36 = .ok (.iconst (-1), 1) := by decide +kernel
theorem dX11_rule_37 : decode cX11_rule 37 = .ok (.ireturn, 1) := by decide +kernel
theorem dX11_missOf_0 : decode cX11_missOf 0 = .ok (.iload_n 2, 1) := by decide +kernel
theorem dX11_missOf_1 : decode cX11_missOf 1 = .ok (.ifCond .eq 10, 3) := by decide +kernel
theorem dX11_missOf_4 : decode cX11_missOf 4 = .ok (.bipush 100, 2) := by decide +kernel
theorem dX11_missOf_6 : decode cX11_missOf 6 = .ok (.iload_n 1, 1) := by decide +kernel
theorem dX11_missOf_7 : decode cX11_missOf 7 = .ok (.isub, 1) := by decide +kernel
theorem dX11_missOf_8 : decode cX11_missOf 8 = .ok (.goto 4, 3) := by decide +kernel
theorem dX11_missOf_11 : decode cX11_missOf 11 = .ok (.iload_n 1, 1) := by decide +kernel
theorem dX11_missOf_12 : decode cX11_missOf 12 = .ok (.istore_n 3, 1) := by decide +kernel
theorem dX11_missOf_13 : decode cX11_missOf 13 = .ok (.aload_n 0, 1) := by decide +kernel
theorem dX11_missOf_14 : decode cX11_missOf 14 = .ok (.getfield 146, 3) := by decide +kernel
theorem dX11_missOf_17 : decode cX11_missOf 17 = .ok (.tableswitch 57 0 2 #[27, 31, 33], 27) := by decide +kernel
theorem dX11_missOf_44 : decode cX11_missOf 44 = .ok (.iload_n 3, 1) := by decide +kernel
theorem dX11_missOf_45 : decode cX11_missOf 45 = .ok (.iload_n 3, 1) := by decide +kernel
theorem dX11_missOf_46 : decode cX11_missOf 46 = .ok (.imul, 1) := by decide +kernel
theorem dX11_missOf_47 : decode cX11_missOf 47 = .ok (.ireturn, 1) := by decide +kernel
theorem dX11_missOf_48 : decode cX11_missOf 48 = .ok (.iload_n 3, 1) := by decide +kernel
theorem dX11_missOf_49 : decode cX11_missOf 49 = .ok (.ireturn, 1) := by decide +kernel
theorem dX11_missOf_50 : decode cX11_missOf 50 = .ok (.iload_n 3, 1) := by decide +kernel
theorem dX11_missOf_51 : decode cX11_missOf 51 = .ok (.bipush 50, 2) := by decide +kernel
theorem dX11_missOf_53 : decode cX11_missOf 53 = .ok (.if_icmp .le 8, 3) := by decide +kernel
theorem dX11_missOf_56 : decode cX11_missOf 56 = .ok (.bipush 100, 2) := by decide +kernel
theorem dX11_missOf_58 : decode cX11_missOf 58 = .ok (.goto 15, 3) := by decide +kernel
theorem dX11_missOf_61 : decode cX11_missOf 61 = .ok (.iload_n 3, 1) := by decide +kernel
theorem dX11_missOf_62 : decode cX11_missOf 62 = .ok (.bipush 50, 2) := by decide +kernel
theorem dX11_missOf_64 : decode cX11_missOf 64 = .ok (.if_icmp .ne 8, 3) := by decide +kernel
theorem dX11_missOf_67 : decode cX11_missOf 67 = .ok (.bipush 50, 2) := by decide +kernel
theorem dX11_missOf_69 : decode cX11_missOf 69 = .ok (.goto 4, 3) := by decide +kernel
theorem dX11_missOf_72 : decode cX11_missOf 72 = .ok (.iconst 0, 1) := by decide +kernel
theorem dX11_missOf_73 : decode cX11_missOf 73 = .ok (.ireturn, 1) := by decide +kernel
theorem dX11_missOf_74 : decode cX11_missOf 74 = .ok (.iload_n 3, 1) := by decide +kernel
theorem dX11_missOf_75 : decode cX11_missOf 75 = .ok (.iload_n 3, 1) := by decide +kernel
theorem dX11_missOf_76 : decode cX11_missOf 76 = .ok (.imul, 1) := by decide +kernel
theorem dX11_missOf_77 : decode cX11_missOf 77 = .ok (.iload_n 3, 1) := by decide +kernel
theorem dX11_missOf_78 : decode cX11_missOf 78 = .ok (.imul, 1) := by decide +kernel
theorem dX11_missOf_79 : decode cX11_missOf 79 = .ok (.ireturn, 1) := by decide +kernel
theorem dX11_miss_0 : decode cX11_miss 0 = .ok (.iload_n 1, 1) := by decide +kernel
theorem dX11_miss_1 : decode cX11_miss 1 = .ok (.iconst 0, 1) := by decide +kernel
theorem dX11_miss_2 : decode cX11_miss 2 = .ok (.bipush 100, 2) := by decide +kernel
theorem dX11_miss_4 : decode cX11_miss 4 = .ok (.invokestatic 66, 3) := by decide +kernel
theorem dX11_miss_7 : decode cX11_miss 7 = .ok (.ifCond .eq 30, 3) := by decide +kernel
theorem dX11_miss_10 : decode cX11_miss 10 = .ok (.iload_n 2, 1) := by decide +kernel
theorem dX11_miss_11 : decode cX11_miss 11 = .ok (.iconst 0, 1) := by decide +kernel
theorem dX11_miss_12 : decode cX11_miss 12 = .ok (.iconst 1, 1) := by decide +kernel
theorem dX11_miss_13 : decode cX11_miss 13 = .ok (.invokestatic 66, 3) := by decide +kernel
theorem dX11_miss_16 : decode cX11_miss 16 = .ok (.ifCond .eq 21, 3) := by decide +kernel
theorem dX11_miss_19 : decode cX11_miss 19 = .ok (.aload_n 0, 1) := by decide +kernel
theorem dX11_miss_20 : decode cX11_miss 20 = .ok (.iload_n 1, 1) := by decide +kernel
theorem dX11_miss_21 : decode cX11_miss 21 = .ok (.iload_n 2, 1) := by decide +kernel
theorem dX11_miss_22 : decode cX11_miss 22 = .ok (.iconst 1, 1) := by decide +kernel
theorem dX11_miss_23 : decode cX11_miss 23 = .ok (.if_icmp .ne 7, 3) := by decide +kernel
theorem dX11_miss_26 : decode cX11_miss 26 = .ok (.iconst 1, 1) := by decide +kernel
theorem dX11_miss_27 : decode cX11_miss 27 = .ok (.goto 4, 3) := by decide +kernel
theorem dX11_miss_30 : decode cX11_miss 30 = .ok (.iconst 0, 1) := by decide +kernel
theorem dX11_miss_31 : decode cX11_miss 31 = .ok (.invokevirtual 149, 3) := by decide +kernel
theorem dX11_miss_34 : decode cX11_miss 34 = .ok (.goto 5, 3) := by decide +kernel
theorem dX11_miss_37 : decode cX11_miss 37 = .ok (.bipush (-2), 2) := by decide +kernel
theorem dX11_miss_39 : decode cX11_miss 39 = .ok (.ireturn, 1) := by decide +kernel
theorem dX11_isCase_0 : decode cX11_isCase 0 = .ok (.aload_n 0, 1) := by decide +kernel
theorem dX11_isCase_1 : decode cX11_isCase 1 = .ok (.getfield 13, 3) := by decide +kernel
theorem dX11_isCase_4 : decode cX11_isCase 4 = .ok (.iload_n 2, 1) := by decide +kernel
theorem dX11_isCase_5 : decode cX11_isCase 5 = .ok (.iaload, 1) := by decide +kernel
theorem dX11_isCase_6 : decode cX11_isCase 6 = .ok (.ifCond .eq 18, 3) := by decide +kernel
theorem dX11_isCase_9 : decode cX11_isCase 9 = .ok (.aload_n 0, 1) := by decide +kernel
theorem dX11_isCase_10 : decode cX11_isCase 10 = .ok (.iload_n 1, 1) := by decide +kernel
theorem dX11_isCase_11 : decode cX11_isCase 11 = .ok (.iload_n 2, 1) := by decide +kernel
theorem dX11_isCase_12 : decode cX11_isCase 12 = .ok (.invokevirtual 84, 3) := by decide +kernel
theorem dX11_isCase_15 : decode cX11_isCase 15 = .ok (.bipush (-9), 2) := by decide +kernel
theorem dX11_isCase_17 : decode cX11_isCase 17 = .ok (.if_icmp .eq 7, 3) := by decide +kernel
theorem dX11_isCase_20 : decode cX11_isCase 20 = .ok (.iconst 1, 1) := by decide +kernel
theorem dX11_isCase_21 : decode cX11_isCase 21 = .ok (.goto 4, 3) := by decide +kernel
theorem dX11_isCase_24 : decode cX11_isCase 24 = .ok (.iconst 0, 1) := by decide +kernel
theorem dX11_isCase_25 : decode cX11_isCase 25 = .ok (.ireturn, 1) := by decide +kernel
theorem dX11_cases_0 : decode cX11_cases 0 = .ok (.iconst 0, 1) := by decide +kernel
theorem dX11_cases_1 : decode cX11_cases 1 = .ok (.istore_n 2, 1) := by decide +kernel
theorem dX11_cases_2 : decode cX11_cases 2 = .ok (.iconst 0, 1) := by decide +kernel
theorem dX11_cases_3 : decode cX11_cases 3 = .ok (.istore_n 3, 1) := by decide +kernel
theorem dX11_cases_4 : decode cX11_cases 4 = .ok (.iload_n 3, 1) := by decide +kernel
theorem dX11_cases_5 : decode cX11_cases 5 = .ok (.bipush 40, 2) := by decide +kernel
theorem dX11_cases_7 : decode cX11_cases 7 = .ok (.if_icmp .ge 26, 3) := by decide +kernel
theorem dX11_cases_10 : decode cX11_cases 10 = .ok (.iload_n 2, 1) := by decide +kernel
theorem dX11_cases_11 : decode cX11_cases 11 = .ok (.aload_n 0, 1) := by decide +kernel
theorem dX11_cases_12 : decode cX11_cases 12 = .ok (.iload_n 1, 1) := by decide +kernel
theorem dX11_cases_13 : decode cX11_cases 13 = .ok (.iload_n 3, 1) := by decide +kernel
theorem dX11_cases_14 : decode cX11_cases 14 = .ok (.invokevirtual 153, 3) := by decide +kernel
theorem dX11_cases_17 : decode cX11_cases 17 = .ok (.ifCond .eq 7, 3) := by decide +kernel
theorem dX11_cases_20 : decode cX11_cases 20 = .ok (.iconst 1, 1) := by decide +kernel
theorem dX11_cases_21 : decode cX11_cases 21 = .ok (.goto 4, 3) := by decide +kernel
theorem dX11_cases_24 : decode cX11_cases 24 = .ok (.iconst 0, 1) := by decide +kernel
theorem dX11_cases_25 : decode cX11_cases 25 = .ok (.iadd, 1) := by decide +kernel
theorem dX11_cases_26 : decode cX11_cases 26 = .ok (.istore_n 2, 1) := by decide +kernel
theorem dX11_cases_27 : decode cX11_cases 27 = .ok (.iinc 3 1, 3) := by decide +kernel
theorem dX11_cases_30 : decode cX11_cases 30 = .ok (.goto (-26), 3) := by decide +kernel
theorem dX11_cases_33 : decode cX11_cases 33 = .ok (.iload_n 2, 1) := by decide +kernel
theorem dX11_cases_34 : decode cX11_cases 34 = .ok (.ireturn, 1) := by decide +kernel
theorem dX11_misses_0 : decode cX11_misses 0 = .ok (.lconst 0, 1) := by decide +kernel
theorem dX11_misses_1 : decode cX11_misses 1 = .ok (.lstore_n 2, 1) := by decide +kernel
theorem dX11_misses_2 : decode cX11_misses 2 = .ok (.iconst 0, 1) := by decide +kernel
theorem dX11_misses_3 : decode cX11_misses 3 = .ok (.istore 4, 2) := by decide +kernel
theorem dX11_misses_5 : decode cX11_misses 5 = .ok (.iload 4, 2) := by decide +kernel
theorem dX11_misses_7 : decode cX11_misses 7 = .ok (.bipush 40, 2) := by decide +kernel
theorem dX11_misses_9 : decode cX11_misses 9 = .ok (.if_icmp .ge 54, 3) := by decide +kernel
theorem dX11_misses_12 : decode cX11_misses 12 = .ok (.lload_n 2, 1) := by decide +kernel
theorem dX11_misses_13 : decode cX11_misses 13 = .ok (.aload_n 0, 1) := by decide +kernel
theorem dX11_misses_14 : decode cX11_misses 14 = .ok (.iload_n 1, 1) := by decide +kernel
theorem dX11_misses_15 : decode cX11_misses 15 = .ok (.iload 4, 2) := by decide +kernel
theorem dX11_misses_17 : decode cX11_misses 17 = .ok (.invokevirtual 153, 3) := by decide +kernel
theorem dX11_misses_20 : decode cX11_misses 20 = .ok (.ifCond .eq 34, 3) := by decide +kernel
theorem dX11_misses_23 : decode cX11_misses 23 = .ok (.aload_n 0, 1) := by decide +kernel
theorem dX11_misses_24 : decode cX11_misses 24 = .ok (.aload_n 0, 1) := by decide +kernel
theorem dX11_misses_25 : decode cX11_misses 25 = .ok (.iload_n 1, 1) := by decide +kernel
theorem dX11_misses_26 : decode cX11_misses 26 = .ok (.iload 4, 2) := by decide +kernel
theorem dX11_misses_28 : decode cX11_misses 28 = .ok (.invokevirtual 84, 3) := by decide +kernel
theorem dX11_misses_31 : decode cX11_misses 31 = .ok (.aload_n 0, 1) := by decide +kernel
theorem dX11_misses_32 : decode cX11_misses 32 = .ok (.getfield 13, 3) := by decide +kernel
theorem dX11_misses_35 : decode cX11_misses 35 = .ok (.iload 4, 2) := by decide +kernel
theorem dX11_misses_37 : decode cX11_misses 37 = .ok (.iaload, 1) := by decide +kernel
theorem dX11_misses_38 : decode cX11_misses 38 = .ok (.iconst 1, 1) := by decide +kernel
theorem dX11_misses_39 : decode cX11_misses 39 = .ok (.if_icmp .ne 7, 3) := by decide +kernel
theorem dX11_misses_42 : decode cX11_misses 42 = .ok (.iconst 1, 1) := by decide +kernel
theorem dX11_misses_43 : decode cX11_misses 43 = .ok (.goto 4, 3) := by decide +kernel
theorem dX11_misses_46 : decode cX11_misses 46 = .ok (.iconst 0, 1) := by decide +kernel
theorem dX11_misses_47 : decode cX11_misses 47 = .ok (.invokevirtual 149, 3) := by decide +kernel
theorem dX11_misses_50 : decode cX11_misses 50 = .ok (.i2l, 1) := by decide +kernel
theorem dX11_misses_51 : decode cX11_misses 51 = .ok (.goto 4, 3) := by decide +kernel
theorem dX11_misses_54 : decode cX11_misses 54 = .ok (.lconst 0, 1) := by decide +kernel
theorem dX11_misses_55 : decode cX11_misses 55 = .ok (.ladd, 1) := by decide +kernel
theorem dX11_misses_56 : decode cX11_misses 56 = .ok (.lstore_n 2, 1) := by decide +kernel
theorem dX11_misses_57 : decode cX11_misses 57 = .ok (.iinc 4 1, 3) := by decide +kernel
theorem dX11_misses_60 : decode cX11_misses 60 = .ok (.goto (-55), 3) := by decide +kernel
theorem dX11_misses_63 : decode cX11_misses 63 = .ok (.lload_n 2, 1) := by decide +kernel
theorem dX11_misses_64 : decode cX11_misses 64 = .ok (.lreturn, 1) := by decide +kernel
theorem dX11_becomesFraction_0 : decode cX11_becomesFraction 0 = .ok (.lload_n 1, 1) := by decide +kernel
theorem dX11_becomesFraction_1 : decode cX11_becomesFraction 1 = .ok (.lconst 0, 1) := by decide +kernel
theorem dX11_becomesFraction_2 : decode cX11_becomesFraction 2 = .ok (.lcmp, 1) := by decide +kernel
theorem dX11_becomesFraction_3 : decode cX11_becomesFraction 3 = .ok (.ifCond .ge 8, 3) := by decide +kernel
theorem dX11_becomesFraction_6 : decode cX11_becomesFraction 6 = .ok (.lload_n 1, 1) := by decide +kernel
theorem dX11_becomesFraction_7 : decode cX11_becomesFraction 7 = .ok (.lneg, 1) := by decide +kernel
theorem dX11_becomesFraction_8 : decode cX11_becomesFraction 8 = .ok (.goto 4, 3) := by decide +kernel
theorem dX11_becomesFraction_11 : decode cX11_becomesFraction 11 = .ok (.lload_n 1, 1) := by decide +kernel
theorem dX11_becomesFraction_12 : decode cX11_becomesFraction 12 = .ok (.lstore 5, 2) := by decide +kernel
theorem dX11_becomesFraction_14 : decode cX11_becomesFraction 14 = .ok (.lload_n 3, 1) := by decide +kernel
theorem dX11_becomesFraction_15 : decode cX11_becomesFraction 15 = .ok (.lstore 7, 2) := by decide +kernel
theorem dX11_becomesFraction_17 : decode cX11_becomesFraction 17 = .ok (.lload 7, 2) := by decide +kernel
theorem dX11_becomesFraction_19 : decode cX11_becomesFraction 19 = .ok (.lconst 0, 1) := by decide +kernel
theorem dX11_becomesFraction_20 : decode cX11_becomesFraction 20 = .ok (.lcmp, 1) := by decide +kernel
theorem dX11_becomesFraction_21 : decode cX11_becomesFraction 21 = .ok (.ifCond .eq 21, 3) := by decide +kernel
theorem dX11_becomesFraction_24 : decode cX11_becomesFraction 24 = .ok (.lload 5, 2) := by decide +kernel
theorem dX11_becomesFraction_26 : decode cX11_becomesFraction 26 = .ok (.lload 7, 2) := by decide +kernel
theorem dX11_becomesFraction_28 : decode cX11_becomesFraction 28 = .ok (.lrem, 1) := by decide +kernel
theorem dX11_becomesFraction_29 : decode cX11_becomesFraction 29 = .ok (.lstore 9, 2) := by decide +kernel
theorem dX11_becomesFraction_31 : decode cX11_becomesFraction 31 = .ok (.lload 7, 2) := by decide +kernel
theorem dX11_becomesFraction_33 : decode cX11_becomesFraction 33 = .ok (.lstore 5, 2) := by decide +kernel
theorem dX11_becomesFraction_35 : decode cX11_becomesFraction 35 = .ok (.lload 9, 2) := by decide +kernel
theorem dX11_becomesFraction_37 : decode cX11_becomesFraction 37 = .ok (.lstore 7, 2) := by decide +kernel
theorem dX11_becomesFraction_39 : decode cX11_becomesFraction 39 = .ok (.goto (-22), 3) := by decide +kernel
theorem dX11_becomesFraction_42 : decode cX11_becomesFraction 42 = .ok (.aload_n 0, 1) := by decide +kernel
theorem dX11_becomesFraction_43 : decode cX11_becomesFraction 43 = .ok (.lload_n 1, 1) := by decide +kernel
theorem dX11_becomesFraction_44 : decode cX11_becomesFraction 44 = .ok (.lload 5, 2) := by decide +kernel
theorem dX11_becomesFraction_46 : decode cX11_becomesFraction 46 = .ok (.ldiv, 1) := by decide +kernel
theorem dX11_becomesFraction_47 : decode cX11_becomesFraction 47 = .ok (.putfield 157, 3) := by decide +kernel
theorem dX11_becomesFraction_50 : decode cX11_becomesFraction 50 = .ok (.aload_n 0, 1) := by decide +kernel
theorem dX11_becomesFraction_51 : decode cX11_becomesFraction 51 = .ok (.lload_n 3, 1) := by decide +kernel
theorem dX11_becomesFraction_52 : decode cX11_becomesFraction 52 = .ok (.lload 5, 2) := by decide +kernel
theorem dX11_becomesFraction_54 : decode cX11_becomesFraction 54 = .ok (.ldiv, 1) := by decide +kernel
theorem dX11_becomesFraction_55 : decode cX11_becomesFraction 55 = .ok (.putfield 28, 3) := by decide +kernel
theorem dX11_becomesFraction_58 : decode cX11_becomesFraction 58 = .ok (.return_, 1) := by decide +kernel
theorem dX11_adds_0 : decode cX11_adds 0 = .ok (.aload_n 0, 1) := by decide +kernel
theorem dX11_adds_1 : decode cX11_adds 1 = .ok (.aload_n 0, 1) := by decide +kernel
theorem dX11_adds_2 : decode cX11_adds 2 = .ok (.getfield 157, 3) := by decide +kernel
theorem dX11_adds_5 : decode cX11_adds 5 = .ok (.lload_n 3, 1) := by decide +kernel
theorem dX11_adds_6 : decode cX11_adds 6 = .ok (.lmul, 1) := by decide +kernel
theorem dX11_adds_7 : decode cX11_adds 7 = .ok (.lload_n 1, 1) := by decide +kernel
theorem dX11_adds_8 : decode cX11_adds 8 = .ok (.aload_n 0, 1) := by decide +kernel
theorem dX11_adds_9 : decode cX11_adds 9 = .ok (.getfield 28, 3) := by decide +kernel
theorem dX11_adds_12 : decode cX11_adds 12 = .ok (.lmul, 1) := by decide +kernel
theorem dX11_adds_13 : decode cX11_adds 13 = .ok (.ladd, 1) := by decide +kernel
theorem dX11_adds_14 : decode cX11_adds 14 = .ok (.aload_n 0, 1) := by decide +kernel
theorem dX11_adds_15 : decode cX11_adds 15 = .ok (.getfield 28, 3) := by decide +kernel
theorem dX11_adds_18 : decode cX11_adds 18 = .ok (.lload_n 3, 1) := by decide +kernel
theorem dX11_adds_19 : decode cX11_adds 19 = .ok (.lmul, 1) := by decide +kernel
theorem dX11_adds_20 : decode cX11_adds 20 = .ok (.invokevirtual 160, 3) := by decide +kernel
theorem dX11_adds_23 : decode cX11_adds 23 = .ok (.return_, 1) := by decide +kernel
theorem dX11_part_0 : decode cX11_part 0 = .ok (.iload_n 1, 1) := by decide +kernel
theorem dX11_part_1 : decode cX11_part 1 = .ok (.ifCond .ne 10, 3) := by decide +kernel
theorem dX11_part_4 : decode cX11_part 4 = .ok (.aload_n 0, 1) := by decide +kernel
theorem dX11_part_5 : decode cX11_part 5 = .ok (.getfield 157, 3) := by decide +kernel
theorem dX11_part_8 : decode cX11_part 8 = .ok (.goto 7, 3) := by decide +kernel
theorem dX11_part_11 : decode cX11_part 11 = .ok (.aload_n 0, 1) := by decide +kernel
theorem dX11_part_12 : decode cX11_part 12 = .ok (.getfield 28, 3) := by decide +kernel
theorem dX11_part_15 : decode cX11_part 15 = .ok (.lreturn, 1) := by decide +kernel
theorem dX11_score_0 : decode cX11_score 0 = .ok (.iload_n 1, 1) := by decide +kernel
theorem dX11_score_1 : decode cX11_score 1 = .ok (.invokestatic 81, 3) := by decide +kernel
theorem dX11_score_4 : decode cX11_score 4 = .ok (.ifCond .eq 20, 3) := by decide +kernel
theorem dX11_score_7 : decode cX11_score 7 = .ok (.iload_n 2, 1) := by decide +kernel
theorem dX11_score_8 : decode cX11_score 8 = .ok (.iconst 0, 1) := by decide +kernel
theorem dX11_score_9 : decode cX11_score 9 = .ok (.iconst 1, 1) := by decide +kernel
theorem dX11_score_10 : decode cX11_score 10 = .ok (.invokestatic 66, 3) := by decide +kernel
theorem dX11_score_13 : decode cX11_score 13 = .ok (.ifCond .eq 11, 3) := by decide +kernel
theorem dX11_score_16 : decode cX11_score 16 = .ok (.aload_n 0, 1) := by decide +kernel
theorem dX11_score_17 : decode cX11_score 17 = .ok (.iload_n 1, 1) := by decide +kernel
theorem dX11_score_18 : decode cX11_score 18 = .ok (.invokevirtual 164, 3) := by decide +kernel
theorem dX11_score_21 : decode cX11_score 21 = .ok (.ifCond .ne 7, 3) := by decide +kernel
theorem dX11_score_24 : decode cX11_score 24 = .ok (.ldc2_w 167, 3) := by decide +kernel
theorem dX11_score_27 : decode cX11_score 27 = .ok (.lreturn, 1) := by decide +kernel
theorem dX11_score_28 : decode cX11_score 28 = .ok (.aload_n 0, 1) := by decide +kernel
theorem dX11_score_29 : decode cX11_score 29 = .ok (.aload_n 0, 1) := by decide +kernel
theorem dX11_score_30 : decode cX11_score 30 = .ok (.iload_n 1, 1) := by decide +kernel
theorem dX11_score_31 : decode cX11_score 31 = .ok (.invokevirtual 169, 3) := by decide +kernel
theorem dX11_score_34 : decode cX11_score 34 = .ok (.aload_n 0, 1) := by decide +kernel
theorem dX11_score_35 : decode cX11_score 35 = .ok (.iload_n 1, 1) := by decide +kernel
theorem dX11_score_36 : decode cX11_score 36 = .ok (.invokevirtual 164, 3) := by decide +kernel
theorem dX11_score_39 : decode cX11_score 39 = .ok (.i2l, 1) := by decide +kernel
theorem dX11_score_40 : decode cX11_score 40 = .ok (.invokevirtual 160, 3) := by decide +kernel
theorem dX11_score_43 : decode cX11_score 43 = .ok (.aload_n 0, 1) := by decide +kernel
theorem dX11_score_44 : decode cX11_score 44 = .ok (.iload_n 2, 1) := by decide +kernel
theorem dX11_score_45 : decode cX11_score 45 = .ok (.invokevirtual 173, 3) := by decide +kernel
theorem dX11_score_48 : decode cX11_score 48 = .ok (.lreturn, 1) := by decide +kernel
theorem dX11_isAhead_0 : decode cX11_isAhead 0 = .ok (.aload_n 0, 1) := by decide +kernel
theorem dX11_isAhead_1 : decode cX11_isAhead 1 = .ok (.iload_n 1, 1) := by decide +kernel
theorem dX11_isAhead_2 : decode cX11_isAhead 2 = .ok (.invokevirtual 169, 3) := by decide +kernel
theorem dX11_isAhead_5 : decode cX11_isAhead 5 = .ok (.aload_n 0, 1) := by decide +kernel
theorem dX11_isAhead_6 : decode cX11_isAhead 6 = .ok (.iload_n 2, 1) := by decide +kernel
theorem dX11_isAhead_7 : decode cX11_isAhead 7 = .ok (.invokevirtual 164, 3) := by decide +kernel
theorem dX11_isAhead_10 : decode cX11_isAhead 10 = .ok (.i2l, 1) := by decide +kernel
theorem dX11_isAhead_11 : decode cX11_isAhead 11 = .ok (.lmul, 1) := by decide +kernel
theorem dX11_isAhead_12 : decode cX11_isAhead 12 = .ok (.lstore_n 3, 1) := by decide +kernel
theorem dX11_isAhead_13 : decode cX11_isAhead 13 = .ok (.aload_n 0, 1) := by decide +kernel
theorem dX11_isAhead_14 : decode cX11_isAhead 14 = .ok (.iload_n 2, 1) := by decide +kernel
theorem dX11_isAhead_15 : decode cX11_isAhead 15 = .ok (.invokevirtual 169, 3) := by decide +kernel
theorem dX11_isAhead_18 : decode cX11_isAhead 18 = .ok (.aload_n 0, 1) := by decide +kernel
theorem dX11_isAhead_19 : decode cX11_isAhead 19 = .ok (.iload_n 1, 1) := by decide +kernel
theorem dX11_isAhead_20 : decode cX11_isAhead 20 = .ok (.invokevirtual 164, 3) := by decide +kernel
theorem dX11_isAhead_23 : decode cX11_isAhead 23 = .ok (.i2l, 1) := by decide +kernel
theorem dX11_isAhead_24 : decode cX11_isAhead 24 = .ok (.lmul, 1) := by decide +kernel
theorem dX11_isAhead_25 : decode cX11_isAhead 25 = .ok (.lstore 5, 2) := by decide +kernel
theorem dX11_isAhead_27 : decode cX11_isAhead 27 = .ok (.lload_n 3, 1) := by decide +kernel
theorem dX11_isAhead_28 : decode cX11_isAhead 28 = .ok (.lload 5, 2) := by decide +kernel
theorem dX11_isAhead_30 : decode cX11_isAhead 30 = .ok (.lcmp, 1) := by decide +kernel
theorem dX11_isAhead_31 : decode cX11_isAhead 31 = .ok (.ifCond .eq 18, 3) := by decide +kernel
theorem dX11_isAhead_34 : decode cX11_isAhead 34 = .ok (.lload_n 3, 1) := by decide +kernel
theorem dX11_isAhead_35 : decode cX11_isAhead 35 = .ok (.lload 5, 2) := by decide +kernel
theorem dX11_isAhead_37 : decode cX11_isAhead 37 = .ok (.lcmp, 1) := by decide +kernel
theorem dX11_isAhead_38 : decode cX11_isAhead 38 = .ok (.ifCond .ge 7, 3) := by decide +kernel
theorem dX11_isAhead_41 : decode cX11_isAhead 41 = .ok (.iconst 1, 1) := by decide +kernel
theorem dX11_isAhead_42 : decode cX11_isAhead 42 = .ok (.goto 17, 3) := by decide +kernel
theorem dX11_isAhead_45 : decode cX11_isAhead 45 = .ok (.iconst 0, 1) := by decide +kernel
theorem dX11_isAhead_46 : decode cX11_isAhead 46 = .ok (.goto 13, 3) := by decide +kernel
theorem dX11_isAhead_49 : decode cX11_isAhead 49 = .ok (.iload_n 1, 1) := by decide +kernel
theorem dX11_isAhead_50 : decode cX11_isAhead 50 = .ok (.iload_n 2, 1) := by decide +kernel
theorem dX11_isAhead_51 : decode cX11_isAhead 51 = .ok (.if_icmp .ge 7, 3) := by decide +kernel
theorem dX11_isAhead_54 : decode cX11_isAhead 54 = .ok (.iconst 1, 1) := by decide +kernel
theorem dX11_isAhead_55 : decode cX11_isAhead 55 = .ok (.goto 4, 3) := by decide +kernel
theorem dX11_isAhead_58 : decode cX11_isAhead 58 = .ok (.iconst 0, 1) := by decide +kernel
theorem dX11_isAhead_59 : decode cX11_isAhead 59 = .ok (.ireturn, 1) := by decide +kernel
theorem dX11_rank_0 : decode cX11_rank 0 = .ok (.iconst 0, 1) := by decide +kernel
theorem dX11_rank_1 : decode cX11_rank 1 = .ok (.istore_n 2, 1) := by decide +kernel
theorem dX11_rank_2 : decode cX11_rank 2 = .ok (.iload_n 2, 1) := by decide +kernel
theorem dX11_rank_3 : decode cX11_rank 3 = .ok (.iconst 4, 1) := by decide +kernel
theorem dX11_rank_4 : decode cX11_rank 4 = .ok (.if_icmp .gt 68, 3) := by decide +kernel
theorem dX11_rank_7 : decode cX11_rank 7 = .ok (.iconst 0, 1) := by decide +kernel
theorem dX11_rank_8 : decode cX11_rank 8 = .ok (.istore_n 3, 1) := by decide +kernel
theorem dX11_rank_9 : decode cX11_rank 9 = .ok (.iconst 0, 1) := by decide +kernel
theorem dX11_rank_10 : decode cX11_rank 10 = .ok (.istore 4, 2) := by decide +kernel
theorem dX11_rank_12 : decode cX11_rank 12 = .ok (.iload 4, 2) := by decide +kernel
theorem dX11_rank_14 : decode cX11_rank 14 = .ok (.iconst 4, 1) := by decide +kernel
theorem dX11_rank_15 : decode cX11_rank 15 = .ok (.if_icmp .gt 36, 3) := by decide +kernel
theorem dX11_rank_18 : decode cX11_rank 18 = .ok (.iload_n 3, 1) := by decide +kernel
theorem dX11_rank_19 : decode cX11_rank 19 = .ok (.aload_n 0, 1) := by decide +kernel
theorem dX11_rank_20 : decode cX11_rank 20 = .ok (.iload 4, 2) := by decide +kernel
theorem dX11_rank_22 : decode cX11_rank 22 = .ok (.invokevirtual 164, 3) := by decide +kernel
theorem dX11_rank_25 : decode cX11_rank 25 = .ok (.ifCond .le 17, 3) := by decide +kernel
theorem dX11_rank_28 : decode cX11_rank 28 = .ok (.aload_n 0, 1) := by decide +kernel
theorem dX11_rank_29 : decode cX11_rank 29 = .ok (.iload 4, 2) := by decide +kernel
theorem dX11_rank_31 : decode cX11_rank 31 = .ok (.iload_n 2, 1) := by decide +kernel
theorem dX11_rank_32 : decode cX11_rank 32 = .ok (.invokevirtual 176, 3) := by decide +kernel
theorem dX11_rank_35 : decode cX11_rank 35 = .ok (.ifCond .eq 7, 3) := by decide +kernel
theorem dX11_rank_38 : decode cX11_rank 38 = .ok (.iconst 1, 1) := by decide +kernel
theorem dX11_rank_39 : decode cX11_rank 39 = .ok (.goto 4, 3) := by decide +kernel
theorem dX11_rank_42 : decode cX11_rank 42 = .ok (.iconst 0, 1) := by decide +kernel
theorem dX11_rank_43 : decode cX11_rank 43 = .ok (.iadd, 1) := by decide +kernel
theorem dX11_rank_44 : decode cX11_rank 44 = .ok (.istore_n 3, 1) := by decide +kernel
theorem dX11_rank_45 : decode cX11_rank 45 = .ok (.iinc 4 1, 3) := by decide +kernel
theorem dX11_rank_48 : decode cX11_rank 48 = .ok (.goto (-36), 3) := by decide +kernel
theorem dX11_rank_51 : decode cX11_rank 51 = .ok (.aload_n 0, 1) := by decide +kernel
theorem dX11_rank_52 : decode cX11_rank 52 = .ok (.iload_n 2, 1) := by decide +kernel
theorem dX11_rank_53 : decode cX11_rank 53 = .ok (.invokevirtual 164, 3) := by decide +kernel
theorem dX11_rank_56 : decode cX11_rank 56 = .ok (.ifCond .le 10, 3) := by decide +kernel
theorem dX11_rank_59 : decode cX11_rank 59 = .ok (.iload_n 3, 1) := by decide +kernel
theorem dX11_rank_60 : decode cX11_rank 60 = .ok (.iload_n 1, 1) := by decide +kernel
theorem dX11_rank_61 : decode cX11_rank 61 = .ok (.if_icmp .ne 5, 3) := by decide +kernel
theorem dX11_rank_64 : decode cX11_rank 64 = .ok (.iload_n 2, 1) := by decide +kernel
theorem dX11_rank_65 : decode cX11_rank 65 = .ok (.ireturn, 1) := by decide +kernel
theorem dX11_rank_66 : decode cX11_rank 66 = .ok (.iinc 2 1, 3) := by decide +kernel
theorem dX11_rank_69 : decode cX11_rank 69 = .ok (.goto (-67), 3) := by decide +kernel
theorem dX11_rank_72 : decode cX11_rank 72 = .ok (.iconst (-1), 1) := by decide +kernel
theorem dX11_rank_73 : decode cX11_rank 73 = .ok (.ireturn, 1) := by decide +kernel
theorem dX11_sumBy_0 : decode cX11_sumBy 0 = .ok (.iload_n 1, 1) := by decide +kernel
theorem dX11_sumBy_1 : decode cX11_sumBy 1 = .ok (.aload_n 0, 1) := by decide +kernel
theorem dX11_sumBy_2 : decode cX11_sumBy 2 = .ok (.iload_n 2, 1) := by decide +kernel
theorem dX11_sumBy_3 : decode cX11_sumBy 3 = .ok (.iconst 1, 1) := by decide +kernel
theorem dX11_sumBy_4 : decode cX11_sumBy 4 = .ok (.invokevirtual 149, 3) := by decide +kernel
theorem dX11_sumBy_7 : decode cX11_sumBy 7 = .ok (.imul, 1) := by decide +kernel
theorem dX11_sumBy_8 : decode cX11_sumBy 8 = .ok (.bipush 100, 2) := by decide +kernel
theorem dX11_sumBy_10 : decode cX11_sumBy 10 = .ok (.iload_n 1, 1) := by decide +kernel
theorem dX11_sumBy_11 : decode cX11_sumBy 11 = .ok (.isub, 1) := by decide +kernel
theorem dX11_sumBy_12 : decode cX11_sumBy 12 = .ok (.aload_n 0, 1) := by decide +kernel
theorem dX11_sumBy_13 : decode cX11_sumBy 13 = .ok (.iload_n 2, 1) := by decide +kernel
theorem dX11_sumBy_14 : decode cX11_sumBy 14 = .ok (.iconst 0, 1) := by decide +kernel
theorem dX11_sumBy_15 : decode cX11_sumBy 15 = .ok (.invokevirtual 149, 3) := by decide +kernel
theorem dX11_sumBy_18 : decode cX11_sumBy 18 = .ok (.imul, 1) := by decide +kernel
theorem dX11_sumBy_19 : decode cX11_sumBy 19 = .ok (.iadd, 1) := by decide +kernel
theorem dX11_sumBy_20 : decode cX11_sumBy 20 = .ok (.ireturn, 1) := by decide +kernel
theorem dX11_lureOf_0 : decode cX11_lureOf 0 = .ok (.iconst 0, 1) := by decide +kernel
theorem dX11_lureOf_1 : decode cX11_lureOf 1 = .ok (.istore_n 2, 1) := by decide +kernel
theorem dX11_lureOf_2 : decode cX11_lureOf 2 = .ok (.iconst 1, 1) := by decide +kernel
theorem dX11_lureOf_3 : decode cX11_lureOf 3 = .ok (.istore_n 3, 1) := by decide +kernel
theorem dX11_lureOf_4 : decode cX11_lureOf 4 = .ok (.iload_n 3, 1) := by decide +kernel
theorem dX11_lureOf_5 : decode cX11_lureOf 5 = .ok (.bipush 100, 2) := by decide +kernel
theorem dX11_lureOf_7 : decode cX11_lureOf 7 = .ok (.if_icmp .gt 30, 3) := by decide +kernel
theorem dX11_lureOf_10 : decode cX11_lureOf 10 = .ok (.aload_n 0, 1) := by decide +kernel
theorem dX11_lureOf_11 : decode cX11_lureOf 11 = .ok (.iload_n 1, 1) := by decide +kernel
theorem dX11_lureOf_12 : decode cX11_lureOf 12 = .ok (.iload_n 3, 1) := by decide +kernel
theorem dX11_lureOf_13 : decode cX11_lureOf 13 = .ok (.invokevirtual 179, 3) := by decide +kernel
theorem dX11_lureOf_16 : decode cX11_lureOf 16 = .ok (.aload_n 0, 1) := by decide +kernel
theorem dX11_lureOf_17 : decode cX11_lureOf 17 = .ok (.iload_n 1, 1) := by decide +kernel
theorem dX11_lureOf_18 : decode cX11_lureOf 18 = .ok (.iload_n 2, 1) := by decide +kernel
theorem dX11_lureOf_19 : decode cX11_lureOf 19 = .ok (.invokevirtual 179, 3) := by decide +kernel
theorem dX11_lureOf_22 : decode cX11_lureOf 22 = .ok (.if_icmp .ge 7, 3) := by decide +kernel
theorem dX11_lureOf_25 : decode cX11_lureOf 25 = .ok (.iload_n 3, 1) := by decide +kernel
theorem dX11_lureOf_26 : decode cX11_lureOf 26 = .ok (.goto 4, 3) := by decide +kernel
theorem dX11_lureOf_29 : decode cX11_lureOf 29 = .ok (.iload_n 2, 1) := by decide +kernel
theorem dX11_lureOf_30 : decode cX11_lureOf 30 = .ok (.istore_n 2, 1) := by decide +kernel
theorem dX11_lureOf_31 : decode cX11_lureOf 31 = .ok (.iinc 3 1, 3) := by decide +kernel
theorem dX11_lureOf_34 : decode cX11_lureOf 34 = .ok (.goto (-30), 3) := by decide +kernel
theorem dX11_lureOf_37 : decode cX11_lureOf 37 = .ok (.iload_n 2, 1) := by decide +kernel
theorem dX11_lureOf_38 : decode cX11_lureOf 38 = .ok (.ireturn, 1) := by decide +kernel
theorem dX11_lure_0 : decode cX11_lure 0 = .ok (.iload_n 1, 1) := by decide +kernel
theorem dX11_lure_1 : decode cX11_lure 1 = .ok (.iconst 0, 1) := by decide +kernel
theorem dX11_lure_2 : decode cX11_lure 2 = .ok (.bipush 100, 2) := by decide +kernel
theorem dX11_lure_4 : decode cX11_lure 4 = .ok (.invokestatic 66, 3) := by decide +kernel
theorem dX11_lure_7 : decode cX11_lure 7 = .ok (.ifCond .eq 11, 3) := by decide +kernel
theorem dX11_lure_10 : decode cX11_lure 10 = .ok (.aload_n 0, 1) := by decide +kernel
theorem dX11_lure_11 : decode cX11_lure 11 = .ok (.iload_n 1, 1) := by decide +kernel
theorem dX11_lure_12 : decode cX11_lure 12 = .ok (.invokevirtual 182, 3) := by decide +kernel
theorem dX11_lure_15 : decode cX11_lure 15 = .ok (.goto 5, 3) := by decide +kernel
theorem dX11_lure_18 : decode cX11_lure 18 = .ok (.bipush (-2), 2) := by decide +kernel
theorem dX11_lure_20 : decode cX11_lure 20 = .ok (.ireturn, 1) := by decide +kernel
theorem dX11_honest_0 : decode cX11_honest 0 = .ok (.iconst 0, 1) := by decide +kernel
theorem dX11_honest_1 : decode cX11_honest 1 = .ok (.istore_n 1, 1) := by decide +kernel
theorem dX11_honest_2 : decode cX11_honest 2 = .ok (.iconst 0, 1) := by decide +kernel
theorem dX11_honest_3 : decode cX11_honest 3 = .ok (.istore_n 2, 1) := by decide +kernel
theorem dX11_honest_4 : decode cX11_honest 4 = .ok (.iload_n 2, 1) := by decide +kernel
theorem dX11_honest_5 : decode cX11_honest 5 = .ok (.bipush 100, 2) := by decide +kernel
theorem dX11_honest_7 : decode cX11_honest 7 = .ok (.if_icmp .gt 36, 3) := by decide +kernel
theorem dX11_honest_10 : decode cX11_honest 10 = .ok (.iload_n 1, 1) := by decide +kernel
theorem dX11_honest_11 : decode cX11_honest 11 = .ok (.aload_n 0, 1) := by decide +kernel
theorem dX11_honest_12 : decode cX11_honest 12 = .ok (.iload_n 2, 1) := by decide +kernel
theorem dX11_honest_13 : decode cX11_honest 13 = .ok (.iload_n 2, 1) := by decide +kernel
theorem dX11_honest_14 : decode cX11_honest 14 = .ok (.invokevirtual 179, 3) := by decide +kernel
theorem dX11_honest_17 : decode cX11_honest 17 = .ok (.aload_n 0, 1) := by decide +kernel
theorem dX11_honest_18 : decode cX11_honest 18 = .ok (.iload_n 2, 1) := by decide +kernel
theorem dX11_honest_19 : decode cX11_honest 19 = .ok (.aload_n 0, 1) := by decide +kernel
theorem dX11_honest_20 : decode cX11_honest 20 = .ok (.iload_n 2, 1) := by decide +kernel
theorem dX11_honest_21 : decode cX11_honest 21 = .ok (.invokevirtual 182, 3) := by decide +kernel
theorem dX11_honest_24 : decode cX11_honest 24 = .ok (.invokevirtual 179, 3) := by decide +kernel
theorem dX11_honest_27 : decode cX11_honest 27 = .ok (.if_icmp .ne 7, 3) := by decide +kernel
theorem dX11_honest_30 : decode cX11_honest 30 = .ok (.iconst 1, 1) := by decide +kernel
theorem dX11_honest_31 : decode cX11_honest 31 = .ok (.goto 4, 3) := by decide +kernel
theorem dX11_honest_34 : decode cX11_honest 34 = .ok (.iconst 0, 1) := by decide +kernel
theorem dX11_honest_35 : decode cX11_honest 35 = .ok (.iadd, 1) := by decide +kernel
theorem dX11_honest_36 : decode cX11_honest 36 = .ok (.istore_n 1, 1) := by decide +kernel
theorem dX11_honest_37 : decode cX11_honest 37 = .ok (.iinc 2 1, 3) := by decide +kernel
theorem dX11_honest_40 : decode cX11_honest 40 = .ok (.goto (-36), 3) := by decide +kernel
theorem dX11_honest_43 : decode cX11_honest 43 = .ok (.iload_n 1, 1) := by decide +kernel
theorem dX11_honest_44 : decode cX11_honest 44 = .ok (.ireturn, 1) := by decide +kernel
theorem dX11_cuts_0 : decode cX11_cuts 0 = .ok (.iconst 0, 1) := by decide +kernel
theorem dX11_cuts_1 : decode cX11_cuts 1 = .ok (.istore_n 1, 1) := by decide +kernel
theorem dX11_cuts_2 : decode cX11_cuts 2 = .ok (.iconst 1, 1) := by decide +kernel
theorem dX11_cuts_3 : decode cX11_cuts 3 = .ok (.istore_n 2, 1) := by decide +kernel
theorem dX11_cuts_4 : decode cX11_cuts 4 = .ok (.iload_n 2, 1) := by decide +kernel
theorem dX11_cuts_5 : decode cX11_cuts 5 = .ok (.bipush 100, 2) := by decide +kernel
theorem dX11_cuts_7 : decode cX11_cuts 7 = .ok (.if_icmp .gt 26, 3) := by decide +kernel
theorem dX11_cuts_10 : decode cX11_cuts 10 = .ok (.iload_n 1, 1) := by decide +kernel
theorem dX11_cuts_11 : decode cX11_cuts 11 = .ok (.aload_n 0, 1) := by decide +kernel
theorem dX11_cuts_12 : decode cX11_cuts 12 = .ok (.getfield 32, 3) := by decide +kernel
theorem dX11_cuts_15 : decode cX11_cuts 15 = .ok (.iload_n 2, 1) := by decide +kernel
theorem dX11_cuts_16 : decode cX11_cuts 16 = .ok (.baload, 1) := by decide +kernel
theorem dX11_cuts_17 : decode cX11_cuts 17 = .ok (.ifCond .eq 7, 3) := by decide +kernel
theorem dX11_cuts_20 : decode cX11_cuts 20 = .ok (.iconst 1, 1) := by decide +kernel
theorem dX11_cuts_21 : decode cX11_cuts 21 = .ok (.goto 4, 3) := by decide +kernel
theorem dX11_cuts_24 : decode cX11_cuts 24 = .ok (.iconst 0, 1) := by decide +kernel
theorem dX11_cuts_25 : decode cX11_cuts 25 = .ok (.iadd, 1) := by decide +kernel
theorem dX11_cuts_26 : decode cX11_cuts 26 = .ok (.istore_n 1, 1) := by decide +kernel
theorem dX11_cuts_27 : decode cX11_cuts 27 = .ok (.iinc 2 1, 3) := by decide +kernel
theorem dX11_cuts_30 : decode cX11_cuts 30 = .ok (.goto (-26), 3) := by decide +kernel
theorem dX11_cuts_33 : decode cX11_cuts 33 = .ok (.iload_n 1, 1) := by decide +kernel
theorem dX11_cuts_34 : decode cX11_cuts 34 = .ok (.ireturn, 1) := by decide +kernel
theorem dX11_cut_0 : decode cX11_cut 0 = .ok (.iload_n 1, 1) := by decide +kernel
theorem dX11_cut_1 : decode cX11_cut 1 = .ok (.iconst 1, 1) := by decide +kernel
theorem dX11_cut_2 : decode cX11_cut 2 = .ok (.bipush 100, 2) := by decide +kernel
theorem dX11_cut_4 : decode cX11_cut 4 = .ok (.invokestatic 66, 3) := by decide +kernel
theorem dX11_cut_7 : decode cX11_cut 7 = .ok (.ifCond .ne 6, 3) := by decide +kernel
theorem dX11_cut_10 : decode cX11_cut 10 = .ok (.bipush (-2), 2) := by decide +kernel
theorem dX11_cut_12 : decode cX11_cut 12 = .ok (.ireturn, 1) := by decide +kernel
theorem dX11_cut_13 : decode cX11_cut 13 = .ok (.aload_n 0, 1) := by decide +kernel
theorem dX11_cut_14 : decode cX11_cut 14 = .ok (.getfield 32, 3) := by decide +kernel
theorem dX11_cut_17 : decode cX11_cut 17 = .ok (.iload_n 1, 1) := by decide +kernel
theorem dX11_cut_18 : decode cX11_cut 18 = .ok (.baload, 1) := by decide +kernel
theorem dX11_cut_19 : decode cX11_cut 19 = .ok (.ifCond .ne 15, 3) := by decide +kernel
theorem dX11_cut_22 : decode cX11_cut 22 = .ok (.aload_n 0, 1) := by decide +kernel
theorem dX11_cut_23 : decode cX11_cut 23 = .ok (.invokevirtual 185, 3) := by decide +kernel
theorem dX11_cut_26 : decode cX11_cut 26 = .ok (.bipush 9, 2) := by decide +kernel
theorem dX11_cut_28 : decode cX11_cut 28 = .ok (.if_icmp .ne 6, 3) := by decide +kernel
theorem dX11_cut_31 : decode cX11_cut 31 = .ok (.bipush (-4), 2) := by decide +kernel
theorem dX11_cut_33 : decode cX11_cut 33 = .ok (.ireturn, 1) := by decide +kernel
theorem dX11_cut_34 : decode cX11_cut 34 = .ok (.aload_n 0, 1) := by decide +kernel
theorem dX11_cut_35 : decode cX11_cut 35 = .ok (.getfield 32, 3) := by decide +kernel
theorem dX11_cut_38 : decode cX11_cut 38 = .ok (.iload_n 1, 1) := by decide +kernel
theorem dX11_cut_39 : decode cX11_cut 39 = .ok (.aload_n 0, 1) := by decide +kernel
theorem dX11_cut_40 : decode cX11_cut 40 = .ok (.getfield 32, 3) := by decide +kernel
theorem dX11_cut_43 : decode cX11_cut 43 = .ok (.iload_n 1, 1) := by decide +kernel
theorem dX11_cut_44 : decode cX11_cut 44 = .ok (.baload, 1) := by decide +kernel
theorem dX11_cut_45 : decode cX11_cut 45 = .ok (.ifCond .ne 7, 3) := by decide +kernel
theorem dX11_cut_48 : decode cX11_cut 48 = .ok (.iconst 1, 1) := by decide +kernel
theorem dX11_cut_49 : decode cX11_cut 49 = .ok (.goto 4, 3) := by decide +kernel
theorem dX11_cut_52 : decode cX11_cut 52 = .ok (.iconst 0, 1) := by decide +kernel
theorem dX11_cut_53 : decode cX11_cut 53 = .ok (.bastore, 1) := by decide +kernel
theorem dX11_cut_54 : decode cX11_cut 54 = .ok (.aload_n 0, 1) := by decide +kernel
theorem dX11_cut_55 : decode cX11_cut 55 = .ok (.invokevirtual 185, 3) := by decide +kernel
theorem dX11_cut_58 : decode cX11_cut 58 = .ok (.ireturn, 1) := by decide +kernel
theorem dX11_binOf_0 : decode cX11_binOf 0 = .ok (.iconst 0, 1) := by decide +kernel
theorem dX11_binOf_1 : decode cX11_binOf 1 = .ok (.istore_n 2, 1) := by decide +kernel
theorem dX11_binOf_2 : decode cX11_binOf 2 = .ok (.iconst 1, 1) := by decide +kernel
theorem dX11_binOf_3 : decode cX11_binOf 3 = .ok (.istore_n 3, 1) := by decide +kernel
theorem dX11_binOf_4 : decode cX11_binOf 4 = .ok (.iload_n 3, 1) := by decide +kernel
theorem dX11_binOf_5 : decode cX11_binOf 5 = .ok (.iload_n 1, 1) := by decide +kernel
theorem dX11_binOf_6 : decode cX11_binOf 6 = .ok (.if_icmp .gt 26, 3) := by decide +kernel
theorem dX11_binOf_9 : decode cX11_binOf 9 = .ok (.iload_n 2, 1) := by decide +kernel
theorem dX11_binOf_10 : decode cX11_binOf 10 = .ok (.aload_n 0, 1) := by decide +kernel
theorem dX11_binOf_11 : decode cX11_binOf 11 = .ok (.getfield 32, 3) := by decide +kernel
theorem dX11_binOf_14 : decode cX11_binOf 14 = .ok (.iload_n 3, 1) := by decide +kernel
theorem dX11_binOf_15 : decode cX11_binOf 15 = .ok (.baload, 1) := by decide +kernel
theorem dX11_binOf_16 : decode cX11_binOf 16 = .ok (.ifCond .eq 7, 3) := by decide +kernel
theorem dX11_binOf_19 : decode cX11_binOf 19 = .ok (.iconst 1, 1) := by decide +kernel
theorem dX11_binOf_20 : decode cX11_binOf 20 = .ok (.goto 4, 3) := by decide +kernel
theorem dX11_binOf_23 : decode cX11_binOf 23 = .ok (.iconst 0, 1) := by decide +kernel
theorem dX11_binOf_24 : decode cX11_binOf 24 = .ok (.iadd, 1) := by decide +kernel
theorem dX11_binOf_25 : decode cX11_binOf 25 = .ok (.istore_n 2, 1) := by decide +kernel
theorem dX11_binOf_26 : decode cX11_binOf 26 = .ok (.iinc 3 1, 3) := by decide +kernel
theorem dX11_binOf_29 : decode cX11_binOf 29 = .ok (.goto (-25), 3) := by decide +kernel
theorem dX11_binOf_32 : decode cX11_binOf 32 = .ok (.iload_n 2, 1) := by decide +kernel
theorem dX11_binOf_33 : decode cX11_binOf 33 = .ok (.ireturn, 1) := by decide +kernel
theorem dX11_counts_0 : decode cX11_counts 0 = .ok (.iconst 0, 1) := by decide +kernel
theorem dX11_counts_1 : decode cX11_counts 1 = .ok (.istore_n 2, 1) := by decide +kernel
theorem dX11_counts_2 : decode cX11_counts 2 = .ok (.iload_n 2, 1) := by decide +kernel
theorem dX11_counts_3 : decode cX11_counts 3 = .ok (.bipush 10, 2) := by decide +kernel
theorem dX11_counts_5 : decode cX11_counts 5 = .ok (.if_icmp .ge 44, 3) := by decide +kernel
theorem dX11_counts_8 : decode cX11_counts 8 = .ok (.aload_n 0, 1) := by decide +kernel
theorem dX11_counts_9 : decode cX11_counts 9 = .ok (.getfield 36, 3) := by decide +kernel
theorem dX11_counts_12 : decode cX11_counts 12 = .ok (.iload_n 2, 1) := by decide +kernel
theorem dX11_counts_13 : decode cX11_counts 13 = .ok (.iconst 0, 1) := by decide +kernel
theorem dX11_counts_14 : decode cX11_counts 14 = .ok (.iastore, 1) := by decide +kernel
theorem dX11_counts_15 : decode cX11_counts 15 = .ok (.aload_n 0, 1) := by decide +kernel
theorem dX11_counts_16 : decode cX11_counts 16 = .ok (.getfield 39, 3) := by decide +kernel
theorem dX11_counts_19 : decode cX11_counts 19 = .ok (.iload_n 2, 1) := by decide +kernel
theorem dX11_counts_20 : decode cX11_counts 20 = .ok (.iconst 0, 1) := by decide +kernel
theorem dX11_counts_21 : decode cX11_counts 21 = .ok (.iastore, 1) := by decide +kernel
theorem dX11_counts_22 : decode cX11_counts 22 = .ok (.aload_n 0, 1) := by decide +kernel
theorem dX11_counts_23 : decode cX11_counts 23 = .ok (.getfield 42, 3) := by decide +kernel
theorem dX11_counts_26 : decode cX11_counts 26 = .ok (.iload_n 2, 1) := by decide +kernel
theorem dX11_counts_27 : decode cX11_counts 27 = .ok (.iconst 0, 1) := by decide +kernel
theorem dX11_counts_28 : decode cX11_counts 28 = .ok (.iastore, 1) := by decide +kernel
theorem dX11_counts_29 : decode cX11_counts 29 = .ok (.aload_n 0, 1) := by decide +kernel
theorem dX11_counts_30 : decode cX11_counts 30 = .ok (.getfield 45, 3) := by decide +kernel
theorem dX11_counts_33 : decode cX11_counts 33 = .ok (.iload_n 2, 1) := by decide +kernel
theorem dX11_counts_34 : decode cX11_counts 34 = .ok (.iconst 0, 1) := by decide +kernel
theorem dX11_counts_35 : decode cX11_counts 35 = .ok (.iastore, 1) := by decide +kernel
theorem dX11_counts_36 : decode cX11_counts 36 = .ok (.aload_n 0, 1) := by decide +kernel
theorem dX11_counts_37 : decode cX11_counts 37 = .ok (.getfield 48, 3) := by decide +kernel
theorem dX11_counts_40 : decode cX11_counts 40 = .ok (.iload_n 2, 1) := by decide +kernel
theorem dX11_counts_41 : decode cX11_counts 41 = .ok (.iconst 0, 1) := by decide +kernel
theorem dX11_counts_42 : decode cX11_counts 42 = .ok (.iastore, 1) := by decide +kernel
theorem dX11_counts_43 : decode cX11_counts 43 = .ok (.iinc 2 1, 3) := by decide +kernel
theorem dX11_counts_46 : decode cX11_counts 46 = .ok (.goto (-44), 3) := by decide +kernel
theorem dX11_counts_49 : decode cX11_counts 49 = .ok (.aload_n 0, 1) := by decide +kernel
theorem dX11_counts_50 : decode cX11_counts 50 = .ok (.iconst 0, 1) := by decide +kernel
theorem dX11_counts_51 : decode cX11_counts 51 = .ok (.putfield 188, 3) := by decide +kernel
theorem dX11_counts_54 : decode cX11_counts 54 = .ok (.aload_n 0, 1) := by decide +kernel
theorem dX11_counts_55 : decode cX11_counts 55 = .ok (.iconst 0, 1) := by decide +kernel
theorem dX11_counts_56 : decode cX11_counts 56 = .ok (.putfield 191, 3) := by decide +kernel
theorem dX11_counts_59 : decode cX11_counts 59 = .ok (.iconst 0, 1) := by decide +kernel
theorem dX11_counts_60 : decode cX11_counts 60 = .ok (.istore_n 2, 1) := by decide +kernel
theorem dX11_counts_61 : decode cX11_counts 61 = .ok (.iload_n 2, 1) := by decide +kernel
theorem dX11_counts_62 : decode cX11_counts 62 = .ok (.bipush 40, 2) := by decide +kernel
theorem dX11_counts_64 : decode cX11_counts 64 = .ok (.if_icmp .ge 131, 3) := by decide +kernel
theorem dX11_counts_67 : decode cX11_counts 67 = .ok (.aload_n 0, 1) := by decide +kernel
theorem dX11_counts_68 : decode cX11_counts 68 = .ok (.iload_n 1, 1) := by decide +kernel
theorem dX11_counts_69 : decode cX11_counts 69 = .ok (.iload_n 2, 1) := by decide +kernel
theorem dX11_counts_70 : decode cX11_counts 70 = .ok (.invokevirtual 153, 3) := by decide +kernel
theorem dX11_counts_73 : decode cX11_counts 73 = .ok (.ifCond .eq 116, 3) := by decide +kernel
theorem dX11_counts_76 : decode cX11_counts 76 = .ok (.aload_n 0, 1) := by decide +kernel
theorem dX11_counts_77 : decode cX11_counts 77 = .ok (.iload_n 1, 1) := by decide +kernel
theorem dX11_counts_78 : decode cX11_counts 78 = .ok (.iload_n 2, 1) := by decide +kernel
theorem dX11_counts_79 : decode cX11_counts 79 = .ok (.invokevirtual 84, 3) := by decide +kernel
theorem dX11_counts_82 : decode cX11_counts 82 = .ok (.istore_n 3, 1) := by decide +kernel
theorem dX11_counts_83 : decode cX11_counts 83 = .ok (.aload_n 0, 1) := by decide +kernel
theorem dX11_counts_84 : decode cX11_counts 84 = .ok (.getfield 13, 3) := by decide +kernel
theorem dX11_counts_87 : decode cX11_counts 87 = .ok (.iload_n 2, 1) := by decide +kernel
theorem dX11_counts_88 : decode cX11_counts 88 = .ok (.iaload, 1) := by decide +kernel
theorem dX11_counts_89 : decode cX11_counts 89 = .ok (.iconst 1, 1) := by decide +kernel
theorem dX11_counts_90 : decode cX11_counts 90 = .ok (.if_icmp .ne 7, 3) := by decide +kernel
theorem dX11_counts_93 : decode cX11_counts 93 = .ok (.iconst 1, 1) := by decide +kernel
theorem dX11_counts_94 : decode cX11_counts 94 = .ok (.goto 4, 3) := by decide +kernel
theorem dX11_counts_97 : decode cX11_counts 97 = .ok (.iconst 0, 1) := by decide +kernel
theorem dX11_counts_98 : decode cX11_counts 98 = .ok (.istore 4, 2) := by decide +kernel
theorem dX11_counts_100 : decode cX11_counts 100 = .ok (.aload_n 0, 1) := by decide +kernel
theorem dX11_counts_101 : decode cX11_counts 101 = .ok (.iload_n 3, 1) := by decide +kernel
theorem dX11_counts_102 : decode cX11_counts 102 = .ok (.invokevirtual 194, 3) := by decide +kernel
theorem dX11_counts_105 : decode cX11_counts 105 = .ok (.istore 5, 2) := by decide +kernel
theorem dX11_counts_107 : decode cX11_counts 107 = .ok (.aload_n 0, 1) := by decide +kernel
theorem dX11_counts_108 : decode cX11_counts 108 = .ok (.getfield 36, 3) := by decide +kernel
theorem dX11_counts_111 : decode cX11_counts 111 = .ok (.iload 5, 2) := by decide +kernel
theorem dX11_counts_113 : decode cX11_counts 113 = .ok (.dup2, 1) := by decide +kernel
theorem dX11_counts_114 : decode cX11_counts 114 = .ok (.iaload, 1) := by decide +kernel
theorem dX11_counts_115 : decode cX11_counts 115 = .ok (.iconst 1, 1) := by decide +kernel
theorem dX11_counts_116 : decode cX11_counts 116 = .ok (.iadd, 1) := by decide +kernel
theorem dX11_counts_117 : decode cX11_counts 117 = .ok (.iastore, 1) := by decide +kernel
theorem dX11_counts_118 : decode cX11_counts 118 = .ok (.aload_n 0, 1) := by decide +kernel
theorem dX11_counts_119 : decode cX11_counts 119 = .ok (.getfield 39, 3) := by decide +kernel
theorem dX11_counts_122 : decode cX11_counts 122 = .ok (.iload 5, 2) := by decide +kernel
theorem dX11_counts_124 : decode cX11_counts 124 = .ok (.dup2, 1) := by decide +kernel
theorem dX11_counts_125 : decode cX11_counts 125 = .ok (.iaload, 1) := by decide +kernel
theorem dX11_counts_126 : decode cX11_counts 126 = .ok (.iload 4, 2) := by decide +kernel
theorem dX11_counts_128 : decode cX11_counts 128 = .ok (.iadd, 1) := by decide +kernel
theorem dX11_counts_129 : decode cX11_counts 129 = .ok (.iastore, 1) := by decide +kernel
theorem dX11_counts_130 : decode cX11_counts 130 = .ok (.aload_n 0, 1) := by decide +kernel
theorem dX11_counts_131 : decode cX11_counts 131 = .ok (.getfield 42, 3) := by decide +kernel
theorem dX11_counts_134 : decode cX11_counts 134 = .ok (.iload 5, 2) := by decide +kernel
theorem dX11_counts_136 : decode cX11_counts 136 = .ok (.dup2, 1) := by decide +kernel
theorem dX11_counts_137 : decode cX11_counts 137 = .ok (.iaload, 1) := by decide +kernel
theorem dX11_counts_138 : decode cX11_counts 138 = .ok (.iload_n 3, 1) := by decide +kernel
theorem dX11_counts_139 : decode cX11_counts 139 = .ok (.iadd, 1) := by decide +kernel
theorem dX11_counts_140 : decode cX11_counts 140 = .ok (.iastore, 1) := by decide +kernel
theorem dX11_counts_141 : decode cX11_counts 141 = .ok (.aload_n 0, 1) := by decide +kernel
theorem dX11_counts_142 : decode cX11_counts 142 = .ok (.getfield 45, 3) := by decide +kernel
theorem dX11_counts_145 : decode cX11_counts 145 = .ok (.iload 5, 2) := by decide +kernel
theorem dX11_counts_147 : decode cX11_counts 147 = .ok (.dup2, 1) := by decide +kernel
theorem dX11_counts_148 : decode cX11_counts 148 = .ok (.iaload, 1) := by decide +kernel
theorem dX11_counts_149 : decode cX11_counts 149 = .ok (.iload_n 3, 1) := by decide +kernel
theorem dX11_counts_150 : decode cX11_counts 150 = .ok (.iload_n 3, 1) := by decide +kernel
theorem dX11_counts_151 : decode cX11_counts 151 = .ok (.imul, 1) := by decide +kernel
theorem dX11_counts_152 : decode cX11_counts 152 = .ok (.iadd, 1) := by decide +kernel
theorem dX11_counts_153 : decode cX11_counts 153 = .ok (.iastore, 1) := by decide +kernel
theorem dX11_counts_154 : decode cX11_counts 154 = .ok (.aload_n 0, 1) := by decide +kernel
theorem dX11_counts_155 : decode cX11_counts 155 = .ok (.getfield 48, 3) := by decide +kernel
theorem dX11_counts_158 : decode cX11_counts 158 = .ok (.iload 5, 2) := by decide +kernel
theorem dX11_counts_160 : decode cX11_counts 160 = .ok (.dup2, 1) := by decide +kernel
theorem dX11_counts_161 : decode cX11_counts 161 = .ok (.iaload, 1) := by decide +kernel
theorem dX11_counts_162 : decode cX11_counts 162 = .ok (.iload_n 3, 1) := by decide +kernel
theorem dX11_counts_163 : decode cX11_counts 163 = .ok (.iload 4, 2) := by decide +kernel
theorem dX11_counts_165 : decode cX11_counts 165 = .ok (.imul, 1) := by decide +kernel
theorem dX11_counts_166 : decode cX11_counts 166 = .ok (.iadd, 1) := by decide +kernel
theorem dX11_counts_167 : decode cX11_counts 167 = .ok (.iastore, 1) := by decide +kernel
theorem dX11_counts_168 : decode cX11_counts 168 = .ok (.aload_n 0, 1) := by decide +kernel
