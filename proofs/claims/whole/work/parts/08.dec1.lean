theorem dX4_sharedBy_0 : decode cX4_sharedBy 0 = .ok (.lload_n 0, 1) := by decide +kernel
theorem dX4_sharedBy_1 : decode cX4_sharedBy 1 = .ok (.lstore 4, 2) := by decide +kernel
theorem dX4_sharedBy_3 : decode cX4_sharedBy 3 = .ok (.lload_n 2, 1) := by decide +kernel
theorem dX4_sharedBy_4 : decode cX4_sharedBy 4 = .ok (.lstore 6, 2) := by decide +kernel
theorem dX4_sharedBy_6 : decode cX4_sharedBy 6 = .ok (.iconst 0, 1) := by decide +kernel
theorem dX4_sharedBy_7 : decode cX4_sharedBy 7 = .ok (.istore 8, 2) := by decide +kernel
theorem dX4_sharedBy_9 : decode cX4_sharedBy 9 = .ok (.iload 8, 2) := by decide +kernel
theorem dX4_sharedBy_11 : decode cX4_sharedBy 11 = .ok (.bipush 100, 2) := by decide +kernel
theorem dX4_sharedBy_13 : decode cX4_sharedBy 13 = .ok (.if_icmp .ge 31, 3) := by decide +kernel
theorem dX4_sharedBy_16 : decode cX4_sharedBy 16 = .ok (.lload 6, 2) := by decide +kernel
theorem dX4_sharedBy_18 : decode cX4_sharedBy 18 = .ok (.lconst 0, 1) := by decide +kernel
theorem dX4_sharedBy_19 : decode cX4_sharedBy 19 = .ok (.lcmp, 1) := by decide +kernel
theorem dX4_sharedBy_20 : decode cX4_sharedBy 20 = .ok (.ifCond .eq 24, 3) := by decide +kernel
theorem dX4_sharedBy_23 : decode cX4_sharedBy 23 = .ok (.lload 4, 2) := by decide +kernel
theorem dX4_sharedBy_25 : decode cX4_sharedBy 25 = .ok (.lload 6, 2) := by decide +kernel
theorem dX4_sharedBy_27 : decode cX4_sharedBy 27 = .ok (.lrem, 1) := by decide +kernel
theorem dX4_sharedBy_28 : decode cX4_sharedBy 28 = .ok (.lstore 9, 2) := by decide +kernel
theorem dX4_sharedBy_30 : decode cX4_sharedBy 30 = .ok (.lload 6, 2) := by decide +kernel
theorem dX4_sharedBy_32 : decode cX4_sharedBy 32 = .ok (.lstore 4, 2) := by decide +kernel
theorem dX4_sharedBy_34 : decode cX4_sharedBy 34 = .ok (.lload 9, 2) := by decide +kernel
theorem dX4_sharedBy_36 : decode cX4_sharedBy 36 = .ok (.lstore 6, 2) := by decide +kernel
theorem dX4_sharedBy_38 : decode cX4_sharedBy 38 = .ok (.iinc 8 1, 3) := by decide +kernel
theorem dX4_sharedBy_41 : decode cX4_sharedBy 41 = .ok (.goto (-32), 3) := by decide +kernel
theorem dX4_sharedBy_44 : decode cX4_sharedBy 44 = .ok (.lload 4, 2) := by decide +kernel
theorem dX4_sharedBy_46 : decode cX4_sharedBy 46 = .ok (.lreturn, 1) := by decide +kernel
theorem dX4_become_0 : decode cX4_become 0 = .ok (.lload_n 1, 1) := by decide +kernel
theorem dX4_become_1 : decode cX4_become 1 = .ok (.invokestatic 16, 3) := by decide +kernel
theorem dX4_become_4 : decode cX4_become 4 = .ok (.lload_n 3, 1) := by decide +kernel
theorem dX4_become_5 : decode cX4_become 5 = .ok (.invokestatic 22, 3) := by decide +kernel
theorem dX4_become_8 : decode cX4_become 8 = .ok (.lstore 5, 2) := by decide +kernel
theorem dX4_become_10 : decode cX4_become 10 = .ok (.lload_n 3, 1) := by decide +kernel
theorem dX4_become_11 : decode cX4_become 11 = .ok (.lconst 0, 1) := by decide +kernel
theorem dX4_become_12 : decode cX4_become 12 = .ok (.lcmp, 1) := by decide +kernel
theorem dX4_become_13 : decode cX4_become 13 = .ok (.ifCond .le 26, 3) := by decide +kernel
theorem dX4_become_16 : decode cX4_become 16 = .ok (.lload 5, 2) := by decide +kernel
theorem dX4_become_18 : decode cX4_become 18 = .ok (.lconst 0, 1) := by decide +kernel
theorem dX4_become_19 : decode cX4_become 19 = .ok (.lcmp, 1) := by decide +kernel
theorem dX4_become_20 : decode cX4_become 20 = .ok (.ifCond .le 19, 3) := by decide +kernel
theorem dX4_become_23 : decode cX4_become 23 = .ok (.aload_n 0, 1) := by decide +kernel
theorem dX4_become_24 : decode cX4_become 24 = .ok (.lload_n 1, 1) := by decide +kernel
theorem dX4_become_25 : decode cX4_become 25 = .ok (.lload 5, 2) := by decide +kernel
theorem dX4_become_27 : decode cX4_become 27 = .ok (.ldiv, 1) := by decide +kernel
theorem dX4_become_28 : decode cX4_become 28 = .ok (.putfield 7, 3) := by decide +kernel
theorem dX4_become_31 : decode cX4_become 31 = .ok (.aload_n 0, 1) := by decide +kernel
theorem dX4_become_32 : decode cX4_become 32 = .ok (.lload_n 3, 1) := by decide +kernel
theorem dX4_become_33 : decode cX4_become 33 = .ok (.lload 5, 2) := by decide +kernel
theorem dX4_become_35 : decode cX4_become 35 = .ok (.ldiv, 1) := by decide +kernel
theorem dX4_become_36 : decode cX4_become 36 = .ok (.putfield 13, 3) := by decide +kernel
theorem dX4_become_39 : decode cX4_become 39 = .ok (.return_, 1) := by decide +kernel
theorem dX4_add_0 : decode cX4_add 0 = .ok (.aload_n 0, 1) := by decide +kernel
theorem dX4_add_1 : decode cX4_add 1 = .ok (.getfield 13, 3) := by decide +kernel
theorem dX4_add_4 : decode cX4_add 4 = .ok (.lload_n 3, 1) := by decide +kernel
theorem dX4_add_5 : decode cX4_add 5 = .ok (.invokestatic 22, 3) := by decide +kernel
theorem dX4_add_8 : decode cX4_add 8 = .ok (.lstore 5, 2) := by decide +kernel
theorem dX4_add_10 : decode cX4_add 10 = .ok (.lload 5, 2) := by decide +kernel
theorem dX4_add_12 : decode cX4_add 12 = .ok (.lconst 0, 1) := by decide +kernel
theorem dX4_add_13 : decode cX4_add 13 = .ok (.lcmp, 1) := by decide +kernel
theorem dX4_add_14 : decode cX4_add 14 = .ok (.ifCond .le 37, 3) := by decide +kernel
theorem dX4_add_17 : decode cX4_add 17 = .ok (.lload_n 3, 1) := by decide +kernel
theorem dX4_add_18 : decode cX4_add 18 = .ok (.lload 5, 2) := by decide +kernel
theorem dX4_add_20 : decode cX4_add 20 = .ok (.ldiv, 1) := by decide +kernel
theorem dX4_add_21 : decode cX4_add 21 = .ok (.lstore 7, 2) := by decide +kernel
theorem dX4_add_23 : decode cX4_add 23 = .ok (.aload_n 0, 1) := by decide +kernel
theorem dX4_add_24 : decode cX4_add 24 = .ok (.aload_n 0, 1) := by decide +kernel
theorem dX4_add_25 : decode cX4_add 25 = .ok (.getfield 7, 3) := by decide +kernel
theorem dX4_add_28 : decode cX4_add 28 = .ok (.lload 7, 2) := by decide +kernel
theorem dX4_add_30 : decode cX4_add 30 = .ok (.lmul, 1) := by decide +kernel
theorem dX4_add_31 : decode cX4_add 31 = .ok (.lload_n 1, 1) := by decide +kernel
theorem dX4_add_32 : decode cX4_add 32 = .ok (.aload_n 0, 1) := by decide +kernel
theorem dX4_add_33 : decode cX4_add 33 = .ok (.getfield 13, 3) := by decide +kernel
theorem dX4_add_36 : decode cX4_add 36 = .ok (.lload 5, 2) := by decide +kernel
theorem dX4_add_38 : decode cX4_add 38 = .ok (.ldiv, 1) := by decide +kernel
theorem dX4_add_39 : decode cX4_add 39 = .ok (.lmul, 1) := by decide +kernel
theorem dX4_add_40 : decode cX4_add 40 = .ok (.ladd, 1) := by decide +kernel
theorem dX4_add_41 : decode cX4_add 41 = .ok (.aload_n 0, 1) := by decide +kernel
theorem dX4_add_42 : decode cX4_add 42 = .ok (.getfield 13, 3) := by decide +kernel
theorem dX4_add_45 : decode cX4_add 45 = .ok (.lload 7, 2) := by decide +kernel
theorem dX4_add_47 : decode cX4_add 47 = .ok (.lmul, 1) := by decide +kernel
theorem dX4_add_48 : decode cX4_add 48 = .ok (.invokevirtual 26, 3) := by decide +kernel
theorem dX4_add_51 : decode cX4_add 51 = .ok (.return_, 1) := by decide +kernel
theorem dX4_divideBy_0 : decode cX4_divideBy 0 = .ok (.aload_n 0, 1) := by decide +kernel
theorem dX4_divideBy_1 : decode cX4_divideBy 1 = .ok (.aload_n 0, 1) := by decide +kernel
theorem dX4_divideBy_2 : decode cX4_divideBy 2 = .ok (.getfield 7, 3) := by decide +kernel
theorem dX4_divideBy_5 : decode cX4_divideBy 5 = .ok (.aload_n 0, 1) := by decide +kernel
theorem dX4_divideBy_6 : decode cX4_divideBy 6 = .ok (.getfield 13, 3) := by decide +kernel
theorem dX4_divideBy_9 : decode cX4_divideBy 9 = .ok (.lload_n 1, 1) := by decide +kernel
theorem dX4_divideBy_10 : decode cX4_divideBy 10 = .ok (.lmul, 1) := by decide +kernel
theorem dX4_divideBy_11 : decode cX4_divideBy 11 = .ok (.invokevirtual 26, 3) := by decide +kernel
theorem dX4_divideBy_14 : decode cX4_divideBy 14 = .ok (.return_, 1) := by decide +kernel
theorem dX1_swapChance_0 : decode cX1_swapChance 0 = .ok (.aload_n 0, 1) := by decide +kernel
theorem dX1_swapChance_1 : decode cX1_swapChance 1 = .ok (.getfield 9, 3) := by decide +kernel
theorem dX1_swapChance_4 : decode cX1_swapChance 4 = .ok (.iload_n 1, 1) := by decide +kernel
theorem dX1_swapChance_5 : decode cX1_swapChance 5 = .ok (.bipush 40, 2) := by decide +kernel
theorem dX1_swapChance_7 : decode cX1_swapChance 7 = .ok (.imul, 1) := by decide +kernel
theorem dX1_swapChance_8 : decode cX1_swapChance 8 = .ok (.iload_n 2, 1) := by decide +kernel
theorem dX1_swapChance_9 : decode cX1_swapChance 9 = .ok (.iadd, 1) := by decide +kernel
theorem dX1_swapChance_10 : decode cX1_swapChance 10 = .ok (.iaload, 1) := by decide +kernel
theorem dX1_swapChance_11 : decode cX1_swapChance 11 = .ok (.istore 4, 2) := by decide +kernel
theorem dX1_swapChance_13 : decode cX1_swapChance 13 = .ok (.aload_n 0, 1) := by decide +kernel
theorem dX1_swapChance_14 : decode cX1_swapChance 14 = .ok (.getfield 9, 3) := by decide +kernel
theorem dX1_swapChance_17 : decode cX1_swapChance 17 = .ok (.iload_n 1, 1) := by decide +kernel
theorem dX1_swapChance_18 : decode cX1_swapChance 18 = .ok (.bipush 40, 2) := by decide +kernel
theorem dX1_swapChance_20 : decode cX1_swapChance 20 = .ok (.imul, 1) := by decide +kernel
theorem dX1_swapChance_21 : decode cX1_swapChance 21 = .ok (.iload_n 2, 1) := by decide +kernel
theorem dX1_swapChance_22 : decode cX1_swapChance 22 = .ok (.iadd, 1) := by decide +kernel
theorem dX1_swapChance_23 : decode cX1_swapChance 23 = .ok (.iload_n 3, 1) := by decide +kernel
theorem dX1_swapChance_24 : decode cX1_swapChance 24 = .ok (.iastore, 1) := by decide +kernel
theorem dX1_swapChance_25 : decode cX1_swapChance 25 = .ok (.iload 4, 2) := by decide +kernel
theorem dX1_swapChance_27 : decode cX1_swapChance 27 = .ok (.ireturn, 1) := by decide +kernel
theorem dX1_swapState_0 : decode cX1_swapState 0 = .ok (.aload_n 0, 1) := by decide +kernel
theorem dX1_swapState_1 : decode cX1_swapState 1 = .ok (.getfield 18, 3) := by decide +kernel
theorem dX1_swapState_4 : decode cX1_swapState 4 = .ok (.iload_n 1, 1) := by decide +kernel
theorem dX1_swapState_5 : decode cX1_swapState 5 = .ok (.iaload, 1) := by decide +kernel
theorem dX1_swapState_6 : decode cX1_swapState 6 = .ok (.istore_n 3, 1) := by decide +kernel
theorem dX1_swapState_7 : decode cX1_swapState 7 = .ok (.aload_n 0, 1) := by decide +kernel
theorem dX1_swapState_8 : decode cX1_swapState 8 = .ok (.getfield 18, 3) := by decide +kernel
theorem dX1_swapState_11 : decode cX1_swapState 11 = .ok (.iload_n 1, 1) := by decide +kernel
theorem dX1_swapState_12 : decode cX1_swapState 12 = .ok (.iload_n 2, 1) := by decide +kernel
theorem dX1_swapState_13 : decode cX1_swapState 13 = .ok (.iastore, 1) := by decide +kernel
theorem dX1_swapState_14 : decode cX1_swapState 14 = .ok (.iload_n 3, 1) := by decide +kernel
theorem dX1_swapState_15 : decode cX1_swapState 15 = .ok (.ireturn, 1) := by decide +kernel
theorem dX1_swapWeight_0 : decode cX1_swapWeight 0 = .ok (.aload_n 0, 1) := by decide +kernel
theorem dX1_swapWeight_1 : decode cX1_swapWeight 1 = .ok (.getfield 15, 3) := by decide +kernel
theorem dX1_swapWeight_4 : decode cX1_swapWeight 4 = .ok (.iload_n 1, 1) := by decide +kernel
theorem dX1_swapWeight_5 : decode cX1_swapWeight 5 = .ok (.iaload, 1) := by decide +kernel
theorem dX1_swapWeight_6 : decode cX1_swapWeight 6 = .ok (.istore_n 3, 1) := by decide +kernel
theorem dX1_swapWeight_7 : decode cX1_swapWeight 7 = .ok (.aload_n 0, 1) := by decide +kernel
theorem dX1_swapWeight_8 : decode cX1_swapWeight 8 = .ok (.getfield 15, 3) := by decide +kernel
theorem dX1_swapWeight_11 : decode cX1_swapWeight 11 = .ok (.iload_n 1, 1) := by decide +kernel
theorem dX1_swapWeight_12 : decode cX1_swapWeight 12 = .ok (.iload_n 2, 1) := by decide +kernel
theorem dX1_swapWeight_13 : decode cX1_swapWeight 13 = .ok (.iastore, 1) := by decide +kernel
theorem dX1_swapWeight_14 : decode cX1_swapWeight 14 = .ok (.iload_n 3, 1) := by decide +kernel
theorem dX1_swapWeight_15 : decode cX1_swapWeight 15 = .ok (.ireturn, 1) := by decide +kernel
theorem dX1_mixedChance_0 : decode cX1_mixedChance 0 = .ok (.iconst 0, 1) := by decide +kernel
theorem dX1_mixedChance_1 : decode cX1_mixedChance 1 = .ok (.istore_n 2, 1) := by decide +kernel
theorem dX1_mixedChance_2 : decode cX1_mixedChance 2 = .ok (.iconst 0, 1) := by decide +kernel
theorem dX1_mixedChance_3 : decode cX1_mixedChance 3 = .ok (.istore_n 3, 1) := by decide +kernel
theorem dX1_mixedChance_4 : decode cX1_mixedChance 4 = .ok (.iconst 0, 1) := by decide +kernel
theorem dX1_mixedChance_5 : decode cX1_mixedChance 5 = .ok (.istore 4, 2) := by decide +kernel
theorem dX1_mixedChance_7 : decode cX1_mixedChance 7 = .ok (.iload 4, 2) := by decide +kernel
theorem dX1_mixedChance_9 : decode cX1_mixedChance 9 = .ok (.iconst 4, 1) := by decide +kernel
theorem dX1_mixedChance_10 : decode cX1_mixedChance 10 = .ok (.if_icmp .ge 53, 3) := by decide +kernel
theorem dX1_mixedChance_13 : decode cX1_mixedChance 13 = .ok (.aload_n 0, 1) := by decide +kernel
theorem dX1_mixedChance_14 : decode cX1_mixedChance 14 = .ok (.getfield 9, 3) := by decide +kernel
theorem dX1_mixedChance_17 : decode cX1_mixedChance 17 = .ok (.iload 4, 2) := by decide +kernel
theorem dX1_mixedChance_19 : decode cX1_mixedChance 19 = .ok (.bipush 40, 2) := by decide +kernel
theorem dX1_mixedChance_21 : decode cX1_mixedChance 21 = .ok (.imul, 1) := by decide +kernel
theorem dX1_mixedChance_22 : decode cX1_mixedChance 22 = .ok (.iload_n 1, 1) := by decide +kernel
theorem dX1_mixedChance_23 : decode cX1_mixedChance 23 = .ok (.iadd, 1) := by decide +kernel
theorem dX1_mixedChance_24 : decode cX1_mixedChance 24 = .ok (.iaload, 1) := by decide +kernel
theorem dX1_mixedChance_25 : decode cX1_mixedChance 25 = .ok (.istore 5, 2) := by decide +kernel
theorem dX1_mixedChance_27 : decode cX1_mixedChance 27 = .ok (.iload 5, 2) := by decide +kernel
theorem dX1_mixedChance_29 : decode cX1_mixedChance 29 = .ok (.bipush (-9), 2) := by decide +kernel
theorem dX1_mixedChance_31 : decode cX1_mixedChance 31 = .ok (.if_icmp .eq 26, 3) := by decide +kernel
theorem dX1_mixedChance_34 : decode cX1_mixedChance 34 = .ok (.iload_n 2, 1) := by decide +kernel
theorem dX1_mixedChance_35 : decode cX1_mixedChance 35 = .ok (.aload_n 0, 1) := by decide +kernel
theorem dX1_mixedChance_36 : decode cX1_mixedChance 36 = .ok (.getfield 15, 3) := by decide +kernel
theorem dX1_mixedChance_39 : decode cX1_mixedChance 39 = .ok (.iload 4, 2) := by decide +kernel
theorem dX1_mixedChance_41 : decode cX1_mixedChance 41 = .ok (.iaload, 1) := by decide +kernel
theorem dX1_mixedChance_42 : decode cX1_mixedChance 42 = .ok (.iload 5, 2) := by decide +kernel
theorem dX1_mixedChance_44 : decode cX1_mixedChance 44 = .ok (.imul, 1) := by decide +kernel
theorem dX1_mixedChance_45 : decode cX1_mixedChance 45 = .ok (.iadd, 1) := by decide +kernel
theorem dX1_mixedChance_46 : decode cX1_mixedChance 46 = .ok (.istore_n 2, 1) := by decide +kernel
theorem dX1_mixedChance_47 : decode cX1_mixedChance 47 = .ok (.iload_n 3, 1) := by decide +kernel
theorem dX1_mixedChance_48 : decode cX1_mixedChance 48 = .ok (.aload_n 0, 1) := by decide +kernel
theorem dX1_mixedChance_49 : decode cX1_mixedChance 49 = .ok (.getfield 15, 3) := by decide +kernel
theorem dX1_mixedChance_52 : decode cX1_mixedChance 52 = .ok (.iload 4, 2) := by decide +kernel
theorem dX1_mixedChance_54 : decode cX1_mixedChance 54 = .ok (.iaload, 1) := by decide +kernel
theorem dX1_mixedChance_55 : decode cX1_mixedChance 55 = .ok (.iadd, 1) := by decide +kernel
theorem dX1_mixedChance_56 : decode cX1_mixedChance 56 = .ok (.istore_n 3, 1) := by decide +kernel
theorem dX1_mixedChance_57 : decode cX1_mixedChance 57 = .ok (.iinc 4 1, 3) := by decide +kernel
theorem dX1_mixedChance_60 : decode cX1_mixedChance 60 = .ok (.goto (-53), 3) := by decide +kernel
theorem dX1_mixedChance_63 : decode cX1_mixedChance 63 = .ok (.iload_n 3, 1) := by decide +kernel
theorem dX1_mixedChance_64 : decode cX1_mixedChance 64 = .ok (.ifCond .ne 6, 3) := by decide +kernel
theorem dX1_mixedChance_67 : decode cX1_mixedChance 67 = .ok (.bipush (-9), 2) := by decide +kernel
theorem dX1_mixedChance_69 : decode cX1_mixedChance 69 = .ok (.ireturn, 1) := by decide +kernel
theorem dX1_mixedChance_70 : decode cX1_mixedChance 70 = .ok (.iconst 2, 1) := by decide +kernel
theorem dX1_mixedChance_71 : decode cX1_mixedChance 71 = .ok (.iload_n 2, 1) := by decide +kernel
theorem dX1_mixedChance_72 : decode cX1_mixedChance 72 = .ok (.imul, 1) := by decide +kernel
theorem dX1_mixedChance_73 : decode cX1_mixedChance 73 = .ok (.iload_n 3, 1) := by decide +kernel
theorem dX1_mixedChance_74 : decode cX1_mixedChance 74 = .ok (.iadd, 1) := by decide +kernel
theorem dX1_mixedChance_75 : decode cX1_mixedChance 75 = .ok (.iconst 2, 1) := by decide +kernel
theorem dX1_mixedChance_76 : decode cX1_mixedChance 76 = .ok (.iload_n 3, 1) := by decide +kernel
theorem dX1_mixedChance_77 : decode cX1_mixedChance 77 = .ok (.imul, 1) := by decide +kernel
theorem dX1_mixedChance_78 : decode cX1_mixedChance 78 = .ok (.idiv, 1) := by decide +kernel
theorem dX1_mixedChance_79 : decode cX1_mixedChance 79 = .ok (.ireturn, 1) := by decide +kernel
theorem dX1_chanceOf_0 : decode cX1_chanceOf 0 = .ok (.iload_n 1, 1) := by decide +kernel
theorem dX1_chanceOf_1 : decode cX1_chanceOf 1 = .ok (.iconst 4, 1) := by decide +kernel
theorem dX1_chanceOf_2 : decode cX1_chanceOf 2 = .ok (.if_icmp .ne 11, 3) := by decide +kernel
theorem dX1_chanceOf_5 : decode cX1_chanceOf 5 = .ok (.aload_n 0, 1) := by decide +kernel
theorem dX1_chanceOf_6 : decode cX1_chanceOf 6 = .ok (.iload_n 2, 1) := by decide +kernel
theorem dX1_chanceOf_7 : decode cX1_chanceOf 7 = .ok (.invokevirtual 21, 3) := by decide +kernel
theorem dX1_chanceOf_10 : decode cX1_chanceOf 10 = .ok (.goto 14, 3) := by decide +kernel
theorem dX1_chanceOf_13 : decode cX1_chanceOf 13 = .ok (.aload_n 0, 1) := by decide +kernel
theorem dX1_chanceOf_14 : decode cX1_chanceOf 14 = .ok (.getfield 9, 3) := by decide +kernel
theorem dX1_chanceOf_17 : decode cX1_chanceOf 17 = .ok (.iload_n 1, 1) := by decide +kernel
theorem dX1_chanceOf_18 : decode cX1_chanceOf 18 = .ok (.bipush 40, 2) := by decide +kernel
theorem dX1_chanceOf_20 : decode cX1_chanceOf 20 = .ok (.imul, 1) := by decide +kernel
theorem dX1_chanceOf_21 : decode cX1_chanceOf 21 = .ok (.iload_n 2, 1) := by decide +kernel
theorem dX1_chanceOf_22 : decode cX1_chanceOf 22 = .ok (.iadd, 1) := by decide +kernel
theorem dX1_chanceOf_23 : decode cX1_chanceOf 23 = .ok (.iaload, 1) := by decide +kernel
theorem dX1_chanceOf_24 : decode cX1_chanceOf 24 = .ok (.ireturn, 1) := by decide +kernel
theorem dX1_isCase_0 : decode cX1_isCase 0 = .ok (.aload_n 0, 1) := by decide +kernel
theorem dX1_isCase_1 : decode cX1_isCase 1 = .ok (.getfield 18, 3) := by decide +kernel
theorem dX1_isCase_4 : decode cX1_isCase 4 = .ok (.iload_n 2, 1) := by decide +kernel
theorem dX1_isCase_5 : decode cX1_isCase 5 = .ok (.iaload, 1) := by decide +kernel
theorem dX1_isCase_6 : decode cX1_isCase 6 = .ok (.ifCond .eq 18, 3) := by decide +kernel
theorem dX1_isCase_9 : decode cX1_isCase 9 = .ok (.aload_n 0, 1) := by decide +kernel
theorem dX1_isCase_10 : decode cX1_isCase 10 = .ok (.iload_n 1, 1) := by decide +kernel
theorem dX1_isCase_11 : decode cX1_isCase 11 = .ok (.iload_n 2, 1) := by decide +kernel
theorem dX1_isCase_12 : decode cX1_isCase 12 = .ok (.invokevirtual 25, 3) := by decide +kernel
theorem dX1_isCase_15 : decode cX1_isCase 15 = .ok (.bipush (-9), 2) := by decide +kernel
theorem dX1_isCase_17 : decode cX1_isCase 17 = .ok (.if_icmp .eq 7, 3) := by decide +kernel
theorem dX1_isCase_20 : decode cX1_isCase 20 = .ok (.iconst 1, 1) := by decide +kernel
theorem dX1_isCase_21 : decode cX1_isCase 21 = .ok (.goto 4, 3) := by decide +kernel
theorem dX1_isCase_24 : decode cX1_isCase 24 = .ok (.iconst 0, 1) := by decide +kernel
theorem dX1_isCase_25 : decode cX1_isCase 25 = .ok (.ireturn, 1) := by decide +kernel
theorem dX1_countState_0 : decode cX1_countState 0 = .ok (.iconst 0, 1) := by decide +kernel
theorem dX1_countState_1 : decode cX1_countState 1 = .ok (.istore_n 2, 1) := by decide +kernel
theorem dX1_countState_2 : decode cX1_countState 2 = .ok (.iconst 0, 1) := by decide +kernel
theorem dX1_countState_3 : decode cX1_countState 3 = .ok (.istore_n 3, 1) := by decide +kernel
theorem dX1_countState_4 : decode cX1_countState 4 = .ok (.iload_n 3, 1) := by decide +kernel
theorem dX1_countState_5 : decode cX1_countState 5 = .ok (.bipush 40, 2) := by decide +kernel
theorem dX1_countState_7 : decode cX1_countState 7 = .ok (.if_icmp .ge 22, 3) := by decide +kernel
theorem dX1_countState_10 : decode cX1_countState 10 = .ok (.aload_n 0, 1) := by decide +kernel
theorem dX1_countState_11 : decode cX1_countState 11 = .ok (.getfield 18, 3) := by decide +kernel
theorem dX1_countState_14 : decode cX1_countState 14 = .ok (.iload_n 3, 1) := by decide +kernel
theorem dX1_countState_15 : decode cX1_countState 15 = .ok (.iaload, 1) := by decide +kernel
theorem dX1_countState_16 : decode cX1_countState 16 = .ok (.iload_n 1, 1) := by decide +kernel
theorem dX1_countState_17 : decode cX1_countState 17 = .ok (.if_icmp .ne 6, 3) := by decide +kernel
theorem dX1_countState_20 : decode cX1_countState 20 = .ok (.iinc 2 1, 3) := by decide +kernel
theorem dX1_countState_23 : decode cX1_countState 23 = .ok (.iinc 3 1, 3) := by decide +kernel
theorem dX1_countState_26 : decode cX1_countState 26 = .ok (.goto (-22), 3) := by decide +kernel
theorem dX1_countState_29 : decode cX1_countState 29 = .ok (.iload_n 2, 1) := by decide +kernel
theorem dX1_countState_30 : decode cX1_countState 30 = .ok (.ireturn, 1) := by decide +kernel
theorem dX1_countTold_0 : decode cX1_countTold 0 = .ok (.iconst 0, 1) := by decide +kernel
theorem dX1_countTold_1 : decode cX1_countTold 1 = .ok (.istore_n 1, 1) := by decide +kernel
theorem dX1_countTold_2 : decode cX1_countTold 2 = .ok (.iconst 0, 1) := by decide +kernel
theorem dX1_countTold_3 : decode cX1_countTold 3 = .ok (.istore_n 2, 1) := by decide +kernel
theorem dX1_countTold_4 : decode cX1_countTold 4 = .ok (.iload_n 2, 1) := by decide +kernel
theorem dX1_countTold_5 : decode cX1_countTold 5 = .ok (.aload_n 0, 1) := by decide +kernel
theorem dX1_countTold_6 : decode cX1_countTold 6 = .ok (.getfield 9, 3) := by decide +kernel
theorem dX1_countTold_9 : decode cX1_countTold 9 = .ok (.arraylength, 1) := by decide +kernel
theorem dX1_countTold_10 : decode cX1_countTold 10 = .ok (.if_icmp .ge 23, 3) := by decide +kernel
theorem dX1_countTold_13 : decode cX1_countTold 13 = .ok (.aload_n 0, 1) := by decide +kernel
theorem dX1_countTold_14 : decode cX1_countTold 14 = .ok (.getfield 9, 3) := by decide +kernel
theorem dX1_countTold_17 : decode cX1_countTold 17 = .ok (.iload_n 2, 1) := by decide +kernel
theorem dX1_countTold_18 : decode cX1_countTold 18 = .ok (.iaload, 1) := by decide +kernel
theorem dX1_countTold_19 : decode cX1_countTold 19 = .ok (.bipush (-9), 2) := by decide +kernel
theorem dX1_countTold_21 : decode cX1_countTold 21 = .ok (.if_icmp .eq 6, 3) := by decide +kernel
theorem dX1_countTold_24 : decode cX1_countTold 24 = .ok (.iinc 1 1, 3) := by decide +kernel
theorem dX1_countTold_27 : decode cX1_countTold 27 = .ok (.iinc 2 1, 3) := by decide +kernel
theorem dX1_countTold_30 : decode cX1_countTold 30 = .ok (.goto (-26), 3) := by decide +kernel
theorem dX1_countTold_33 : decode cX1_countTold 33 = .ok (.iload_n 1, 1) := by decide +kernel
theorem dX1_countTold_34 : decode cX1_countTold 34 = .ok (.ireturn, 1) := by decide +kernel
theorem dX1_countCases_0 : decode cX1_countCases 0 = .ok (.iconst 0, 1) := by decide +kernel
theorem dX1_countCases_1 : decode cX1_countCases 1 = .ok (.istore_n 1, 1) := by decide +kernel
theorem dX1_countCases_2 : decode cX1_countCases 2 = .ok (.iconst 0, 1) := by decide +kernel
theorem dX1_countCases_3 : decode cX1_countCases 3 = .ok (.istore_n 2, 1) := by decide +kernel
theorem dX1_countCases_4 : decode cX1_countCases 4 = .ok (.iload_n 2, 1) := by decide +kernel
theorem dX1_countCases_5 : decode cX1_countCases 5 = .ok (.iconst 4, 1) := by decide +kernel
theorem dX1_countCases_6 : decode cX1_countCases 6 = .ok (.if_icmp .ge 35, 3) := by decide +kernel
theorem dX1_countCases_9 : decode cX1_countCases 9 = .ok (.iconst 0, 1) := by decide +kernel
theorem dX1_countCases_10 : decode cX1_countCases 10 = .ok (.istore_n 3, 1) := by decide +kernel
theorem dX1_countCases_11 : decode cX1_countCases 11 = .ok (.iload_n 3, 1) := by decide +kernel
theorem dX1_countCases_12 : decode cX1_countCases 12 = .ok (.bipush 40, 2) := by decide +kernel
theorem dX1_countCases_14 : decode cX1_countCases 14 = .ok (.if_icmp .ge 21, 3) := by decide +kernel
theorem dX1_countCases_17 : decode cX1_countCases 17 = .ok (.aload_n 0, 1) := by decide +kernel
theorem dX1_countCases_18 : decode cX1_countCases 18 = .ok (.iload_n 2, 1) := by decide +kernel
theorem dX1_countCases_19 : decode cX1_countCases 19 = .ok (.iload_n 3, 1) := by decide +kernel
theorem dX1_countCases_20 : decode cX1_countCases 20 = .ok (.invokevirtual 29, 3) := by decide +kernel
theorem dX1_countCases_23 : decode cX1_countCases 23 = .ok (.ifCond .eq 6, 3) := by decide +kernel
theorem dX1_countCases_26 : decode cX1_countCases 26 = .ok (.iinc 1 1, 3) := by decide +kernel
theorem dX1_countCases_29 : decode cX1_countCases 29 = .ok (.iinc 3 1, 3) := by decide +kernel
theorem dX1_countCases_32 : decode cX1_countCases 32 = .ok (.goto (-21), 3) := by decide +kernel
theorem dX1_countCases_35 : decode cX1_countCases 35 = .ok (.iinc 2 1, 3) := by decide +kernel
theorem dX1_countCases_38 : decode cX1_countCases 38 = .ok (.goto (-34), 3) := by decide +kernel
theorem dX1_countCases_41 : decode cX1_countCases 41 = .ok (.iload_n 1, 1) := by decide +kernel
theorem dX1_countCases_42 : decode cX1_countCases 42 = .ok (.ireturn, 1) := by decide +kernel
theorem dX2_gather_0 : decode cX2_gather 0 = .ok (.aload_n 0, 1) := by decide +kernel
theorem dX2_gather_1 : decode cX2_gather 1 = .ok (.iconst 0, 1) := by decide +kernel
theorem dX2_gather_2 : decode cX2_gather 2 = .ok (.putfield 19, 3) := by decide +kernel
theorem dX2_gather_5 : decode cX2_gather 5 = .ok (.aload_n 0, 1) := by decide +kernel
theorem dX2_gather_6 : decode cX2_gather 6 = .ok (.iconst 0, 1) := by decide +kernel
theorem dX2_gather_7 : decode cX2_gather 7 = .ok (.putfield 23, 3) := by decide +kernel
theorem dX2_gather_10 : decode cX2_gather 10 = .ok (.iconst 0, 1) := by decide +kernel
theorem dX2_gather_11 : decode cX2_gather 11 = .ok (.istore_n 3, 1) := by decide +kernel
theorem dX2_gather_12 : decode cX2_gather 12 = .ok (.iload_n 3, 1) := by decide +kernel
theorem dX2_gather_13 : decode cX2_gather 13 = .ok (.bipush 40, 2) := by decide +kernel
theorem dX2_gather_15 : decode cX2_gather 15 = .ok (.if_icmp .ge 89, 3) := by decide +kernel
theorem dX2_gather_18 : decode cX2_gather 18 = .ok (.aload_n 1, 1) := by decide +kernel
theorem dX2_gather_19 : decode cX2_gather 19 = .ok (.iload_n 2, 1) := by decide +kernel
theorem dX2_gather_20 : decode cX2_gather 20 = .ok (.iload_n 3, 1) := by decide +kernel
theorem dX2_gather_21 : decode cX2_gather 21 = .ok (.invokevirtual 26, 3) := by decide +kernel
theorem dX2_gather_24 : decode cX2_gather 24 = .ok (.ifCond .eq 74, 3) := by decide +kernel
theorem dX2_gather_27 : decode cX2_gather 27 = .ok (.aload_n 0, 1) := by decide +kernel
theorem dX2_gather_28 : decode cX2_gather 28 = .ok (.getfield 9, 3) := by decide +kernel
theorem dX2_gather_31 : decode cX2_gather 31 = .ok (.aload_n 0, 1) := by decide +kernel
theorem dX2_gather_32 : decode cX2_gather 32 = .ok (.getfield 19, 3) := by decide +kernel
theorem dX2_gather_35 : decode cX2_gather 35 = .ok (.aload_n 1, 1) := by decide +kernel
theorem dX2_gather_36 : decode cX2_gather 36 = .ok (.iload_n 2, 1) := by decide +kernel
theorem dX2_gather_37 : decode cX2_gather 37 = .ok (.iload_n 3, 1) := by decide +kernel
theorem dX2_gather_38 : decode cX2_gather 38 = .ok (.invokevirtual 32, 3) := by decide +kernel
theorem dX2_gather_41 : decode cX2_gather 41 = .ok (.iastore, 1) := by decide +kernel
theorem dX2_gather_42 : decode cX2_gather 42 = .ok (.aload_n 0, 1) := by decide +kernel
theorem dX2_gather_43 : decode cX2_gather 43 = .ok (.getfield 15, 3) := by decide +kernel
theorem dX2_gather_46 : decode cX2_gather 46 = .ok (.aload_n 0, 1) := by decide +kernel
theorem dX2_gather_47 : decode cX2_gather 47 = .ok (.getfield 19, 3) := by decide +kernel
theorem dX2_gather_50 : decode cX2_gather 50 = .ok (.aload_n 1, 1) := by decide +kernel
theorem dX2_gather_51 : decode cX2_gather 51 = .ok (.getfield 36, 3) := by decide +kernel
theorem dX2_gather_54 : decode cX2_gather 54 = .ok (.iload_n 3, 1) := by decide +kernel
theorem dX2_gather_55 : decode cX2_gather 55 = .ok (.iaload, 1) := by decide +kernel
theorem dX2_gather_56 : decode cX2_gather 56 = .ok (.iconst 1, 1) := by decide +kernel
theorem dX2_gather_57 : decode cX2_gather 57 = .ok (.if_icmp .ne 7, 3) := by decide +kernel
theorem dX2_gather_60 : decode cX2_gather 60 = .ok (.iconst 1, 1) := by decide +kernel
theorem dX2_gather_61 : decode cX2_gather 61 = .ok (.goto 4, 3) := by decide +kernel
theorem dX2_gather_64 : decode cX2_gather 64 = .ok (.iconst 0, 1) := by decide +kernel
theorem dX2_gather_65 : decode cX2_gather 65 = .ok (.bastore, 1) := by decide +kernel
theorem dX2_gather_66 : decode cX2_gather 66 = .ok (.aload_n 0, 1) := by decide +kernel
theorem dX2_gather_67 : decode cX2_gather 67 = .ok (.getfield 15, 3) := by decide +kernel
theorem dX2_gather_70 : decode cX2_gather 70 = .ok (.aload_n 0, 1) := by decide +kernel
theorem dX2_gather_71 : decode cX2_gather 71 = .ok (.getfield 19, 3) := by decide +kernel
theorem dX2_gather_74 : decode cX2_gather 74 = .ok (.baload, 1) := by decide +kernel
theorem dX2_gather_75 : decode cX2_gather 75 = .ok (.ifCond .eq 13, 3) := by decide +kernel
theorem dX2_gather_78 : decode cX2_gather 78 = .ok (.aload_n 0, 1) := by decide +kernel
theorem dX2_gather_79 : decode cX2_gather 79 = .ok (.dup, 1) := by decide +kernel
theorem dX2_gather_80 : decode cX2_gather 80 = .ok (.getfield 23, 3) := by decide +kernel
theorem dX2_gather_83 : decode cX2_gather 83 = .ok (.iconst 1, 1) := by decide +kernel
theorem dX2_gather_84 : decode cX2_gather 84 = .ok (.iadd, 1) := by decide +kernel
theorem dX2_gather_85 : decode cX2_gather 85 = .ok (.putfield 23, 3) := by decide +kernel
theorem dX2_gather_88 : decode cX2_gather 88 = .ok (.aload_n 0, 1) := by decide +kernel
theorem dX2_gather_89 : decode cX2_gather 89 = .ok (.dup, 1) := by decide +kernel
theorem dX2_gather_90 : decode cX2_gather 90 = .ok (.getfield 19, 3) := by decide +kernel
theorem dX2_gather_93 : decode cX2_gather 93 = .ok (.iconst 1, 1) := by decide +kernel
theorem dX2_gather_94 : decode cX2_gather 94 = .ok (.iadd, 1) := by decide +kernel
theorem dX2_gather_95 : decode cX2_gather 95 = .ok (.putfield 19, 3) := by decide +kernel
theorem dX2_gather_98 : decode cX2_gather 98 = .ok (.iinc 3 1, 3) := by decide +kernel
theorem dX2_gather_101 : decode cX2_gather 101 = .ok (.goto (-89), 3) := by decide +kernel
theorem dX2_gather_104 : decode cX2_gather 104 = .ok (.return_, 1) := by decide +kernel
theorem dX8_missOf_0 : decode cX8_missOf 0 = .ok (.iload_n 2, 1) := by decide +kernel
theorem dX8_missOf_1 : decode cX8_missOf 1 = .ok (.ifCond .eq 10, 3) := by decide +kernel
theorem dX8_missOf_4 : decode cX8_missOf 4 = .ok (.bipush 100, 2) := by decide +kernel
theorem dX8_missOf_6 : decode cX8_missOf 6 = .ok (.iload_n 1, 1) := by decide +kernel
theorem dX8_missOf_7 : decode cX8_missOf 7 = .ok (.isub, 1) := by decide +kernel
theorem dX8_missOf_8 : decode cX8_missOf 8 = .ok (.goto 4, 3) := by decide +kernel
theorem dX8_missOf_11 : decode cX8_missOf 11 = .ok (.iload_n 1, 1) := by decide +kernel
theorem dX8_missOf_12 : decode cX8_missOf 12 = .ok (.istore_n 3, 1) := by decide +kernel
theorem dX8_missOf_13 : decode cX8_missOf 13 = .ok (.aload_n 0, 1) := by decide +kernel
theorem dX8_missOf_14 : decode cX8_missOf 14 = .ok (.getstatic 5, 3) := by decide +kernel
theorem dX8_missOf_17 : decode cX8_missOf 17 = .ok (.if_acmp .ne 7, 3) := by decide +kernel
theorem dX8_missOf_20 : decode cX8_missOf 20 = .ok (.iload_n 3, 1) := by decide +kernel
theorem dX8_missOf_21 : decode cX8_missOf 21 = .ok (.iload_n 3, 1) := by decide +kernel
theorem dX8_missOf_22 : decode cX8_missOf 22 = .ok (.imul, 1) := by decide +kernel
theorem dX8_missOf_23 : decode cX8_missOf 23 = .ok (.ireturn, 1) := by decide +kernel
theorem dX8_missOf_24 : decode cX8_missOf 24 = .ok (.aload_n 0, 1) := by decide +kernel
theorem dX8_missOf_25 : decode cX8_missOf 25 = .ok (.getstatic 9, 3) := by decide +kernel
theorem dX8_missOf_28 : decode cX8_missOf 28 = .ok (.if_acmp .ne 5, 3) := by decide +kernel
theorem dX8_missOf_31 : decode cX8_missOf 31 = .ok (.iload_n 3, 1) := by decide +kernel
theorem dX8_missOf_32 : decode cX8_missOf 32 = .ok (.ireturn, 1) := by decide +kernel
theorem dX8_missOf_33 : decode cX8_missOf 33 = .ok (.aload_n 0, 1) := by decide +kernel
theorem dX8_missOf_34 : decode cX8_missOf 34 = .ok (.getstatic 15, 3) := by decide +kernel
theorem dX8_missOf_37 : decode cX8_missOf 37 = .ok (.if_acmp .ne 9, 3) := by decide +kernel
theorem dX8_missOf_40 : decode cX8_missOf 40 = .ok (.iload_n 3, 1) := by decide +kernel
theorem dX8_missOf_41 : decode cX8_missOf 41 = .ok (.iload_n 3, 1) := by decide +kernel
theorem dX8_missOf_42 : decode cX8_missOf 42 = .ok (.imul, 1) := by decide +kernel
theorem dX8_missOf_43 : decode cX8_missOf 43 = .ok (.iload_n 3, 1) := by decide +kernel
theorem dX8_missOf_44 : decode cX8_missOf 44 = .ok (.imul, 1) := by decide +kernel
theorem dX8_missOf_45 : decode cX8_missOf 45 = .ok (.ireturn, 1) := by decide +kernel
theorem dX8_missOf_46 : decode cX8_missOf 46 = .ok (.iload_n 3, 1) := by decide +kernel
theorem dX8_missOf_47 : decode cX8_missOf 47 = .ok (.bipush 50, 2) := by decide +kernel
theorem dX8_missOf_49 : decode cX8_missOf 49 = .ok (.if_icmp .ne 6, 3) := by decide +kernel
theorem dX8_missOf_52 : decode cX8_missOf 52 = .ok (.bipush 50, 2) := by decide +kernel
theorem dX8_missOf_54 : decode cX8_missOf 54 = .ok (.ireturn, 1) := by decide +kernel
theorem dX8_missOf_55 : decode cX8_missOf 55 = .ok (.iload_n 3, 1) := by decide +kernel
theorem dX8_missOf_56 : decode cX8_missOf 56 = .ok (.bipush 50, 2) := by decide +kernel
theorem dX8_missOf_58 : decode cX8_missOf 58 = .ok (.if_icmp .le 8, 3) := by decide +kernel
theorem dX8_missOf_61 : decode cX8_missOf 61 = .ok (.bipush 100, 2) := by decide +kernel
theorem dX8_missOf_63 : decode cX8_missOf 63 = .ok (.goto 4, 3) := by decide +kernel
theorem dX8_missOf_66 : decode cX8_missOf 66 = .ok (.iconst 0, 1) := by decide +kernel
theorem dX8_missOf_67 : decode cX8_missOf 67 = .ok (.ireturn, 1) := by decide +kernel
theorem dX2_missSum_0 : decode cX2_missSum 0 = .ok (.lconst 0, 1) := by decide +kernel
theorem dX2_missSum_1 : decode cX2_missSum 1 = .ok (.lstore_n 2, 1) := by decide +kernel
theorem dX2_missSum_2 : decode cX2_missSum 2 = .ok (.iconst 0, 1) := by decide +kernel
theorem dX2_missSum_3 : decode cX2_missSum 3 = .ok (.istore 4, 2) := by decide +kernel
theorem dX2_missSum_5 : decode cX2_missSum 5 = .ok (.iload 4, 2) := by decide +kernel
theorem dX2_missSum_7 : decode cX2_missSum 7 = .ok (.aload_n 0, 1) := by decide +kernel
theorem dX2_missSum_8 : decode cX2_missSum 8 = .ok (.getfield 19, 3) := by decide +kernel
theorem dX2_missSum_11 : decode cX2_missSum 11 = .ok (.if_icmp .ge 31, 3) := by decide +kernel
theorem dX2_missSum_14 : decode cX2_missSum 14 = .ok (.lload_n 2, 1) := by decide +kernel
theorem dX2_missSum_15 : decode cX2_missSum 15 = .ok (.aload_n 1, 1) := by decide +kernel
theorem dX2_missSum_16 : decode cX2_missSum 16 = .ok (.aload_n 0, 1) := by decide +kernel
theorem dX2_missSum_17 : decode cX2_missSum 17 = .ok (.getfield 9, 3) := by decide +kernel
theorem dX2_missSum_20 : decode cX2_missSum 20 = .ok (.iload 4, 2) := by decide +kernel
theorem dX2_missSum_22 : decode cX2_missSum 22 = .ok (.iaload, 1) := by decide +kernel
theorem dX2_missSum_23 : decode cX2_missSum 23 = .ok (.aload_n 0, 1) := by decide +kernel
theorem dX2_missSum_24 : decode cX2_missSum 24 = .ok (.getfield 15, 3) := by decide +kernel
theorem dX2_missSum_27 : decode cX2_missSum 27 = .ok (.iload 4, 2) := by decide +kernel
theorem dX2_missSum_29 : decode cX2_missSum 29 = .ok (.baload, 1) := by decide +kernel
theorem dX2_missSum_30 : decode cX2_missSum 30 = .ok (.invokevirtual 39, 3) := by decide +kernel
theorem dX2_missSum_33 : decode cX2_missSum 33 = .ok (.i2l, 1) := by decide +kernel
theorem dX2_missSum_34 : decode cX2_missSum 34 = .ok (.ladd, 1) := by decide +kernel
theorem dX2_missSum_35 : decode cX2_missSum 35 = .ok (.lstore_n 2, 1) := by decide +kernel
theorem dX2_missSum_36 : decode cX2_missSum 36 = .ok (.iinc 4 1, 3) := by decide +kernel
theorem dX2_missSum_39 : decode cX2_missSum 39 = .ok (.goto (-34), 3) := by decide +kernel
theorem dX2_missSum_42 : decode cX2_missSum 42 = .ok (.lload_n 2, 1) := by decide +kernel
theorem dX2_missSum_43 : decode cX2_missSum 43 = .ok (.lreturn, 1) := by decide +kernel
theorem dJ6_compare_7cf53_0 : decode cJ6_compare_7cf53 0 = .ok (.iload_n 0, 1) := by decide +kernel
theorem dJ6_compare_7cf53_1 : decode cJ6_compare_7cf53 1 = .ok (.iload_n 1, 1) := by decide +kernel
theorem dJ6_compare_7cf53_2 : decode cJ6_compare_7cf53 2 = .ok (.if_icmp .ge 7, 3) := by decide +kernel
theorem dJ6_compare_7cf53_5 : decode cJ6_compare_7cf53 5 = .ok (.iconst (-1), 1) := by decide +kernel
theorem dJ6_compare_7cf53_6 : decode cJ6_compare_7cf53 6 = .ok (.goto 13, 3) := by decide +kernel
theorem dJ6_compare_7cf53_9 : decode cJ6_compare_7cf53 9 = .ok (.iload_n 0, 1) := by decide +kernel
theorem dJ6_compare_7cf53_10 : decode cJ6_compare_7cf53 10 = .ok (.iload_n 1, 1) := by decide +kernel
theorem dJ6_compare_7cf53_11 : decode cJ6_compare_7cf53 11 = .ok (.if_icmp .ne 7, 3) := by decide +kernel
theorem dJ6_compare_7cf53_14 : decode cJ6_compare_7cf53 14 = .ok (.iconst 0, 1) := by decide +kernel
theorem dJ6_compare_7cf53_15 : decode cJ6_compare_7cf53 15 = .ok (.goto 4, 3) := by decide +kernel
theorem dJ6_compare_7cf53_18 : decode cJ6_compare_7cf53 18 = .ok (.iconst 1, 1) := by decide +kernel
theorem dJ6_compare_7cf53_19 : decode cJ6_compare_7cf53 19 = .ok (.ireturn, 1) := by decide +kernel
theorem dX2_halvesWellRanked_0 : decode cX2_halvesWellRanked 0 = .ok (.lconst 0, 1) := by decide +kernel
theorem dX2_halvesWellRanked_1 : decode cX2_halvesWellRanked 1 = .ok (.lstore_n 1, 1) := by decide +kernel
theorem dX2_halvesWellRanked_2 : decode cX2_halvesWellRanked 2 = .ok (.iconst 0, 1) := by decide +kernel
theorem dX2_halvesWellRanked_3 : decode cX2_halvesWellRanked 3 = .ok (.istore_n 3, 1) := by decide +kernel
theorem dX2_halvesWellRanked_4 : decode cX2_halvesWellRanked 4 = .ok (.iload_n 3, 1) := by decide +kernel
theorem dX2_halvesWellRanked_5 : decode cX2_halvesWellRanked 5 = .ok (.aload_n 0, 1) := by decide +kernel
theorem dX2_halvesWellRanked_6 : decode cX2_halvesWellRanked 6 = .ok (.getfield 19, 3) := by decide +kernel
theorem dX2_halvesWellRanked_9 : decode cX2_halvesWellRanked 9 = .ok (.if_icmp .ge 68, 3) := by decide +kernel
theorem dX2_halvesWellRanked_12 : decode cX2_halvesWellRanked 12 = .ok (.iconst 0, 1) := by decide +kernel
theorem dX2_halvesWellRanked_13 : decode cX2_halvesWellRanked 13 = .ok (.istore 4, 2) := by decide +kernel
theorem dX2_halvesWellRanked_15 : decode cX2_halvesWellRanked 15 = .ok (.iload 4, 2) := by decide +kernel
theorem dX2_halvesWellRanked_17 : decode cX2_halvesWellRanked 17 = .ok (.aload_n 0, 1) := by decide +kernel
theorem dX2_halvesWellRanked_18 : decode cX2_halvesWellRanked 18 = .ok (.getfield 19, 3) := by decide +kernel
theorem dX2_halvesWellRanked_21 : decode cX2_halvesWellRanked 21 = .ok (.if_icmp .ge 50, 3) := by decide +kernel
theorem dX2_halvesWellRanked_24 : decode cX2_halvesWellRanked 24 = .ok (.aload_n 0, 1) := by decide +kernel
theorem dX2_halvesWellRanked_25 : decode cX2_halvesWellRanked 25 = .ok (.getfield 15, 3) := by decide +kernel
theorem dX2_halvesWellRanked_28 : decode cX2_halvesWellRanked 28 = .ok (.iload_n 3, 1) := by decide +kernel
theorem dX2_halvesWellRanked_29 : decode cX2_halvesWellRanked 29 = .ok (.baload, 1) := by decide +kernel
theorem dX2_halvesWellRanked_30 : decode cX2_halvesWellRanked 30 = .ok (.ifCond .eq 35, 3) := by decide +kernel
theorem dX2_halvesWellRanked_33 : decode cX2_halvesWellRanked 33 = .ok (.aload_n 0, 1) := by decide +kernel
theorem dX2_halvesWellRanked_34 : decode cX2_halvesWellRanked 34 = .ok (.getfield 15, 3) := by decide +kernel
theorem dX2_halvesWellRanked_37 : decode cX2_halvesWellRanked 37 = .ok (.iload 4, 2) := by decide +kernel
theorem dX2_halvesWellRanked_39 : decode cX2_halvesWellRanked 39 = .ok (.baload, 1) := by decide +kernel
theorem dX2_halvesWellRanked_40 : decode cX2_halvesWellRanked 40 = .ok (.ifCond .ne 25, 3) := by decide +kernel
theorem dX2_halvesWellRanked_43 : decode cX2_halvesWellRanked 43 = .ok (.lload_n 1, 1) := by decide +kernel
theorem dX2_halvesWellRanked_44 : decode cX2_halvesWellRanked 44 = .ok (.iconst 1, 1) := by decide +kernel
theorem dX2_halvesWellRanked_45 : decode cX2_halvesWellRanked 45 = .ok (.aload_n 0, 1) := by decide +kernel
theorem dX2_halvesWellRanked_46 : decode cX2_halvesWellRanked 46 = .ok (.getfield 9, 3) := by decide +kernel
theorem dX2_halvesWellRanked_49 : decode cX2_halvesWellRanked 49 = .ok (.iload_n 3, 1) := by decide +kernel
theorem dX2_halvesWellRanked_50 : decode cX2_halvesWellRanked 50 = .ok (.iaload, 1) := by decide +kernel
theorem dX2_halvesWellRanked_51 : decode cX2_halvesWellRanked 51 = .ok (.aload_n 0, 1) := by decide +kernel
theorem dX2_halvesWellRanked_52 : decode cX2_halvesWellRanked 52 = .ok (.getfield 9, 3) := by decide +kernel
theorem dX2_halvesWellRanked_55 : decode cX2_halvesWellRanked 55 = .ok (.iload 4, 2) := by decide +kernel
theorem dX2_halvesWellRanked_57 : decode cX2_halvesWellRanked 57 = .ok (.iaload, 1) := by decide +kernel
theorem dX2_halvesWellRanked_58 : decode cX2_halvesWellRanked 58 = .ok (.invokestatic 45, 3) := by decide +kernel
theorem dX2_halvesWellRanked_61 : decode cX2_halvesWellRanked 61 = .ok (.iadd, 1) := by decide +kernel
theorem dX2_halvesWellRanked_62 : decode cX2_halvesWellRanked 62 = .ok (.i2l, 1) := by decide +kernel
theorem dX2_halvesWellRanked_63 : decode cX2_halvesWellRanked 63 = .ok (.ladd, 1) := by decide +kernel
theorem dX2_halvesWellRanked_64 : decode cX2_halvesWellRanked 64 = .ok (.lstore_n 1, 1) := by decide +kernel
theorem dX2_halvesWellRanked_65 : decode cX2_halvesWellRanked 65 = .ok (.iinc 4 1, 3) := by decide +kernel
theorem dX2_halvesWellRanked_68 : decode cX2_halvesWellRanked 68 = .ok (.goto (-53), 3) := by decide +kernel
theorem dX2_halvesWellRanked_71 : decode cX2_halvesWellRanked 71 = .ok (.iinc 3 1, 3) := by decide +kernel
theorem dX2_halvesWellRanked_74 : decode cX2_halvesWellRanked 74 = .ok (.goto (-70), 3) := by decide +kernel
theorem dX2_halvesWellRanked_77 : decode cX2_halvesWellRanked 77 = .ok (.lload_n 1, 1) := by decide +kernel
theorem dX2_halvesWellRanked_78 : decode cX2_halvesWellRanked 78 = .ok (.lreturn, 1) := by decide +kernel
theorem dX3_greatest_0 : decode cX3_greatest 0 = .ok (.iload_n 1, 1) := by decide +kernel
theorem dX3_greatest_1 : decode cX3_greatest 1 = .ok (.ifCond .ne 10, 3) := by decide +kernel
theorem dX3_greatest_4 : decode cX3_greatest 4 = .ok (.aload_n 0, 1) := by decide +kernel
theorem dX3_greatest_5 : decode cX3_greatest 5 = .ok (.getfield 51, 3) := by decide +kernel
theorem dX3_greatest_8 : decode cX3_greatest 8 = .ok (.goto 19, 3) := by decide +kernel
theorem dX3_greatest_11 : decode cX3_greatest 11 = .ok (.iload_n 1, 1) := by decide +kernel
theorem dX3_greatest_12 : decode cX3_greatest 12 = .ok (.iconst 1, 1) := by decide +kernel
theorem dX3_greatest_13 : decode cX3_greatest 13 = .ok (.if_icmp .ne 10, 3) := by decide +kernel
theorem dX3_greatest_16 : decode cX3_greatest 16 = .ok (.aload_n 0, 1) := by decide +kernel
theorem dX3_greatest_17 : decode cX3_greatest 17 = .ok (.getfield 54, 3) := by decide +kernel
theorem dX3_greatest_20 : decode cX3_greatest 20 = .ok (.goto 7, 3) := by decide +kernel
theorem dX3_greatest_23 : decode cX3_greatest 23 = .ok (.aload_n 0, 1) := by decide +kernel
theorem dX3_greatest_24 : decode cX3_greatest 24 = .ok (.getfield 57, 3) := by decide +kernel
theorem dX3_greatest_27 : decode cX3_greatest 27 = .ok (.ireturn, 1) := by decide +kernel
theorem dX4_pick_0 : decode cX4_pick 0 = .ok (.iload_n 1, 1) := by decide +kernel
theorem dX4_pick_1 : decode cX4_pick 1 = .ok (.ifCond .ne 10, 3) := by decide +kernel
theorem dX4_pick_4 : decode cX4_pick 4 = .ok (.aload_n 0, 1) := by decide +kernel
theorem dX4_pick_5 : decode cX4_pick 5 = .ok (.getfield 7, 3) := by decide +kernel
theorem dX4_pick_8 : decode cX4_pick 8 = .ok (.goto 7, 3) := by decide +kernel
theorem dX4_pick_11 : decode cX4_pick 11 = .ok (.aload_n 0, 1) := by decide +kernel
theorem dX4_pick_12 : decode cX4_pick 12 = .ok (.getfield 13, 3) := by decide +kernel
theorem dX4_pick_15 : decode cX4_pick 15 = .ok (.lreturn, 1) := by decide +kernel
theorem dX0_binOf_0 : decode cX0_binOf 0 = .ok (.iconst 0, 1) := by decide +kernel
theorem dX0_binOf_1 : decode cX0_binOf 1 = .ok (.istore_n 2, 1) := by decide +kernel
theorem dX0_binOf_2 : decode cX0_binOf 2 = .ok (.iload_n 2, 1) := by decide +kernel
theorem dX0_binOf_3 : decode cX0_binOf 3 = .ok (.aload_n 0, 1) := by decide +kernel
theorem dX0_binOf_4 : decode cX0_binOf 4 = .ok (.getfield 15, 3) := by decide +kernel
theorem dX0_binOf_7 : decode cX0_binOf 7 = .ok (.if_icmp .ge 19, 3) := by decide +kernel
theorem dX0_binOf_10 : decode cX0_binOf 10 = .ok (.aload_n 0, 1) := by decide +kernel
theorem dX0_binOf_11 : decode cX0_binOf 11 = .ok (.getfield 9, 3) := by decide +kernel
theorem dX0_binOf_14 : decode cX0_binOf 14 = .ok (.iload_n 2, 1) := by decide +kernel
theorem dX0_binOf_15 : decode cX0_binOf 15 = .ok (.iaload, 1) := by decide +kernel
theorem dX0_binOf_16 : decode cX0_binOf 16 = .ok (.iload_n 1, 1) := by decide +kernel
theorem dX0_binOf_17 : decode cX0_binOf 17 = .ok (.if_icmp .gt 9, 3) := by decide +kernel
theorem dX0_binOf_20 : decode cX0_binOf 20 = .ok (.iinc 2 1, 3) := by decide +kernel
theorem dX0_binOf_23 : decode cX0_binOf 23 = .ok (.goto (-21), 3) := by decide +kernel
theorem dX0_binOf_26 : decode cX0_binOf 26 = .ok (.iload_n 2, 1) := by decide +kernel
theorem dX0_binOf_27 : decode cX0_binOf 27 = .ok (.ireturn, 1) := by decide +kernel
theorem dX0_removeCut_0 : decode cX0_removeCut 0 = .ok (.aload_n 0, 1) := by decide +kernel
theorem dX0_removeCut_1 : decode cX0_removeCut 1 = .ok (.dup, 1) := by decide +kernel
theorem dX0_removeCut_2 : decode cX0_removeCut 2 = .ok (.getfield 15, 3) := by decide +kernel
theorem dX0_removeCut_5 : decode cX0_removeCut 5 = .ok (.iconst 1, 1) := by decide +kernel
theorem dX0_removeCut_6 : decode cX0_removeCut 6 = .ok (.isub, 1) := by decide +kernel
theorem dX0_removeCut_7 : decode cX0_removeCut 7 = .ok (.putfield 15, 3) := by decide +kernel
theorem dX0_removeCut_10 : decode cX0_removeCut 10 = .ok (.iload_n 1, 1) := by decide +kernel
theorem dX0_removeCut_11 : decode cX0_removeCut 11 = .ok (.istore_n 2, 1) := by decide +kernel
theorem dX0_removeCut_12 : decode cX0_removeCut 12 = .ok (.iload_n 2, 1) := by decide +kernel
theorem dX0_removeCut_13 : decode cX0_removeCut 13 = .ok (.aload_n 0, 1) := by decide +kernel
theorem dX0_removeCut_14 : decode cX0_removeCut 14 = .ok (.getfield 15, 3) := by decide +kernel
theorem dX0_removeCut_17 : decode cX0_removeCut 17 = .ok (.if_icmp .ge 23, 3) := by decide +kernel
theorem dX0_removeCut_20 : decode cX0_removeCut 20 = .ok (.aload_n 0, 1) := by decide +kernel
theorem dX0_removeCut_21 : decode cX0_removeCut 21 = .ok (.getfield 9, 3) := by decide +kernel
theorem dX0_removeCut_24 : decode cX0_removeCut 24 = .ok (.iload_n 2, 1) := by decide +kernel
theorem dX0_removeCut_25 : decode cX0_removeCut 25 = .ok (.aload_n 0, 1) := by decide +kernel
theorem dX0_removeCut_26 : decode cX0_removeCut 26 = .ok (.getfield 9, 3) := by decide +kernel
theorem dX0_removeCut_29 : decode cX0_removeCut 29 = .ok (.iload_n 2, 1) := by decide +kernel
theorem dX0_removeCut_30 : decode cX0_removeCut 30 = .ok (.iconst 1, 1) := by decide +kernel
theorem dX0_removeCut_31 : decode cX0_removeCut 31 = .ok (.iadd, 1) := by decide +kernel
theorem dX0_removeCut_32 : decode cX0_removeCut 32 = .ok (.iaload, 1) := by decide +kernel
theorem dX0_removeCut_33 : decode cX0_removeCut 33 = .ok (.iastore, 1) := by decide +kernel
theorem dX0_removeCut_34 : decode cX0_removeCut 34 = .ok (.iinc 2 1, 3) := by decide +kernel
theorem dX0_removeCut_37 : decode cX0_removeCut 37 = .ok (.goto (-25), 3) := by decide +kernel
theorem dX0_removeCut_40 : decode cX0_removeCut 40 = .ok (.return_, 1) := by decide +kernel
theorem dX0_insertCut_0 : decode cX0_insertCut 0 = .ok (.aload_n 0, 1) := by decide +kernel
theorem dX0_insertCut_1 : decode cX0_insertCut 1 = .ok (.getfield 15, 3) := by decide +kernel
theorem dX0_insertCut_4 : decode cX0_insertCut 4 = .ok (.istore_n 3, 1) := by decide +kernel
theorem dX0_insertCut_5 : decode cX0_insertCut 5 = .ok (.iload_n 3, 1) := by decide +kernel
theorem dX0_insertCut_6 : decode cX0_insertCut 6 = .ok (.iload_n 1, 1) := by decide +kernel
theorem dX0_insertCut_7 : decode cX0_insertCut 7 = .ok (.if_icmp .le 23, 3) := by decide +kernel
theorem dX0_insertCut_10 : decode cX0_insertCut 10 = .ok (.aload_n 0, 1) := by decide +kernel
theorem dX0_insertCut_11 : decode cX0_insertCut 11 = .ok (.getfield 9, 3) := by decide +kernel
theorem dX0_insertCut_14 : decode cX0_insertCut 14 = .ok (.iload_n 3, 1) := by decide +kernel
theorem dX0_insertCut_15 : decode cX0_insertCut 15 = .ok (.aload_n 0, 1) := by decide +kernel
theorem dX0_insertCut_16 : decode cX0_insertCut 16 = .ok (.getfield 9, 3) := by decide +kernel
theorem dX0_insertCut_19 : decode cX0_insertCut 19 = .ok (.iload_n 3, 1) := by decide +kernel
theorem dX0_insertCut_20 : decode cX0_insertCut 20 = .ok (.iconst 1, 1) := by decide +kernel
theorem dX0_insertCut_21 : decode cX0_insertCut 21 = .ok (.isub, 1) := by decide +kernel
theorem dX0_insertCut_22 : decode cX0_insertCut 22 = .ok (.iaload, 1) := by decide +kernel
theorem dX0_insertCut_23 : decode cX0_insertCut 23 = .ok (.iastore, 1) := by decide +kernel
theorem dX0_insertCut_24 : decode cX0_insertCut 24 = .ok (.iinc 3 (-1), 3) := by decide +kernel
theorem dX0_insertCut_27 : decode cX0_insertCut 27 = .ok (.goto (-22), 3) := by decide +kernel
theorem dX0_insertCut_30 : decode cX0_insertCut 30 = .ok (.aload_n 0, 1) := by decide +kernel
theorem dX0_insertCut_31 : decode cX0_insertCut 31 = .ok (.getfield 9, 3) := by decide +kernel
theorem dX0_insertCut_34 : decode cX0_insertCut 34 = .ok (.iload_n 1, 1) := by decide +kernel
theorem dX0_insertCut_35 : decode cX0_insertCut 35 = .ok (.iload_n 2, 1) := by decide +kernel
theorem dX0_insertCut_36 : decode cX0_insertCut 36 = .ok (.iastore, 1) := by decide +kernel
theorem dX0_insertCut_37 : decode cX0_insertCut 37 = .ok (.aload_n 0, 1) := by decide +kernel
theorem dX0_insertCut_38 : decode cX0_insertCut 38 = .ok (.dup, 1) := by decide +kernel
theorem dX0_insertCut_39 : decode cX0_insertCut 39 = .ok (.getfield 15, 3) := by decide +kernel
theorem dX0_insertCut_42 : decode cX0_insertCut 42 = .ok (.iconst 1, 1) := by decide +kernel
theorem dX0_insertCut_43 : decode cX0_insertCut 43 = .ok (.iadd, 1) := by decide +kernel
theorem dX0_insertCut_44 : decode cX0_insertCut 44 = .ok (.putfield 15, 3) := by decide +kernel
theorem dX0_insertCut_47 : decode cX0_insertCut 47 = .ok (.return_, 1) := by decide +kernel
theorem dX0_flipCut_0 : decode cX0_flipCut 0 = .ok (.aload_n 0, 1) := by decide +kernel
theorem dX0_flipCut_1 : decode cX0_flipCut 1 = .ok (.iload_n 1, 1) := by decide +kernel
theorem dX0_flipCut_2 : decode cX0_flipCut 2 = .ok (.invokevirtual 34, 3) := by decide +kernel
theorem dX0_flipCut_5 : decode cX0_flipCut 5 = .ok (.istore_n 2, 1) := by decide +kernel
theorem dX0_flipCut_6 : decode cX0_flipCut 6 = .ok (.iload_n 2, 1) := by decide +kernel
theorem dX0_flipCut_7 : decode cX0_flipCut 7 = .ok (.ifCond .le 24, 3) := by decide +kernel
theorem dX0_flipCut_10 : decode cX0_flipCut 10 = .ok (.aload_n 0, 1) := by decide +kernel
theorem dX0_flipCut_11 : decode cX0_flipCut 11 = .ok (.getfield 9, 3) := by decide +kernel
theorem dX0_flipCut_14 : decode cX0_flipCut 14 = .ok (.iload_n 2, 1) := by decide +kernel
theorem dX0_flipCut_15 : decode cX0_flipCut 15 = .ok (.iconst 1, 1) := by decide +kernel
theorem dX0_flipCut_16 : decode cX0_flipCut 16 = .ok (.isub, 1) := by decide +kernel
theorem dX0_flipCut_17 : decode cX0_flipCut 17 = .ok (.iaload, 1) := by decide +kernel
theorem dX0_flipCut_18 : decode cX0_flipCut 18 = .ok (.iload_n 1, 1) := by decide +kernel
theorem dX0_flipCut_19 : decode cX0_flipCut 19 = .ok (.if_icmp .ne 12, 3) := by decide +kernel
theorem dX0_flipCut_22 : decode cX0_flipCut 22 = .ok (.aload_n 0, 1) := by decide +kernel
theorem dX0_flipCut_23 : decode cX0_flipCut 23 = .ok (.iload_n 2, 1) := by decide +kernel
theorem dX0_flipCut_24 : decode cX0_flipCut 24 = .ok (.iconst 1, 1) := by decide +kernel
theorem dX0_flipCut_25 : decode cX0_flipCut 25 = .ok (.isub, 1) := by decide +kernel
theorem dX0_flipCut_26 : decode cX0_flipCut 26 = .ok (.invokevirtual 38, 3) := by decide +kernel
theorem dX0_flipCut_29 : decode cX0_flipCut 29 = .ok (.iconst 1, 1) := by decide +kernel
theorem dX0_flipCut_30 : decode cX0_flipCut 30 = .ok (.ireturn, 1) := by decide +kernel
theorem dX0_flipCut_31 : decode cX0_flipCut 31 = .ok (.aload_n 0, 1) := by decide +kernel
theorem dX0_flipCut_32 : decode cX0_flipCut 32 = .ok (.getfield 15, 3) := by decide +kernel
theorem dX0_flipCut_35 : decode cX0_flipCut 35 = .ok (.bipush 9, 2) := by decide +kernel
theorem dX0_flipCut_37 : decode cX0_flipCut 37 = .ok (.if_icmp .lt 5, 3) := by decide +kernel
theorem dX0_flipCut_40 : decode cX0_flipCut 40 = .ok (.iconst 0, 1) := by decide +kernel
theorem dX0_flipCut_41 : decode cX0_flipCut 41 = .ok (.ireturn, 1) := by decide +kernel
theorem dX0_flipCut_42 : decode cX0_flipCut 42 = .ok (.aload_n 0, 1) := by decide +kernel
theorem dX0_flipCut_43 : decode cX0_flipCut 43 = .ok (.iload_n 2, 1) := by decide +kernel
theorem dX0_flipCut_44 : decode cX0_flipCut 44 = .ok (.iload_n 1, 1) := by decide +kernel
theorem dX0_flipCut_45 : decode cX0_flipCut 45 = .ok (.invokevirtual 42, 3) := by decide +kernel
theorem dX0_flipCut_48 : decode cX0_flipCut 48 = .ok (.iconst 1, 1) := by decide +kernel
theorem dX0_flipCut_49 : decode cX0_flipCut 49 = .ok (.ireturn, 1) := by decide +kernel
theorem dX0_hasBin_0 : decode cX0_hasBin 0 = .ok (.iload_n 1, 1) := by decide +kernel
theorem dX0_hasBin_1 : decode cX0_hasBin 1 = .ok (.ifCond .lt 15, 3) := by decide +kernel
theorem dX0_hasBin_4 : decode cX0_hasBin 4 = .ok (.iload_n 1, 1) := by decide +kernel
theorem dX0_hasBin_5 : decode cX0_hasBin 5 = .ok (.aload_n 0, 1) := by decide +kernel
theorem dX0_hasBin_6 : decode cX0_hasBin 6 = .ok (.getfield 15, 3) := by decide +kernel
theorem dX0_hasBin_9 : decode cX0_hasBin 9 = .ok (.if_icmp .gt 7, 3) := by decide +kernel
theorem dX0_hasBin_12 : decode cX0_hasBin 12 = .ok (.iconst 1, 1) := by decide +kernel
theorem dX0_hasBin_13 : decode cX0_hasBin 13 = .ok (.goto 4, 3) := by decide +kernel
theorem dX0_hasBin_16 : decode cX0_hasBin 16 = .ok (.iconst 0, 1) := by decide +kernel
theorem dX0_hasBin_17 : decode cX0_hasBin 17 = .ok (.ireturn, 1) := by decide +kernel
theorem dX0_leastOf_0 : decode cX0_leastOf 0 = .ok (.iload_n 1, 1) := by decide +kernel
theorem dX0_leastOf_1 : decode cX0_leastOf 1 = .ok (.ifCond .ne 7, 3) := by decide +kernel
theorem dX0_leastOf_4 : decode cX0_leastOf 4 = .ok (.iconst 0, 1) := by decide +kernel
theorem dX0_leastOf_5 : decode cX0_leastOf 5 = .ok (.goto 11, 3) := by decide +kernel
theorem dX0_leastOf_8 : decode cX0_leastOf 8 = .ok (.aload_n 0, 1) := by decide +kernel
theorem dX0_leastOf_9 : decode cX0_leastOf 9 = .ok (.getfield 9, 3) := by decide +kernel
theorem dX0_leastOf_12 : decode cX0_leastOf 12 = .ok (.iload_n 1, 1) := by decide +kernel
theorem dX0_leastOf_13 : decode cX0_leastOf 13 = .ok (.iconst 1, 1) := by decide +kernel
theorem dX0_leastOf_14 : decode cX0_leastOf 14 = .ok (.isub, 1) := by decide +kernel
theorem dX0_leastOf_15 : decode cX0_leastOf 15 = .ok (.iaload, 1) := by decide +kernel
theorem dX0_leastOf_16 : decode cX0_leastOf 16 = .ok (.ireturn, 1) := by decide +kernel
theorem dX0_greatestOf_0 : decode cX0_greatestOf 0 = .ok (.iload_n 1, 1) := by decide +kernel
theorem dX0_greatestOf_1 : decode cX0_greatestOf 1 = .ok (.aload_n 0, 1) := by decide +kernel
theorem dX0_greatestOf_2 : decode cX0_greatestOf 2 = .ok (.getfield 15, 3) := by decide +kernel
theorem dX0_greatestOf_5 : decode cX0_greatestOf 5 = .ok (.if_icmp .ne 8, 3) := by decide +kernel
theorem dX0_greatestOf_8 : decode cX0_greatestOf 8 = .ok (.bipush 100, 2) := by decide +kernel
theorem dX0_greatestOf_10 : decode cX0_greatestOf 10 = .ok (.goto 11, 3) := by decide +kernel
theorem dX0_greatestOf_13 : decode cX0_greatestOf 13 = .ok (.aload_n 0, 1) := by decide +kernel
theorem dX0_greatestOf_14 : decode cX0_greatestOf 14 = .ok (.getfield 9, 3) := by decide +kernel
theorem dX0_greatestOf_17 : decode cX0_greatestOf 17 = .ok (.iload_n 1, 1) := by decide +kernel
theorem dX0_greatestOf_18 : decode cX0_greatestOf 18 = .ok (.iaload, 1) := by decide +kernel
theorem dX0_greatestOf_19 : decode cX0_greatestOf 19 = .ok (.iconst 1, 1) := by decide +kernel
theorem dX0_greatestOf_20 : decode cX0_greatestOf 20 = .ok (.isub, 1) := by decide +kernel
theorem dX0_greatestOf_21 : decode cX0_greatestOf 21 = .ok (.ireturn, 1) := by decide +kernel
theorem dX0_sortIn_0 : decode cX0_sortIn 0 = .ok (.iconst 0, 1) := by decide +kernel
theorem dX0_sortIn_1 : decode cX0_sortIn 1 = .ok (.istore_n 2, 1) := by decide +kernel
theorem dX0_sortIn_2 : decode cX0_sortIn 2 = .ok (.iload_n 2, 1) := by decide +kernel
theorem dX0_sortIn_3 : decode cX0_sortIn 3 = .ok (.aload_n 0, 1) := by decide +kernel
theorem dX0_sortIn_4 : decode cX0_sortIn 4 = .ok (.getfield 19, 3) := by decide +kernel
theorem dX0_sortIn_7 : decode cX0_sortIn 7 = .ok (.arraylength, 1) := by decide +kernel
theorem dX0_sortIn_8 : decode cX0_sortIn 8 = .ok (.if_icmp .ge 44, 3) := by decide +kernel
theorem dX0_sortIn_11 : decode cX0_sortIn 11 = .ok (.aload_n 0, 1) := by decide +kernel
theorem dX0_sortIn_12 : decode cX0_sortIn 12 = .ok (.getfield 19, 3) := by decide +kernel
theorem dX0_sortIn_15 : decode cX0_sortIn 15 = .ok (.iload_n 2, 1) := by decide +kernel
theorem dX0_sortIn_16 : decode cX0_sortIn 16 = .ok (.iconst 0, 1) := by decide +kernel
theorem dX0_sortIn_17 : decode cX0_sortIn 17 = .ok (.iastore, 1) := by decide +kernel
theorem dX0_sortIn_18 : decode cX0_sortIn 18 = .ok (.aload_n 0, 1) := by decide +kernel
theorem dX0_sortIn_19 : decode cX0_sortIn 19 = .ok (.getfield 22, 3) := by decide +kernel
theorem dX0_sortIn_22 : decode cX0_sortIn 22 = .ok (.iload_n 2, 1) := by decide +kernel
theorem dX0_sortIn_23 : decode cX0_sortIn 23 = .ok (.iconst 0, 1) := by decide +kernel
theorem dX0_sortIn_24 : decode cX0_sortIn 24 = .ok (.iastore, 1) := by decide +kernel
theorem dX0_sortIn_25 : decode cX0_sortIn 25 = .ok (.aload_n 0, 1) := by decide +kernel
theorem dX0_sortIn_26 : decode cX0_sortIn 26 = .ok (.getfield 25, 3) := by decide +kernel
theorem dX0_sortIn_29 : decode cX0_sortIn 29 = .ok (.iload_n 2, 1) := by decide +kernel
theorem dX0_sortIn_30 : decode cX0_sortIn 30 = .ok (.iconst 0, 1) := by decide +kernel
theorem dX0_sortIn_31 : decode cX0_sortIn 31 = .ok (.iastore, 1) := by decide +kernel
theorem dX0_sortIn_32 : decode cX0_sortIn 32 = .ok (.aload_n 0, 1) := by decide +kernel
theorem dX0_sortIn_33 : decode cX0_sortIn 33 = .ok (.getfield 28, 3) := by decide +kernel
theorem dX0_sortIn_36 : decode cX0_sortIn 36 = .ok (.iload_n 2, 1) := by decide +kernel
theorem dX0_sortIn_37 : decode cX0_sortIn 37 = .ok (.iconst 0, 1) := by decide +kernel
theorem dX0_sortIn_38 : decode cX0_sortIn 38 = .ok (.iastore, 1) := by decide +kernel
theorem dX0_sortIn_39 : decode cX0_sortIn 39 = .ok (.aload_n 0, 1) := by decide +kernel
theorem dX0_sortIn_40 : decode cX0_sortIn 40 = .ok (.getfield 31, 3) := by decide +kernel
theorem dX0_sortIn_43 : decode cX0_sortIn 43 = .ok (.iload_n 2, 1) := by decide +kernel
theorem dX0_sortIn_44 : decode cX0_sortIn 44 = .ok (.iconst 0, 1) := by decide +kernel
theorem dX0_sortIn_45 : decode cX0_sortIn 45 = .ok (.iastore, 1) := by decide +kernel
theorem dX0_sortIn_46 : decode cX0_sortIn 46 = .ok (.iinc 2 1, 3) := by decide +kernel
theorem dX0_sortIn_49 : decode cX0_sortIn 49 = .ok (.goto (-47), 3) := by decide +kernel
theorem dX0_sortIn_52 : decode cX0_sortIn 52 = .ok (.iconst 0, 1) := by decide +kernel
theorem dX0_sortIn_53 : decode cX0_sortIn 53 = .ok (.istore_n 2, 1) := by decide +kernel
theorem dX0_sortIn_54 : decode cX0_sortIn 54 = .ok (.iload_n 2, 1) := by decide +kernel
theorem dX0_sortIn_55 : decode cX0_sortIn 55 = .ok (.aload_n 1, 1) := by decide +kernel
theorem dX0_sortIn_56 : decode cX0_sortIn 56 = .ok (.getfield 46, 3) := by decide +kernel
theorem dX0_sortIn_59 : decode cX0_sortIn 59 = .ok (.if_icmp .ge 89, 3) := by decide +kernel
theorem dX0_sortIn_62 : decode cX0_sortIn 62 = .ok (.aload_n 1, 1) := by decide +kernel
theorem dX0_sortIn_63 : decode cX0_sortIn 63 = .ok (.getfield 51, 3) := by decide +kernel
theorem dX0_sortIn_66 : decode cX0_sortIn 66 = .ok (.iload_n 2, 1) := by decide +kernel
theorem dX0_sortIn_67 : decode cX0_sortIn 67 = .ok (.iaload, 1) := by decide +kernel
theorem dX0_sortIn_68 : decode cX0_sortIn 68 = .ok (.istore_n 3, 1) := by decide +kernel
theorem dX0_sortIn_69 : decode cX0_sortIn 69 = .ok (.aload_n 0, 1) := by decide +kernel
theorem dX0_sortIn_70 : decode cX0_sortIn 70 = .ok (.iload_n 3, 1) := by decide +kernel
theorem dX0_sortIn_71 : decode cX0_sortIn 71 = .ok (.invokevirtual 34, 3) := by decide +kernel
theorem dX0_sortIn_74 : decode cX0_sortIn 74 = .ok (.istore 4, 2) := by decide +kernel
theorem dX0_sortIn_76 : decode cX0_sortIn 76 = .ok (.aload_n 0, 1) := by decide +kernel
theorem dX0_sortIn_77 : decode cX0_sortIn 77 = .ok (.getfield 19, 3) := by decide +kernel
theorem dX0_sortIn_80 : decode cX0_sortIn 80 = .ok (.iload 4, 2) := by decide +kernel
theorem dX0_sortIn_82 : decode cX0_sortIn 82 = .ok (.dup2, 1) := by decide +kernel
theorem dX0_sortIn_83 : decode cX0_sortIn 83 = .ok (.iaload, 1) := by decide +kernel
theorem dX0_sortIn_84 : decode cX0_sortIn 84 = .ok (.iconst 1, 1) := by decide +kernel
theorem dX0_sortIn_85 : decode cX0_sortIn 85 = .ok (.iadd, 1) := by decide +kernel
theorem dX0_sortIn_86 : decode cX0_sortIn 86 = .ok (.iastore, 1) := by decide +kernel
theorem dX0_sortIn_87 : decode cX0_sortIn 87 = .ok (.aload_n 0, 1) := by decide +kernel
theorem dX0_sortIn_88 : decode cX0_sortIn 88 = .ok (.getfield 25, 3) := by decide +kernel
theorem dX0_sortIn_91 : decode cX0_sortIn 91 = .ok (.iload 4, 2) := by decide +kernel
theorem dX0_sortIn_93 : decode cX0_sortIn 93 = .ok (.dup2, 1) := by decide +kernel
theorem dX0_sortIn_94 : decode cX0_sortIn 94 = .ok (.iaload, 1) := by decide +kernel
theorem dX0_sortIn_95 : decode cX0_sortIn 95 = .ok (.iload_n 3, 1) := by decide +kernel
theorem dX0_sortIn_96 : decode cX0_sortIn 96 = .ok (.iadd, 1) := by decide +kernel
theorem dX0_sortIn_97 : decode cX0_sortIn 97 = .ok (.iastore, 1) := by decide +kernel
theorem dX0_sortIn_98 : decode cX0_sortIn 98 = .ok (.aload_n 0, 1) := by decide +kernel
theorem dX0_sortIn_99 : decode cX0_sortIn 99 = .ok (.getfield 28, 3) := by decide +kernel
theorem dX0_sortIn_102 : decode cX0_sortIn 102 = .ok (.iload 4, 2) := by decide +kernel
theorem dX0_sortIn_104 : decode cX0_sortIn 104 = .ok (.dup2, 1) := by decide +kernel
theorem dX0_sortIn_105 : decode cX0_sortIn 105 = .ok (.iaload, 1) := by decide +kernel
theorem dX0_sortIn_106 : decode cX0_sortIn 106 = .ok (.iload_n 3, 1) := by decide +kernel
theorem dX0_sortIn_107 : decode cX0_sortIn 107 = .ok (.iload_n 3, 1) := by decide +kernel
theorem dX0_sortIn_108 : decode cX0_sortIn 108 = .ok (.imul, 1) := by decide +kernel
theorem dX0_sortIn_109 : decode cX0_sortIn 109 = .ok (.iadd, 1) := by decide +kernel
theorem dX0_sortIn_110 : decode cX0_sortIn 110 = .ok (.iastore, 1) := by decide +kernel
theorem dX0_sortIn_111 : decode cX0_sortIn 111 = .ok (.aload_n 1, 1) := by decide +kernel
theorem dX0_sortIn_112 : decode cX0_sortIn 112 = .ok (.getfield 54, 3) := by decide +kernel
theorem dX0_sortIn_115 : decode cX0_sortIn 115 = .ok (.iload_n 2, 1) := by decide +kernel
theorem dX0_sortIn_116 : decode cX0_sortIn 116 = .ok (.baload, 1) := by decide +kernel
theorem dX0_sortIn_117 : decode cX0_sortIn 117 = .ok (.ifCond .eq 25, 3) := by decide +kernel
theorem dX0_sortIn_120 : decode cX0_sortIn 120 = .ok (.aload_n 0, 1) := by decide +kernel
theorem dX0_sortIn_121 : decode cX0_sortIn 121 = .ok (.getfield 22, 3) := by decide +kernel
theorem dX0_sortIn_124 : decode cX0_sortIn 124 = .ok (.iload 4, 2) := by decide +kernel
theorem dX0_sortIn_126 : decode cX0_sortIn 126 = .ok (.dup2, 1) := by decide +kernel
theorem dX0_sortIn_127 : decode cX0_sortIn 127 = .ok (.iaload, 1) := by decide +kernel
theorem dX0_sortIn_128 : decode cX0_sortIn 128 = .ok (.iconst 1, 1) := by decide +kernel
theorem dX0_sortIn_129 : decode cX0_sortIn 129 = .ok (.iadd, 1) := by decide +kernel
theorem dX0_sortIn_130 : decode cX0_sortIn 130 = .ok (.iastore, 1) := by decide +kernel
theorem dX0_sortIn_131 : decode cX0_sortIn 131 = .ok (.aload_n 0, 1) := by decide +kernel
theorem dX0_sortIn_132 : decode cX0_sortIn 132 = .ok (.getfield 31, 3) := by decide +kernel
theorem dX0_sortIn_135 : decode cX0_sortIn 135 = .ok (.iload 4, 2) := by decide +kernel
theorem dX0_sortIn_137 : decode cX0_sortIn 137 = .ok (.dup2, 1) := by decide +kernel
theorem dX0_sortIn_138 : decode cX0_sortIn 138 = .ok (.iaload, 1) := by decide +kernel
theorem dX0_sortIn_139 : decode cX0_sortIn 139 = .ok (.iload_n 3, 1) := by decide +kernel
theorem dX0_sortIn_140 : decode cX0_sortIn 140 = .ok (.iadd, 1) := by decide +kernel
theorem dX0_sortIn_141 : decode cX0_sortIn 141 = .ok (.iastore, 1) := by decide +kernel
theorem dX0_sortIn_142 : decode cX0_sortIn 142 = .ok (.iinc 2 1, 3) := by decide +kernel
theorem dX0_sortIn_145 : decode cX0_sortIn 145 = .ok (.goto (-91), 3) := by decide +kernel
theorem dX0_sortIn_148 : decode cX0_sortIn 148 = .ok (.return_, 1) := by decide +kernel
theorem dX0_squared_0 : decode cX0_squared 0 = .ok (.lload_n 0, 1) := by decide +kernel
theorem dX0_squared_1 : decode cX0_squared 1 = .ok (.lload_n 0, 1) := by decide +kernel
theorem dX0_squared_2 : decode cX0_squared 2 = .ok (.lmul, 1) := by decide +kernel
theorem dX0_squared_3 : decode cX0_squared 3 = .ok (.lreturn, 1) := by decide +kernel
theorem dX0_binTerm_0 : decode cX0_binTerm 0 = .ok (.aload_n 0, 1) := by decide +kernel
theorem dX0_binTerm_1 : decode cX0_binTerm 1 = .ok (.getfield 19, 3) := by decide +kernel
theorem dX0_binTerm_4 : decode cX0_binTerm 4 = .ok (.iload_n 2, 1) := by decide +kernel
theorem dX0_binTerm_5 : decode cX0_binTerm 5 = .ok (.iaload, 1) := by decide +kernel
theorem dX0_binTerm_6 : decode cX0_binTerm 6 = .ok (.i2l, 1) := by decide +kernel
theorem dX0_binTerm_7 : decode cX0_binTerm 7 = .ok (.lstore 7, 2) := by decide +kernel
theorem dX0_binTerm_9 : decode cX0_binTerm 9 = .ok (.aload_n 0, 1) := by decide +kernel
theorem dX0_binTerm_10 : decode cX0_binTerm 10 = .ok (.getfield 22, 3) := by decide +kernel
theorem dX0_binTerm_13 : decode cX0_binTerm 13 = .ok (.iload_n 2, 1) := by decide +kernel
theorem dX0_binTerm_14 : decode cX0_binTerm 14 = .ok (.iaload, 1) := by decide +kernel
theorem dX0_binTerm_15 : decode cX0_binTerm 15 = .ok (.i2l, 1) := by decide +kernel
theorem dX0_binTerm_16 : decode cX0_binTerm 16 = .ok (.lstore 9, 2) := by decide +kernel
theorem dX0_binTerm_18 : decode cX0_binTerm 18 = .ok (.aload_n 0, 1) := by decide +kernel
theorem dX0_binTerm_19 : decode cX0_binTerm 19 = .ok (.getfield 25, 3) := by decide +kernel
theorem dX0_binTerm_22 : decode cX0_binTerm 22 = .ok (.iload_n 2, 1) := by decide +kernel
theorem dX0_binTerm_23 : decode cX0_binTerm 23 = .ok (.iaload, 1) := by decide +kernel
theorem dX0_binTerm_24 : decode cX0_binTerm 24 = .ok (.i2l, 1) := by decide +kernel
theorem dX0_binTerm_25 : decode cX0_binTerm 25 = .ok (.lstore 11, 2) := by decide +kernel
theorem dX0_binTerm_27 : decode cX0_binTerm 27 = .ok (.iload_n 1, 1) := by decide +kernel
theorem dX0_binTerm_28 : decode cX0_binTerm 28 = .ok (.iconst 1, 1) := by decide +kernel
theorem dX0_binTerm_29 : decode cX0_binTerm 29 = .ok (.if_icmp .ne 17, 3) := by decide +kernel
theorem dX0_binTerm_32 : decode cX0_binTerm 32 = .ok (.lload 9, 2) := by decide +kernel
theorem dX0_binTerm_34 : decode cX0_binTerm 34 = .ok (.lload_n 3, 1) := by decide +kernel
theorem dX0_binTerm_35 : decode cX0_binTerm 35 = .ok (.lmul, 1) := by decide +kernel
theorem dX0_binTerm_36 : decode cX0_binTerm 36 = .ok (.lload 5, 2) := by decide +kernel
theorem dX0_binTerm_38 : decode cX0_binTerm 38 = .ok (.lload 7, 2) := by decide +kernel
theorem dX0_binTerm_40 : decode cX0_binTerm 40 = .ok (.lmul, 1) := by decide +kernel
theorem dX0_binTerm_41 : decode cX0_binTerm 41 = .ok (.lsub, 1) := by decide +kernel
theorem dX0_binTerm_42 : decode cX0_binTerm 42 = .ok (.invokestatic 82, 3) := by decide +kernel
theorem dX0_binTerm_45 : decode cX0_binTerm 45 = .ok (.lreturn, 1) := by decide +kernel
theorem dX0_binTerm_46 : decode cX0_binTerm 46 = .ok (.iload_n 1, 1) := by decide +kernel
theorem dX0_binTerm_47 : decode cX0_binTerm 47 = .ok (.iconst 2, 1) := by decide +kernel
theorem dX0_binTerm_48 : decode cX0_binTerm 48 = .ok (.if_icmp .ne 16, 3) := by decide +kernel
theorem dX0_binTerm_51 : decode cX0_binTerm 51 = .ok (.lload 11, 2) := by decide +kernel
theorem dX0_binTerm_53 : decode cX0_binTerm 53 = .ok (.ldc2_w 86, 3) := by decide +kernel
theorem dX0_binTerm_56 : decode cX0_binTerm 56 = .ok (.lload 9, 2) := by decide +kernel
theorem dX0_binTerm_58 : decode cX0_binTerm 58 = .ok (.lmul, 1) := by decide +kernel
theorem dX0_binTerm_59 : decode cX0_binTerm 59 = .ok (.lsub, 1) := by decide +kernel
theorem dX0_binTerm_60 : decode cX0_binTerm 60 = .ok (.invokestatic 82, 3) := by decide +kernel
theorem dX0_binTerm_63 : decode cX0_binTerm 63 = .ok (.lreturn, 1) := by decide +kernel
theorem dX0_binTerm_64 : decode cX0_binTerm 64 = .ok (.iload_n 1, 1) := by decide +kernel
theorem dX0_binTerm_65 : decode cX0_binTerm 65 = .ok (.iconst 3, 1) := by decide +kernel
theorem dX0_binTerm_66 : decode cX0_binTerm 66 = .ok (.if_icmp .ne 20, 3) := by decide +kernel
theorem dX0_binTerm_69 : decode cX0_binTerm 69 = .ok (.lload 7, 2) := by decide +kernel
theorem dX0_binTerm_71 : decode cX0_binTerm 71 = .ok (.aload_n 0, 1) := by decide +kernel
theorem dX0_binTerm_72 : decode cX0_binTerm 72 = .ok (.getfield 28, 3) := by decide +kernel
theorem dX0_binTerm_75 : decode cX0_binTerm 75 = .ok (.iload_n 2, 1) := by decide +kernel
theorem dX0_binTerm_76 : decode cX0_binTerm 76 = .ok (.iaload, 1) := by decide +kernel
theorem dX0_binTerm_77 : decode cX0_binTerm 77 = .ok (.i2l, 1) := by decide +kernel
theorem dX0_binTerm_78 : decode cX0_binTerm 78 = .ok (.lmul, 1) := by decide +kernel
theorem dX0_binTerm_79 : decode cX0_binTerm 79 = .ok (.lload 11, 2) := by decide +kernel
theorem dX0_binTerm_81 : decode cX0_binTerm 81 = .ok (.lload 11, 2) := by decide +kernel
theorem dX0_binTerm_83 : decode cX0_binTerm 83 = .ok (.lmul, 1) := by decide +kernel
theorem dX0_binTerm_84 : decode cX0_binTerm 84 = .ok (.lsub, 1) := by decide +kernel
theorem dX0_binTerm_85 : decode cX0_binTerm 85 = .ok (.lreturn, 1) := by decide +kernel
theorem dX0_binTerm_86 : decode cX0_binTerm 86 = .ok (.ldc2_w 88, 3) := by decide +kernel
theorem dX0_binTerm_89 : decode cX0_binTerm 89 = .ok (.lload 7, 2) := by decide +kernel
theorem dX0_binTerm_91 : decode cX0_binTerm 91 = .ok (.aload_n 0, 1) := by decide +kernel
theorem dX0_binTerm_92 : decode cX0_binTerm 92 = .ok (.getfield 31, 3) := by decide +kernel
theorem dX0_binTerm_95 : decode cX0_binTerm 95 = .ok (.iload_n 2, 1) := by decide +kernel
theorem dX0_binTerm_96 : decode cX0_binTerm 96 = .ok (.iaload, 1) := by decide +kernel
theorem dX0_binTerm_97 : decode cX0_binTerm 97 = .ok (.i2l, 1) := by decide +kernel
theorem dX0_binTerm_98 : decode cX0_binTerm 98 = .ok (.lmul, 1) := by decide +kernel
theorem dX0_binTerm_99 : decode cX0_binTerm 99 = .ok (.lload 11, 2) := by decide +kernel
theorem dX0_binTerm_101 : decode cX0_binTerm 101 = .ok (.lload 9, 2) := by decide +kernel
theorem dX0_binTerm_103 : decode cX0_binTerm 103 = .ok (.lmul, 1) := by decide +kernel
theorem dX0_binTerm_104 : decode cX0_binTerm 104 = .ok (.lsub, 1) := by decide +kernel
theorem dX0_binTerm_105 : decode cX0_binTerm 105 = .ok (.lmul, 1) := by decide +kernel
theorem dX0_binTerm_106 : decode cX0_binTerm 106 = .ok (.lreturn, 1) := by decide +kernel
theorem dX0_scaleOf_0 : decode cX0_scaleOf 0 = .ok (.iload_n 0, 1) := by decide +kernel
theorem dX0_scaleOf_1 : decode cX0_scaleOf 1 = .ok (.iconst 1, 1) := by decide +kernel
theorem dX0_scaleOf_2 : decode cX0_scaleOf 2 = .ok (.if_icmp .ne 9, 3) := by decide +kernel
theorem dX0_scaleOf_5 : decode cX0_scaleOf 5 = .ok (.lload_n 1, 1) := by decide +kernel
theorem dX0_scaleOf_6 : decode cX0_scaleOf 6 = .ok (.lload_n 1, 1) := by decide +kernel
theorem dX0_scaleOf_7 : decode cX0_scaleOf 7 = .ok (.lmul, 1) := by decide +kernel
theorem dX0_scaleOf_8 : decode cX0_scaleOf 8 = .ok (.lload_n 1, 1) := by decide +kernel
theorem dX0_scaleOf_9 : decode cX0_scaleOf 9 = .ok (.lmul, 1) := by decide +kernel
theorem dX0_scaleOf_10 : decode cX0_scaleOf 10 = .ok (.lreturn, 1) := by decide +kernel
theorem dX0_scaleOf_11 : decode cX0_scaleOf 11 = .ok (.iload_n 0, 1) := by decide +kernel
theorem dX0_scaleOf_12 : decode cX0_scaleOf 12 = .ok (.iconst 4, 1) := by decide +kernel
theorem dX0_scaleOf_13 : decode cX0_scaleOf 13 = .ok (.if_icmp .ne 11, 3) := by decide +kernel
theorem dX0_scaleOf_16 : decode cX0_scaleOf 16 = .ok (.ldc2_w 86, 3) := by decide +kernel
theorem dX0_scaleOf_19 : decode cX0_scaleOf 19 = .ok (.lload_n 1, 1) := by decide +kernel
theorem dX0_scaleOf_20 : decode cX0_scaleOf 20 = .ok (.lmul, 1) := by decide +kernel
theorem dX0_scaleOf_21 : decode cX0_scaleOf 21 = .ok (.goto 8, 3) := by decide +kernel
theorem dX0_scaleOf_24 : decode cX0_scaleOf 24 = .ok (.ldc2_w 90, 3) := by decide +kernel
theorem dX0_scaleOf_27 : decode cX0_scaleOf 27 = .ok (.lload_n 1, 1) := by decide +kernel
theorem dX0_scaleOf_28 : decode cX0_scaleOf 28 = .ok (.lmul, 1) := by decide +kernel
theorem dX0_scaleOf_29 : decode cX0_scaleOf 29 = .ok (.lreturn, 1) := by decide +kernel
theorem dX0_findPart_0 : decode cX0_findPart 0 = .ok (.aload_n 2, 1) := by decide +kernel
theorem dX0_findPart_1 : decode cX0_findPart 1 = .ok (.getfield 46, 3) := by decide +kernel
theorem dX0_findPart_4 : decode cX0_findPart 4 = .ok (.i2l, 1) := by decide +kernel
theorem dX0_findPart_5 : decode cX0_findPart 5 = .ok (.lstore 4, 2) := by decide +kernel
theorem dX0_findPart_7 : decode cX0_findPart 7 = .ok (.aload_n 2, 1) := by decide +kernel
theorem dX0_findPart_8 : decode cX0_findPart 8 = .ok (.getfield 58, 3) := by decide +kernel
theorem dX0_findPart_11 : decode cX0_findPart 11 = .ok (.i2l, 1) := by decide +kernel
theorem dX0_findPart_12 : decode cX0_findPart 12 = .ok (.lstore 6, 2) := by decide +kernel
theorem dX0_findPart_14 : decode cX0_findPart 14 = .ok (.iload_n 1, 1) := by decide +kernel
theorem dX0_findPart_15 : decode cX0_findPart 15 = .ok (.ifCond .ne 21, 3) := by decide +kernel
theorem dX0_findPart_18 : decode cX0_findPart 18 = .ok (.aload_n 3, 1) := by decide +kernel
theorem dX0_findPart_19 : decode cX0_findPart 19 = .ok (.lload 6, 2) := by decide +kernel
theorem dX0_findPart_21 : decode cX0_findPart 21 = .ok (.lload 4, 2) := by decide +kernel
theorem dX0_findPart_23 : decode cX0_findPart 23 = .ok (.lload 6, 2) := by decide +kernel
theorem dX0_findPart_25 : decode cX0_findPart 25 = .ok (.lsub, 1) := by decide +kernel
theorem dX0_findPart_26 : decode cX0_findPart 26 = .ok (.lmul, 1) := by decide +kernel
theorem dX0_findPart_27 : decode cX0_findPart 27 = .ok (.lload 4, 2) := by decide +kernel
theorem dX0_findPart_29 : decode cX0_findPart 29 = .ok (.lload 4, 2) := by decide +kernel
theorem dX0_findPart_31 : decode cX0_findPart 31 = .ok (.lmul, 1) := by decide +kernel
theorem dX0_findPart_32 : decode cX0_findPart 32 = .ok (.invokevirtual 61, 3) := by decide +kernel
theorem dX0_findPart_35 : decode cX0_findPart 35 = .ok (.return_, 1) := by decide +kernel
theorem dX0_findPart_36 : decode cX0_findPart 36 = .ok (.aload_n 3, 1) := by decide +kernel
theorem dX0_findPart_37 : decode cX0_findPart 37 = .ok (.lconst 0, 1) := by decide +kernel
theorem dX0_findPart_38 : decode cX0_findPart 38 = .ok (.lconst 1, 1) := by decide +kernel
theorem dX0_findPart_39 : decode cX0_findPart 39 = .ok (.invokevirtual 61, 3) := by decide +kernel
theorem dX0_findPart_42 : decode cX0_findPart 42 = .ok (.iconst 0, 1) := by decide +kernel
theorem dX0_findPart_43 : decode cX0_findPart 43 = .ok (.istore 8, 2) := by decide +kernel
theorem dX0_findPart_45 : decode cX0_findPart 45 = .ok (.iload 8, 2) := by decide +kernel
theorem dX0_findPart_47 : decode cX0_findPart 47 = .ok (.aload_n 0, 1) := by decide +kernel
theorem dX0_findPart_48 : decode cX0_findPart 48 = .ok (.getfield 15, 3) := by decide +kernel
theorem dX0_findPart_51 : decode cX0_findPart 51 = .ok (.if_icmp .gt 42, 3) := by decide +kernel
theorem dX0_findPart_54 : decode cX0_findPart 54 = .ok (.aload_n 0, 1) := by decide +kernel
theorem dX0_findPart_55 : decode cX0_findPart 55 = .ok (.getfield 19, 3) := by decide +kernel
theorem dX0_findPart_58 : decode cX0_findPart 58 = .ok (.iload 8, 2) := by decide +kernel
theorem dX0_findPart_60 : decode cX0_findPart 60 = .ok (.iaload, 1) := by decide +kernel
theorem dX0_findPart_61 : decode cX0_findPart 61 = .ok (.ifCond .le 26, 3) := by decide +kernel
theorem dX0_findPart_64 : decode cX0_findPart 64 = .ok (.aload_n 3, 1) := by decide +kernel
theorem dX0_findPart_65 : decode cX0_findPart 65 = .ok (.aload_n 0, 1) := by decide +kernel
theorem dX0_findPart_66 : decode cX0_findPart 66 = .ok (.iload_n 1, 1) := by decide +kernel
theorem dX0_findPart_67 : decode cX0_findPart 67 = .ok (.iload 8, 2) := by decide +kernel
theorem dX0_findPart_69 : decode cX0_findPart 69 = .ok (.lload 4, 2) := by decide +kernel
theorem dX0_findPart_71 : decode cX0_findPart 71 = .ok (.lload 6, 2) := by decide +kernel
theorem dX0_findPart_73 : decode cX0_findPart 73 = .ok (.invokevirtual 67, 3) := by decide +kernel
theorem dX0_findPart_76 : decode cX0_findPart 76 = .ok (.aload_n 0, 1) := by decide +kernel
theorem dX0_findPart_77 : decode cX0_findPart 77 = .ok (.getfield 19, 3) := by decide +kernel
theorem dX0_findPart_80 : decode cX0_findPart 80 = .ok (.iload 8, 2) := by decide +kernel
theorem dX0_findPart_82 : decode cX0_findPart 82 = .ok (.iaload, 1) := by decide +kernel
theorem dX0_findPart_83 : decode cX0_findPart 83 = .ok (.i2l, 1) := by decide +kernel
theorem dX0_findPart_84 : decode cX0_findPart 84 = .ok (.invokevirtual 71, 3) := by decide +kernel
theorem dX0_findPart_87 : decode cX0_findPart 87 = .ok (.iinc 8 1, 3) := by decide +kernel
theorem dX0_findPart_90 : decode cX0_findPart 90 = .ok (.goto (-45), 3) := by decide +kernel
theorem dX0_findPart_93 : decode cX0_findPart 93 = .ok (.aload_n 3, 1) := by decide +kernel
theorem dX0_findPart_94 : decode cX0_findPart 94 = .ok (.iload_n 1, 1) := by decide +kernel
theorem dX0_findPart_95 : decode cX0_findPart 95 = .ok (.lload 4, 2) := by decide +kernel
theorem dX0_findPart_97 : decode cX0_findPart 97 = .ok (.invokestatic 74, 3) := by decide +kernel
theorem dX0_findPart_100 : decode cX0_findPart 100 = .ok (.invokevirtual 78, 3) := by decide +kernel
theorem dX0_findPart_103 : decode cX0_findPart 103 = .ok (.return_, 1) := by decide +kernel
theorem dX0_findJoinLoss_0 : decode cX0_findJoinLoss 0 = .ok (.aload_n 0, 1) := by decide +kernel
theorem dX0_findJoinLoss_1 : decode cX0_findJoinLoss 1 = .ok (.getfield 19, 3) := by decide +kernel
theorem dX0_findJoinLoss_4 : decode cX0_findJoinLoss 4 = .ok (.iload_n 1, 1) := by decide +kernel
theorem dX0_findJoinLoss_5 : decode cX0_findJoinLoss 5 = .ok (.iaload, 1) := by decide +kernel
theorem dX0_findJoinLoss_6 : decode cX0_findJoinLoss 6 = .ok (.i2l, 1) := by decide +kernel
theorem dX0_findJoinLoss_7 : decode cX0_findJoinLoss 7 = .ok (.lstore 4, 2) := by decide +kernel
theorem dX0_findJoinLoss_9 : decode cX0_findJoinLoss 9 = .ok (.aload_n 0, 1) := by decide +kernel
theorem dX0_findJoinLoss_10 : decode cX0_findJoinLoss 10 = .ok (.getfield 19, 3) := by decide +kernel
theorem dX0_findJoinLoss_13 : decode cX0_findJoinLoss 13 = .ok (.iload_n 1, 1) := by decide +kernel
theorem dX0_findJoinLoss_14 : decode cX0_findJoinLoss 14 = .ok (.iconst 1, 1) := by decide +kernel
theorem dX0_findJoinLoss_15 : decode cX0_findJoinLoss 15 = .ok (.iadd, 1) := by decide +kernel
theorem dX0_findJoinLoss_16 : decode cX0_findJoinLoss 16 = .ok (.iaload, 1) := by decide +kernel
theorem dX0_findJoinLoss_17 : decode cX0_findJoinLoss 17 = .ok (.i2l, 1) := by decide +kernel
theorem dX0_findJoinLoss_18 : decode cX0_findJoinLoss 18 = .ok (.lstore 6, 2) := by decide +kernel
theorem dX0_findJoinLoss_20 : decode cX0_findJoinLoss 20 = .ok (.lload 4, 2) := by decide +kernel
theorem dX0_findJoinLoss_22 : decode cX0_findJoinLoss 22 = .ok (.lconst 0, 1) := by decide +kernel
theorem dX0_findJoinLoss_23 : decode cX0_findJoinLoss 23 = .ok (.lcmp, 1) := by decide +kernel
theorem dX0_findJoinLoss_24 : decode cX0_findJoinLoss 24 = .ok (.ifCond .eq 10, 3) := by decide +kernel
theorem dX0_findJoinLoss_27 : decode cX0_findJoinLoss 27 = .ok (.lload 6, 2) := by decide +kernel
theorem dX0_findJoinLoss_29 : decode cX0_findJoinLoss 29 = .ok (.lconst 0, 1) := by decide +kernel
theorem dX0_findJoinLoss_30 : decode cX0_findJoinLoss 30 = .ok (.lcmp, 1) := by decide +kernel
theorem dX0_findJoinLoss_31 : decode cX0_findJoinLoss 31 = .ok (.ifCond .ne 10, 3) := by decide +kernel
theorem dX0_findJoinLoss_34 : decode cX0_findJoinLoss 34 = .ok (.aload_n 3, 1) := by decide +kernel
theorem dX0_findJoinLoss_35 : decode cX0_findJoinLoss 35 = .ok (.lconst 0, 1) := by decide +kernel
theorem dX0_findJoinLoss_36 : decode cX0_findJoinLoss 36 = .ok (.lconst 1, 1) := by decide +kernel
theorem dX0_findJoinLoss_37 : decode cX0_findJoinLoss 37 = .ok (.invokevirtual 61, 3) := by decide +kernel
theorem dX0_findJoinLoss_40 : decode cX0_findJoinLoss 40 = .ok (.return_, 1) := by decide +kernel
theorem dX0_findJoinLoss_41 : decode cX0_findJoinLoss 41 = .ok (.aload_n 3, 1) := by decide +kernel
theorem dX0_findJoinLoss_42 : decode cX0_findJoinLoss 42 = .ok (.aload_n 0, 1) := by decide +kernel
theorem dX0_findJoinLoss_43 : decode cX0_findJoinLoss 43 = .ok (.getfield 22, 3) := by decide +kernel
theorem dX0_findJoinLoss_46 : decode cX0_findJoinLoss 46 = .ok (.iload_n 1, 1) := by decide +kernel
theorem dX0_findJoinLoss_47 : decode cX0_findJoinLoss 47 = .ok (.iaload, 1) := by decide +kernel
theorem dX0_findJoinLoss_48 : decode cX0_findJoinLoss 48 = .ok (.i2l, 1) := by decide +kernel
theorem dX0_findJoinLoss_49 : decode cX0_findJoinLoss 49 = .ok (.lload 6, 2) := by decide +kernel
theorem dX0_findJoinLoss_51 : decode cX0_findJoinLoss 51 = .ok (.lmul, 1) := by decide +kernel
theorem dX0_findJoinLoss_52 : decode cX0_findJoinLoss 52 = .ok (.aload_n 0, 1) := by decide +kernel
theorem dX0_findJoinLoss_53 : decode cX0_findJoinLoss 53 = .ok (.getfield 22, 3) := by decide +kernel
theorem dX0_findJoinLoss_56 : decode cX0_findJoinLoss 56 = .ok (.iload_n 1, 1) := by decide +kernel
theorem dX0_findJoinLoss_57 : decode cX0_findJoinLoss 57 = .ok (.iconst 1, 1) := by decide +kernel
theorem dX0_findJoinLoss_58 : decode cX0_findJoinLoss 58 = .ok (.iadd, 1) := by decide +kernel
theorem dX0_findJoinLoss_59 : decode cX0_findJoinLoss 59 = .ok (.iaload, 1) := by decide +kernel
theorem dX0_findJoinLoss_60 : decode cX0_findJoinLoss 60 = .ok (.i2l, 1) := by decide +kernel
theorem dX0_findJoinLoss_61 : decode cX0_findJoinLoss 61 = .ok (.lload 4, 2) := by decide +kernel
theorem dX0_findJoinLoss_63 : decode cX0_findJoinLoss 63 = .ok (.lmul, 1) := by decide +kernel
theorem dX0_findJoinLoss_64 : decode cX0_findJoinLoss 64 = .ok (.lsub, 1) := by decide +kernel
theorem dX0_findJoinLoss_65 : decode cX0_findJoinLoss 65 = .ok (.invokestatic 82, 3) := by decide +kernel
theorem dX0_findJoinLoss_68 : decode cX0_findJoinLoss 68 = .ok (.lload 4, 2) := by decide +kernel
theorem dX0_findJoinLoss_70 : decode cX0_findJoinLoss 70 = .ok (.lload 6, 2) := by decide +kernel
theorem dX0_findJoinLoss_72 : decode cX0_findJoinLoss 72 = .ok (.lmul, 1) := by decide +kernel
theorem dX0_findJoinLoss_73 : decode cX0_findJoinLoss 73 = .ok (.lload 4, 2) := by decide +kernel
theorem dX0_findJoinLoss_75 : decode cX0_findJoinLoss 75 = .ok (.lload 6, 2) := by decide +kernel
theorem dX0_findJoinLoss_77 : decode cX0_findJoinLoss 77 = .ok (.ladd, 1) := by decide +kernel
theorem dX0_findJoinLoss_78 : decode cX0_findJoinLoss 78 = .ok (.lmul, 1) := by decide +kernel
theorem dX0_findJoinLoss_79 : decode cX0_findJoinLoss 79 = .ok (.aload_n 2, 1) := by decide +kernel
theorem dX0_findJoinLoss_80 : decode cX0_findJoinLoss 80 = .ok (.getfield 46, 3) := by decide +kernel
theorem dX0_findJoinLoss_83 : decode cX0_findJoinLoss 83 = .ok (.i2l, 1) := by decide +kernel
theorem dX0_findJoinLoss_84 : decode cX0_findJoinLoss 84 = .ok (.lmul, 1) := by decide +kernel
theorem dX0_findJoinLoss_85 : decode cX0_findJoinLoss 85 = .ok (.invokevirtual 61, 3) := by decide +kernel
theorem dX0_findJoinLoss_88 : decode cX0_findJoinLoss 88 = .ok (.return_, 1) := by decide +kernel
theorem dX9_codeAt_0 : decode cX9_codeAt 0 = .ok (.iload_n 1, 1) := by decide +kernel
theorem dX9_codeAt_1 : decode cX9_codeAt 1 = .ok (.ifCond .lt 20, 3) := by decide +kernel
theorem dX9_codeAt_4 : decode cX9_codeAt 4 = .ok (.iload_n 1, 1) := by decide +kernel
theorem dX9_codeAt_5 : decode cX9_codeAt 5 = .ok (.aload_n 0, 1) := by decide +kernel
theorem dX9_codeAt_6 : decode cX9_codeAt 6 = .ok (.getfield 15, 3) := by decide +kernel
theorem dX9_codeAt_9 : decode cX9_codeAt 9 = .ok (.if_icmp .ge 12, 3) := by decide +kernel
theorem dX9_codeAt_12 : decode cX9_codeAt 12 = .ok (.aload_n 0, 1) := by decide +kernel
theorem dX9_codeAt_13 : decode cX9_codeAt 13 = .ok (.getfield 9, 3) := by decide +kernel
theorem dX9_codeAt_16 : decode cX9_codeAt 16 = .ok (.iload_n 1, 1) := by decide +kernel
theorem dX9_codeAt_17 : decode cX9_codeAt 17 = .ok (.iaload, 1) := by decide +kernel
theorem dX9_codeAt_18 : decode cX9_codeAt 18 = .ok (.goto 5, 3) := by decide +kernel
theorem dX9_codeAt_21 : decode cX9_codeAt 21 = .ok (.bipush (-9), 2) := by decide +kernel
theorem dX9_codeAt_23 : decode cX9_codeAt 23 = .ok (.ireturn, 1) := by decide +kernel
theorem dX9_sharedWith_0 : decode cX9_sharedWith 0 = .ok (.iconst 0, 1) := by decide +kernel
theorem dX9_sharedWith_1 : decode cX9_sharedWith 1 = .ok (.istore_n 2, 1) := by decide +kernel
theorem dX9_sharedWith_2 : decode cX9_sharedWith 2 = .ok (.iload_n 2, 1) := by decide +kernel
theorem dX9_sharedWith_3 : decode cX9_sharedWith 3 = .ok (.aload_n 1, 1) := by decide +kernel
theorem dX9_sharedWith_4 : decode cX9_sharedWith 4 = .ok (.invokevirtual 19, 3) := by decide +kernel
theorem dX9_sharedWith_7 : decode cX9_sharedWith 7 = .ok (.if_icmp .ge 22, 3) := by decide +kernel
theorem dX9_sharedWith_10 : decode cX9_sharedWith 10 = .ok (.aload_n 0, 1) := by decide +kernel
theorem dX9_sharedWith_11 : decode cX9_sharedWith 11 = .ok (.iload_n 2, 1) := by decide +kernel
theorem dX9_sharedWith_12 : decode cX9_sharedWith 12 = .ok (.invokevirtual 28, 3) := by decide +kernel
theorem dX9_sharedWith_15 : decode cX9_sharedWith 15 = .ok (.aload_n 1, 1) := by decide +kernel
theorem dX9_sharedWith_16 : decode cX9_sharedWith 16 = .ok (.iload_n 2, 1) := by decide +kernel
theorem dX9_sharedWith_17 : decode cX9_sharedWith 17 = .ok (.invokevirtual 32, 3) := by decide +kernel
theorem dX9_sharedWith_20 : decode cX9_sharedWith 20 = .ok (.if_icmp .ne 9, 3) := by decide +kernel
theorem dX9_sharedWith_23 : decode cX9_sharedWith 23 = .ok (.iinc 2 1, 3) := by decide +kernel
theorem dX9_sharedWith_26 : decode cX9_sharedWith 26 = .ok (.goto (-24), 3) := by decide +kernel
theorem dX9_sharedWith_29 : decode cX9_sharedWith 29 = .ok (.iload_n 2, 1) := by decide +kernel
theorem dX9_sharedWith_30 : decode cX9_sharedWith 30 = .ok (.ireturn, 1) := by decide +kernel
theorem dX5_readNumber_0 : decode cX5_readNumber 0 = .ok (.iconst 0, 1) := by decide +kernel
theorem dX5_readNumber_1 : decode cX5_readNumber 1 = .ok (.istore 4, 2) := by decide +kernel
theorem dX5_readNumber_3 : decode cX5_readNumber 3 = .ok (.iconst 0, 1) := by decide +kernel
theorem dX5_readNumber_4 : decode cX5_readNumber 4 = .ok (.istore 5, 2) := by decide +kernel
theorem dX5_readNumber_6 : decode cX5_readNumber 6 = .ok (.iload 5, 2) := by decide +kernel
theorem dX5_readNumber_8 : decode cX5_readNumber 8 = .ok (.iconst 3, 1) := by decide +kernel
theorem dX5_readNumber_9 : decode cX5_readNumber 9 = .ok (.if_icmp .ge 83, 3) := by decide +kernel
theorem dX5_readNumber_12 : decode cX5_readNumber 12 = .ok (.aload_n 1, 1) := by decide +kernel
theorem dX5_readNumber_13 : decode cX5_readNumber 13 = .ok (.aload_n 0, 1) := by decide +kernel
theorem dX5_readNumber_14 : decode cX5_readNumber 14 = .ok (.getfield 19, 3) := by decide +kernel
theorem dX5_readNumber_17 : decode cX5_readNumber 17 = .ok (.invokevirtual 43, 3) := by decide +kernel
theorem dX5_readNumber_20 : decode cX5_readNumber 20 = .ok (.istore 6, 2) := by decide +kernel
theorem dX5_readNumber_22 : decode cX5_readNumber 22 = .ok (.iload 6, 2) := by decide +kernel
theorem dX5_readNumber_24 : decode cX5_readNumber 24 = .ok (.bipush 48, 2) := by decide +kernel
theorem dX5_readNumber_26 : decode cX5_readNumber 26 = .ok (.if_icmp .lt 10, 3) := by decide +kernel
theorem dX5_readNumber_29 : decode cX5_readNumber 29 = .ok (.iload 6, 2) := by decide +kernel
theorem dX5_readNumber_31 : decode cX5_readNumber 31 = .ok (.bipush 57, 2) := by decide +kernel
theorem dX5_readNumber_33 : decode cX5_readNumber 33 = .ok (.if_icmp .le 22, 3) := by decide +kernel
theorem dX5_readNumber_36 : decode cX5_readNumber 36 = .ok (.aload_n 0, 1) := by decide +kernel
theorem dX5_readNumber_37 : decode cX5_readNumber 37 = .ok (.getfield 9, 3) := by decide +kernel
theorem dX5_readNumber_40 : decode cX5_readNumber 40 = .ok (.iload_n 2, 1) := by decide +kernel
theorem dX5_readNumber_41 : decode cX5_readNumber 41 = .ok (.iload 4, 2) := by decide +kernel
theorem dX5_readNumber_43 : decode cX5_readNumber 43 = .ok (.iastore, 1) := by decide +kernel
theorem dX5_readNumber_44 : decode cX5_readNumber 44 = .ok (.iload 5, 2) := by decide +kernel
theorem dX5_readNumber_46 : decode cX5_readNumber 46 = .ok (.ifCond .le 7, 3) := by decide +kernel
theorem dX5_readNumber_49 : decode cX5_readNumber 49 = .ok (.iconst 1, 1) := by decide +kernel
theorem dX5_readNumber_50 : decode cX5_readNumber 50 = .ok (.goto 4, 3) := by decide +kernel
theorem dX5_readNumber_53 : decode cX5_readNumber 53 = .ok (.iconst 0, 1) := by decide +kernel
theorem dX5_readNumber_54 : decode cX5_readNumber 54 = .ok (.ireturn, 1) := by decide +kernel
theorem dX5_readNumber_55 : decode cX5_readNumber 55 = .ok (.iload 4, 2) := by decide +kernel
theorem dX5_readNumber_57 : decode cX5_readNumber 57 = .ok (.bipush 10, 2) := by decide +kernel
theorem dX5_readNumber_59 : decode cX5_readNumber 59 = .ok (.imul, 1) := by decide +kernel
theorem dX5_readNumber_60 : decode cX5_readNumber 60 = .ok (.iload 6, 2) := by decide +kernel
theorem dX5_readNumber_62 : decode cX5_readNumber 62 = .ok (.iadd, 1) := by decide +kernel
theorem dX5_readNumber_63 : decode cX5_readNumber 63 = .ok (.bipush 48, 2) := by decide +kernel
theorem dX5_readNumber_65 : decode cX5_readNumber 65 = .ok (.isub, 1) := by decide +kernel
theorem dX5_readNumber_66 : decode cX5_readNumber 66 = .ok (.istore 4, 2) := by decide +kernel
theorem dX5_readNumber_68 : decode cX5_readNumber 68 = .ok (.iload 4, 2) := by decide +kernel
theorem dX5_readNumber_70 : decode cX5_readNumber 70 = .ok (.iload_n 3, 1) := by decide +kernel
theorem dX5_readNumber_71 : decode cX5_readNumber 71 = .ok (.if_icmp .le 5, 3) := by decide +kernel
theorem dX5_readNumber_74 : decode cX5_readNumber 74 = .ok (.iconst 0, 1) := by decide +kernel
theorem dX5_readNumber_75 : decode cX5_readNumber 75 = .ok (.ireturn, 1) := by decide +kernel
theorem dX5_readNumber_76 : decode cX5_readNumber 76 = .ok (.aload_n 0, 1) := by decide +kernel
theorem dX5_readNumber_77 : decode cX5_readNumber 77 = .ok (.dup, 1) := by decide +kernel
theorem dX5_readNumber_78 : decode cX5_readNumber 78 = .ok (.getfield 19, 3) := by decide +kernel
theorem dX5_readNumber_81 : decode cX5_readNumber 81 = .ok (.iconst 1, 1) := by decide +kernel
theorem dX5_readNumber_82 : decode cX5_readNumber 82 = .ok (.iadd, 1) := by decide +kernel
theorem dX5_readNumber_83 : decode cX5_readNumber 83 = .ok (.putfield 19, 3) := by decide +kernel
theorem dX5_readNumber_86 : decode cX5_readNumber 86 = .ok (.iinc 5 1, 3) := by decide +kernel
theorem dX5_readNumber_89 : decode cX5_readNumber 89 = .ok (.goto (-83), 3) := by decide +kernel
theorem dX5_readNumber_92 : decode cX5_readNumber 92 = .ok (.aload_n 0, 1) := by decide +kernel
theorem dX5_readNumber_93 : decode cX5_readNumber 93 = .ok (.getfield 9, 3) := by decide +kernel
theorem dX5_readNumber_96 : decode cX5_readNumber 96 = .ok (.iload_n 2, 1) := by decide +kernel
theorem dX5_readNumber_97 : decode cX5_readNumber 97 = .ok (.iload 4, 2) := by decide +kernel
theorem dX5_readNumber_99 : decode cX5_readNumber 99 = .ok (.iastore, 1) := by decide +kernel
theorem dX5_readNumber_100 : decode cX5_readNumber 100 = .ok (.iconst 1, 1) := by decide +kernel
theorem dX5_readNumber_101 : decode cX5_readNumber 101 = .ok (.ireturn, 1) := by decide +kernel
theorem dX5_reach_0 : decode cX5_reach 0 = .ok (.aload_n 0, 1) := by decide +kernel
theorem dX5_reach_1 : decode cX5_reach 1 = .ok (.iconst 0, 1) := by decide +kernel
theorem dX5_reach_2 : decode cX5_reach 2 = .ok (.putfield 15, 3) := by decide +kernel
theorem dX5_reach_5 : decode cX5_reach 5 = .ok (.aload_n 0, 1) := by decide +kernel
theorem dX5_reach_6 : decode cX5_reach 6 = .ok (.aload_n 1, 1) := by decide +kernel
theorem dX5_reach_7 : decode cX5_reach 7 = .ok (.aload_n 2, 1) := by decide +kernel
theorem dX5_reach_8 : decode cX5_reach 8 = .ok (.getfield 23, 3) := by decide +kernel
theorem dX5_reach_11 : decode cX5_reach 11 = .ok (.invokevirtual 29, 3) := by decide +kernel
theorem dX5_reach_14 : decode cX5_reach 14 = .ok (.putfield 19, 3) := by decide +kernel
theorem dX5_reach_17 : decode cX5_reach 17 = .ok (.aload_n 0, 1) := by decide +kernel
theorem dX5_reach_18 : decode cX5_reach 18 = .ok (.getfield 19, 3) := by decide +kernel
theorem dX5_reach_21 : decode cX5_reach 21 = .ok (.aload_n 2, 1) := by decide +kernel
theorem dX5_reach_22 : decode cX5_reach 22 = .ok (.getfield 23, 3) := by decide +kernel
theorem dX5_reach_25 : decode cX5_reach 25 = .ok (.invokevirtual 35, 3) := by decide +kernel
theorem dX5_reach_28 : decode cX5_reach 28 = .ok (.if_icmp .ge 8, 3) := by decide +kernel
theorem dX5_reach_31 : decode cX5_reach 31 = .ok (.aload_n 0, 1) := by decide +kernel
theorem dX5_reach_32 : decode cX5_reach 32 = .ok (.getfield 19, 3) := by decide +kernel
theorem dX5_reach_35 : decode cX5_reach 35 = .ok (.ireturn, 1) := by decide +kernel
theorem dX5_reach_36 : decode cX5_reach 36 = .ok (.iconst 0, 1) := by decide +kernel
theorem dX5_reach_37 : decode cX5_reach 37 = .ok (.istore_n 3, 1) := by decide +kernel
theorem dX5_reach_38 : decode cX5_reach 38 = .ok (.iload_n 3, 1) := by decide +kernel
theorem dX5_reach_39 : decode cX5_reach 39 = .ok (.aload_n 2, 1) := by decide +kernel
theorem dX5_reach_40 : decode cX5_reach 40 = .ok (.getfield 41, 3) := by decide +kernel
theorem dX5_reach_43 : decode cX5_reach 43 = .ok (.if_icmp .ge 65, 3) := by decide +kernel
theorem dX5_reach_46 : decode cX5_reach 46 = .ok (.iload_n 3, 1) := by decide +kernel
theorem dX5_reach_47 : decode cX5_reach 47 = .ok (.aload_n 0, 1) := by decide +kernel
theorem dX5_reach_48 : decode cX5_reach 48 = .ok (.getfield 9, 3) := by decide +kernel
theorem dX5_reach_51 : decode cX5_reach 51 = .ok (.arraylength, 1) := by decide +kernel
theorem dX5_reach_52 : decode cX5_reach 52 = .ok (.if_icmp .ge 56, 3) := by decide +kernel
theorem dX5_reach_55 : decode cX5_reach 55 = .ok (.aload_n 1, 1) := by decide +kernel
theorem dX5_reach_56 : decode cX5_reach 56 = .ok (.aload_n 0, 1) := by decide +kernel
theorem dX5_reach_57 : decode cX5_reach 57 = .ok (.getfield 19, 3) := by decide +kernel
theorem dX5_reach_60 : decode cX5_reach 60 = .ok (.invokevirtual 43, 3) := by decide +kernel
theorem dX5_reach_63 : decode cX5_reach 63 = .ok (.bipush 32, 2) := by decide +kernel
theorem dX5_reach_65 : decode cX5_reach 65 = .ok (.if_icmp .eq 8, 3) := by decide +kernel
theorem dX5_reach_68 : decode cX5_reach 68 = .ok (.aload_n 0, 1) := by decide +kernel
theorem dX5_reach_69 : decode cX5_reach 69 = .ok (.getfield 19, 3) := by decide +kernel
theorem dX5_reach_72 : decode cX5_reach 72 = .ok (.ireturn, 1) := by decide +kernel
theorem dX5_reach_73 : decode cX5_reach 73 = .ok (.aload_n 0, 1) := by decide +kernel
theorem dX5_reach_74 : decode cX5_reach 74 = .ok (.dup, 1) := by decide +kernel
theorem dX5_reach_75 : decode cX5_reach 75 = .ok (.getfield 19, 3) := by decide +kernel
theorem dX5_reach_78 : decode cX5_reach 78 = .ok (.iconst 1, 1) := by decide +kernel
theorem dX5_reach_79 : decode cX5_reach 79 = .ok (.iadd, 1) := by decide +kernel
theorem dX5_reach_80 : decode cX5_reach 80 = .ok (.putfield 19, 3) := by decide +kernel
theorem dX5_reach_83 : decode cX5_reach 83 = .ok (.aload_n 0, 1) := by decide +kernel
theorem dX5_reach_84 : decode cX5_reach 84 = .ok (.aload_n 1, 1) := by decide +kernel
theorem dX5_reach_85 : decode cX5_reach 85 = .ok (.iload_n 3, 1) := by decide +kernel
theorem dX5_reach_86 : decode cX5_reach 86 = .ok (.aload_n 2, 1) := by decide +kernel
theorem dX5_reach_87 : decode cX5_reach 87 = .ok (.iload_n 3, 1) := by decide +kernel
theorem dX5_reach_88 : decode cX5_reach 88 = .ok (.invokevirtual 47, 3) := by decide +kernel
theorem dX5_reach_91 : decode cX5_reach 91 = .ok (.invokevirtual 50, 3) := by decide +kernel
theorem dX5_reach_94 : decode cX5_reach 94 = .ok (.ifCond .ne 8, 3) := by decide +kernel
theorem dX5_reach_97 : decode cX5_reach 97 = .ok (.aload_n 0, 1) := by decide +kernel
theorem dX5_reach_98 : decode cX5_reach 98 = .ok (.getfield 19, 3) := by decide +kernel
theorem dX5_reach_101 : decode cX5_reach 101 = .ok (.ireturn, 1) := by decide +kernel
theorem dX5_reach_102 : decode cX5_reach 102 = .ok (.iinc 3 1, 3) := by decide +kernel
theorem dX5_reach_105 : decode cX5_reach 105 = .ok (.goto (-67), 3) := by decide +kernel
theorem dX5_reach_108 : decode cX5_reach 108 = .ok (.aload_n 0, 1) := by decide +kernel
theorem dX5_reach_109 : decode cX5_reach 109 = .ok (.aload_n 0, 1) := by decide +kernel
theorem dX5_reach_110 : decode cX5_reach 110 = .ok (.getfield 19, 3) := by decide +kernel
theorem dX5_reach_113 : decode cX5_reach 113 = .ok (.aload_n 1, 1) := by decide +kernel
theorem dX5_reach_114 : decode cX5_reach 114 = .ok (.getfield 54, 3) := by decide +kernel
theorem dX5_reach_117 : decode cX5_reach 117 = .ok (.if_icmp .ne 7, 3) := by decide +kernel
theorem dX5_reach_120 : decode cX5_reach 120 = .ok (.iconst 1, 1) := by decide +kernel
theorem dX5_reach_121 : decode cX5_reach 121 = .ok (.goto 4, 3) := by decide +kernel
theorem dX5_reach_124 : decode cX5_reach 124 = .ok (.iconst 0, 1) := by decide +kernel
theorem dX5_reach_125 : decode cX5_reach 125 = .ok (.putfield 15, 3) := by decide +kernel
theorem dX5_reach_128 : decode cX5_reach 128 = .ok (.aload_n 0, 1) := by decide +kernel
theorem dX5_reach_129 : decode cX5_reach 129 = .ok (.getfield 19, 3) := by decide +kernel
theorem dX5_reach_132 : decode cX5_reach 132 = .ok (.ireturn, 1) := by decide +kernel
theorem dX6_clear_0 : decode cX6_clear 0 = .ok (.aload_n 0, 1) := by decide +kernel
theorem dX6_clear_1 : decode cX6_clear 1 = .ok (.iconst 0, 1) := by decide +kernel
theorem dX6_clear_2 : decode cX6_clear 2 = .ok (.putfield 15, 3) := by decide +kernel
theorem dX6_clear_5 : decode cX6_clear 5 = .ok (.return_, 1) := by decide +kernel
theorem dX6_put_0 : decode cX6_put 0 = .ok (.aload_n 0, 1) := by decide +kernel
theorem dX6_put_1 : decode cX6_put 1 = .ok (.getfield 15, 3) := by decide +kernel
theorem dX6_put_4 : decode cX6_put 4 = .ok (.aload_n 0, 1) := by decide +kernel
theorem dX6_put_5 : decode cX6_put 5 = .ok (.getfield 9, 3) := by decide +kernel
theorem dX6_put_8 : decode cX6_put 8 = .ok (.arraylength, 1) := by decide +kernel
theorem dX6_put_9 : decode cX6_put 9 = .ok (.if_icmp .ge 23, 3) := by decide +kernel
theorem dX6_put_12 : decode cX6_put 12 = .ok (.aload_n 0, 1) := by decide +kernel
theorem dX6_put_13 : decode cX6_put 13 = .ok (.getfield 9, 3) := by decide +kernel
theorem dX6_put_16 : decode cX6_put 16 = .ok (.aload_n 0, 1) := by decide +kernel
theorem dX6_put_17 : decode cX6_put 17 = .ok (.getfield 15, 3) := by decide +kernel
theorem dX6_put_20 : decode cX6_put 20 = .ok (.iload_n 1, 1) := by decide +kernel
theorem dX6_put_21 : decode cX6_put 21 = .ok (.iastore, 1) := by decide +kernel
theorem dX6_put_22 : decode cX6_put 22 = .ok (.aload_n 0, 1) := by decide +kernel
theorem dX6_put_23 : decode cX6_put 23 = .ok (.dup, 1) := by decide +kernel
theorem dX6_put_24 : decode cX6_put 24 = .ok (.getfield 15, 3) := by decide +kernel
theorem dX6_put_27 : decode cX6_put 27 = .ok (.iconst 1, 1) := by decide +kernel
theorem dX6_put_28 : decode cX6_put 28 = .ok (.iadd, 1) := by decide +kernel
theorem dX6_put_29 : decode cX6_put 29 = .ok (.putfield 15, 3) := by decide +kernel
theorem dX6_put_32 : decode cX6_put 32 = .ok (.return_, 1) := by decide +kernel
theorem dX6_putWord_0 : decode cX6_putWord 0 = .ok (.iconst 0, 1) := by decide +kernel
theorem dX6_putWord_1 : decode cX6_putWord 1 = .ok (.istore_n 2, 1) := by decide +kernel
theorem dX6_putWord_2 : decode cX6_putWord 2 = .ok (.iload_n 2, 1) := by decide +kernel
theorem dX6_putWord_3 : decode cX6_putWord 3 = .ok (.aload_n 1, 1) := by decide +kernel
theorem dX6_putWord_4 : decode cX6_putWord 4 = .ok (.invokevirtual 19, 3) := by decide +kernel
theorem dX6_putWord_7 : decode cX6_putWord 7 = .ok (.if_icmp .ge 18, 3) := by decide +kernel
theorem dX6_putWord_10 : decode cX6_putWord 10 = .ok (.aload_n 0, 1) := by decide +kernel
theorem dX6_putWord_11 : decode cX6_putWord 11 = .ok (.aload_n 1, 1) := by decide +kernel
theorem dX6_putWord_12 : decode cX6_putWord 12 = .ok (.iload_n 2, 1) := by decide +kernel
theorem dX6_putWord_13 : decode cX6_putWord 13 = .ok (.invokevirtual 24, 3) := by decide +kernel
theorem dX6_putWord_16 : decode cX6_putWord 16 = .ok (.invokevirtual 28, 3) := by decide +kernel
theorem dX6_putWord_19 : decode cX6_putWord 19 = .ok (.iinc 2 1, 3) := by decide +kernel
theorem dX6_putWord_22 : decode cX6_putWord 22 = .ok (.goto (-20), 3) := by decide +kernel
theorem dX6_putWord_25 : decode cX6_putWord 25 = .ok (.return_, 1) := by decide +kernel
theorem dX6_putNumber_0 : decode cX6_putNumber 0 = .ok (.lconst 1, 1) := by decide +kernel
theorem dX6_putNumber_1 : decode cX6_putNumber 1 = .ok (.lstore_n 3, 1) := by decide +kernel
theorem dX6_putNumber_2 : decode cX6_putNumber 2 = .ok (.iconst 1, 1) := by decide +kernel
theorem dX6_putNumber_3 : decode cX6_putNumber 3 = .ok (.istore 5, 2) := by decide +kernel
theorem dX6_putNumber_5 : decode cX6_putNumber 5 = .ok (.iload 5, 2) := by decide +kernel
theorem dX6_putNumber_7 : decode cX6_putNumber 7 = .ok (.bipush 19, 2) := by decide +kernel
theorem dX6_putNumber_9 : decode cX6_putNumber 9 = .ok (.if_icmp .ge 25, 3) := by decide +kernel
theorem dX6_putNumber_12 : decode cX6_putNumber 12 = .ok (.lload_n 1, 1) := by decide +kernel
theorem dX6_putNumber_13 : decode cX6_putNumber 13 = .ok (.lload_n 3, 1) := by decide +kernel
theorem dX6_putNumber_14 : decode cX6_putNumber 14 = .ok (.ldiv, 1) := by decide +kernel
theorem dX6_putNumber_15 : decode cX6_putNumber 15 = .ok (.ldc2_w 32, 3) := by decide +kernel
theorem dX6_putNumber_18 : decode cX6_putNumber 18 = .ok (.lcmp, 1) := by decide +kernel
theorem dX6_putNumber_19 : decode cX6_putNumber 19 = .ok (.ifCond .lt 15, 3) := by decide +kernel
theorem dX6_putNumber_22 : decode cX6_putNumber 22 = .ok (.lload_n 3, 1) := by decide +kernel
theorem dX6_putNumber_23 : decode cX6_putNumber 23 = .ok (.ldc2_w 32, 3) := by decide +kernel
theorem dX6_putNumber_26 : decode cX6_putNumber 26 = .ok (.lmul, 1) := by decide +kernel
theorem dX6_putNumber_27 : decode cX6_putNumber 27 = .ok (.lstore_n 3, 1) := by decide +kernel
theorem dX6_putNumber_28 : decode cX6_putNumber 28 = .ok (.iinc 5 1, 3) := by decide +kernel
theorem dX6_putNumber_31 : decode cX6_putNumber 31 = .ok (.goto (-26), 3) := by decide +kernel
theorem dX6_putNumber_34 : decode cX6_putNumber 34 = .ok (.iconst 0, 1) := by decide +kernel
theorem dX6_putNumber_35 : decode cX6_putNumber 35 = .ok (.istore 5, 2) := by decide +kernel
theorem dX6_putNumber_37 : decode cX6_putNumber 37 = .ok (.iload 5, 2) := by decide +kernel
theorem dX6_putNumber_39 : decode cX6_putNumber 39 = .ok (.bipush 19, 2) := by decide +kernel
theorem dX6_putNumber_41 : decode cX6_putNumber 41 = .ok (.if_icmp .ge 36, 3) := by decide +kernel
theorem dX6_putNumber_44 : decode cX6_putNumber 44 = .ok (.lload_n 3, 1) := by decide +kernel
theorem dX6_putNumber_45 : decode cX6_putNumber 45 = .ok (.lconst 0, 1) := by decide +kernel
theorem dX6_putNumber_46 : decode cX6_putNumber 46 = .ok (.lcmp, 1) := by decide +kernel
theorem dX6_putNumber_47 : decode cX6_putNumber 47 = .ok (.ifCond .le 30, 3) := by decide +kernel
theorem dX6_putNumber_50 : decode cX6_putNumber 50 = .ok (.aload_n 0, 1) := by decide +kernel
theorem dX6_putNumber_51 : decode cX6_putNumber 51 = .ok (.bipush 48, 2) := by decide +kernel
theorem dX6_putNumber_53 : decode cX6_putNumber 53 = .ok (.lload_n 1, 1) := by decide +kernel
theorem dX6_putNumber_54 : decode cX6_putNumber 54 = .ok (.lload_n 3, 1) := by decide +kernel
theorem dX6_putNumber_55 : decode cX6_putNumber 55 = .ok (.ldiv, 1) := by decide +kernel
theorem dX6_putNumber_56 : decode cX6_putNumber 56 = .ok (.ldc2_w 32, 3) := by decide +kernel
theorem dX6_putNumber_59 : decode cX6_putNumber 59 = .ok (.lrem, 1) := by decide +kernel
theorem dX6_putNumber_60 : decode cX6_putNumber 60 = .ok (.l2i, 1) := by decide +kernel
theorem dX6_putNumber_61 : decode cX6_putNumber 61 = .ok (.iadd, 1) := by decide +kernel
theorem dX6_putNumber_62 : decode cX6_putNumber 62 = .ok (.invokevirtual 28, 3) := by decide +kernel
theorem dX6_putNumber_65 : decode cX6_putNumber 65 = .ok (.lload_n 3, 1) := by decide +kernel
theorem dX6_putNumber_66 : decode cX6_putNumber 66 = .ok (.ldc2_w 32, 3) := by decide +kernel
theorem dX6_putNumber_69 : decode cX6_putNumber 69 = .ok (.ldiv, 1) := by decide +kernel
theorem dX6_putNumber_70 : decode cX6_putNumber 70 = .ok (.lstore_n 3, 1) := by decide +kernel
theorem dX6_putNumber_71 : decode cX6_putNumber 71 = .ok (.iinc 5 1, 3) := by decide +kernel
theorem dX6_putNumber_74 : decode cX6_putNumber 74 = .ok (.goto (-37), 3) := by decide +kernel
theorem dX6_putNumber_77 : decode cX6_putNumber 77 = .ok (.return_, 1) := by decide +kernel
theorem dX7_sortByChance_0 : decode cX7_sortByChance 0 = .ok (.iconst 0, 1) := by decide +kernel
theorem dX7_sortByChance_1 : decode cX7_sortByChance 1 = .ok (.istore_n 2, 1) := by decide +kernel
theorem dX7_sortByChance_2 : decode cX7_sortByChance 2 = .ok (.iload_n 2, 1) := by decide +kernel
theorem dX7_sortByChance_3 : decode cX7_sortByChance 3 = .ok (.bipush 100, 2) := by decide +kernel
theorem dX7_sortByChance_5 : decode cX7_sortByChance 5 = .ok (.if_icmp .gt 23, 3) := by decide +kernel
theorem dX7_sortByChance_8 : decode cX7_sortByChance 8 = .ok (.aload_n 0, 1) := by decide +kernel
theorem dX7_sortByChance_9 : decode cX7_sortByChance 9 = .ok (.getfield 9, 3) := by decide +kernel
theorem dX7_sortByChance_12 : decode cX7_sortByChance 12 = .ok (.iload_n 2, 1) := by decide +kernel
theorem dX7_sortByChance_13 : decode cX7_sortByChance 13 = .ok (.iconst 0, 1) := by decide +kernel
theorem dX7_sortByChance_14 : decode cX7_sortByChance 14 = .ok (.iastore, 1) := by decide +kernel
theorem dX7_sortByChance_15 : decode cX7_sortByChance 15 = .ok (.aload_n 0, 1) := by decide +kernel
theorem dX7_sortByChance_16 : decode cX7_sortByChance 16 = .ok (.getfield 15, 3) := by decide +kernel
theorem dX7_sortByChance_19 : decode cX7_sortByChance 19 = .ok (.iload_n 2, 1) := by decide +kernel
theorem dX7_sortByChance_20 : decode cX7_sortByChance 20 = .ok (.iconst 0, 1) := by decide +kernel
theorem dX7_sortByChance_21 : decode cX7_sortByChance 21 = .ok (.iastore, 1) := by decide +kernel
theorem dX7_sortByChance_22 : decode cX7_sortByChance 22 = .ok (.iinc 2 1, 3) := by decide +kernel
theorem dX7_sortByChance_25 : decode cX7_sortByChance 25 = .ok (.goto (-23), 3) := by decide +kernel
theorem dX7_sortByChance_28 : decode cX7_sortByChance 28 = .ok (.iconst 0, 1) := by decide +kernel
theorem dX7_sortByChance_29 : decode cX7_sortByChance 29 = .ok (.istore_n 2, 1) := by decide +kernel
theorem dX7_sortByChance_30 : decode cX7_sortByChance 30 = .ok (.iload_n 2, 1) := by decide +kernel
theorem dX7_sortByChance_31 : decode cX7_sortByChance 31 = .ok (.aload_n 1, 1) := by decide +kernel
theorem dX7_sortByChance_32 : decode cX7_sortByChance 32 = .ok (.getfield 42, 3) := by decide +kernel
theorem dX7_sortByChance_35 : decode cX7_sortByChance 35 = .ok (.if_icmp .ge 45, 3) := by decide +kernel
theorem dX7_sortByChance_38 : decode cX7_sortByChance 38 = .ok (.aload_n 1, 1) := by decide +kernel
theorem dX7_sortByChance_39 : decode cX7_sortByChance 39 = .ok (.getfield 45, 3) := by decide +kernel
theorem dX7_sortByChance_42 : decode cX7_sortByChance 42 = .ok (.iload_n 2, 1) := by decide +kernel
theorem dX7_sortByChance_43 : decode cX7_sortByChance 43 = .ok (.iaload, 1) := by decide +kernel
theorem dX7_sortByChance_44 : decode cX7_sortByChance 44 = .ok (.istore_n 3, 1) := by decide +kernel
theorem dX7_sortByChance_45 : decode cX7_sortByChance 45 = .ok (.aload_n 0, 1) := by decide +kernel
theorem dX7_sortByChance_46 : decode cX7_sortByChance 46 = .ok (.getfield 9, 3) := by decide +kernel
theorem dX7_sortByChance_49 : decode cX7_sortByChance 49 = .ok (.iload_n 3, 1) := by decide +kernel
theorem dX7_sortByChance_50 : decode cX7_sortByChance 50 = .ok (.dup2, 1) := by decide +kernel
theorem dX7_sortByChance_51 : decode cX7_sortByChance 51 = .ok (.iaload, 1) := by decide +kernel
theorem dX7_sortByChance_52 : decode cX7_sortByChance 52 = .ok (.iconst 1, 1) := by decide +kernel
theorem dX7_sortByChance_53 : decode cX7_sortByChance 53 = .ok (.iadd, 1) := by decide +kernel
theorem dX7_sortByChance_54 : decode cX7_sortByChance 54 = .ok (.iastore, 1) := by decide +kernel
theorem dX7_sortByChance_55 : decode cX7_sortByChance 55 = .ok (.aload_n 1, 1) := by decide +kernel
theorem dX7_sortByChance_56 : decode cX7_sortByChance 56 = .ok (.getfield 48, 3) := by decide +kernel
theorem dX7_sortByChance_59 : decode cX7_sortByChance 59 = .ok (.iload_n 2, 1) := by decide +kernel
theorem dX7_sortByChance_60 : decode cX7_sortByChance 60 = .ok (.baload, 1) := by decide +kernel
theorem dX7_sortByChance_61 : decode cX7_sortByChance 61 = .ok (.ifCond .eq 13, 3) := by decide +kernel
theorem dX7_sortByChance_64 : decode cX7_sortByChance 64 = .ok (.aload_n 0, 1) := by decide +kernel
theorem dX7_sortByChance_65 : decode cX7_sortByChance 65 = .ok (.getfield 15, 3) := by decide +kernel
theorem dX7_sortByChance_68 : decode cX7_sortByChance 68 = .ok (.iload_n 3, 1) := by decide +kernel
theorem dX7_sortByChance_69 : decode cX7_sortByChance 69 = .ok (.dup2, 1) := by decide +kernel
theorem dX7_sortByChance_70 : decode cX7_sortByChance 70 = .ok (.iaload, 1) := by decide +kernel
theorem dX7_sortByChance_71 : decode cX7_sortByChance 71 = .ok (.iconst 1, 1) := by decide +kernel
theorem dX7_sortByChance_72 : decode cX7_sortByChance 72 = .ok (.iadd, 1) := by decide +kernel
theorem dX7_sortByChance_73 : decode cX7_sortByChance 73 = .ok (.iastore, 1) := by decide +kernel
theorem dX7_sortByChance_74 : decode cX7_sortByChance 74 = .ok (.iinc 2 1, 3) := by decide +kernel
theorem dX7_sortByChance_77 : decode cX7_sortByChance 77 = .ok (.goto (-47), 3) := by decide +kernel
theorem dX7_sortByChance_80 : decode cX7_sortByChance 80 = .ok (.return_, 1) := by decide +kernel
theorem dX7_isShareGreater_0 : decode cX7_isShareGreater 0 = .ok (.aload_n 0, 1) := by decide +kernel
theorem dX7_isShareGreater_1 : decode cX7_isShareGreater 1 = .ok (.getfield 27, 3) := by decide +kernel
theorem dX7_isShareGreater_4 : decode cX7_isShareGreater 4 = .ok (.iload_n 1, 1) := by decide +kernel
theorem dX7_isShareGreater_5 : decode cX7_isShareGreater 5 = .ok (.iaload, 1) := by decide +kernel
theorem dX7_isShareGreater_6 : decode cX7_isShareGreater 6 = .ok (.aload_n 0, 1) := by decide +kernel
theorem dX7_isShareGreater_7 : decode cX7_isShareGreater 7 = .ok (.getfield 24, 3) := by decide +kernel
theorem dX7_isShareGreater_10 : decode cX7_isShareGreater 10 = .ok (.iload_n 1, 1) := by decide +kernel
theorem dX7_isShareGreater_11 : decode cX7_isShareGreater 11 = .ok (.iconst 1, 1) := by decide +kernel
theorem dX7_isShareGreater_12 : decode cX7_isShareGreater 12 = .ok (.isub, 1) := by decide +kernel
theorem dX7_isShareGreater_13 : decode cX7_isShareGreater 13 = .ok (.iaload, 1) := by decide +kernel
theorem dX7_isShareGreater_14 : decode cX7_isShareGreater 14 = .ok (.imul, 1) := by decide +kernel
theorem dX7_isShareGreater_15 : decode cX7_isShareGreater 15 = .ok (.aload_n 0, 1) := by decide +kernel
theorem dX7_isShareGreater_16 : decode cX7_isShareGreater 16 = .ok (.getfield 27, 3) := by decide +kernel
theorem dX7_isShareGreater_19 : decode cX7_isShareGreater 19 = .ok (.iload_n 1, 1) := by decide +kernel
theorem dX7_isShareGreater_20 : decode cX7_isShareGreater 20 = .ok (.iconst 1, 1) := by decide +kernel
theorem dX7_isShareGreater_21 : decode cX7_isShareGreater 21 = .ok (.isub, 1) := by decide +kernel
theorem dX7_isShareGreater_22 : decode cX7_isShareGreater 22 = .ok (.iaload, 1) := by decide +kernel
theorem dX7_isShareGreater_23 : decode cX7_isShareGreater 23 = .ok (.aload_n 0, 1) := by decide +kernel
theorem dX7_isShareGreater_24 : decode cX7_isShareGreater 24 = .ok (.getfield 24, 3) := by decide +kernel
theorem dX7_isShareGreater_27 : decode cX7_isShareGreater 27 = .ok (.iload_n 1, 1) := by decide +kernel
theorem dX7_isShareGreater_28 : decode cX7_isShareGreater 28 = .ok (.iaload, 1) := by decide +kernel
theorem dX7_isShareGreater_29 : decode cX7_isShareGreater 29 = .ok (.imul, 1) := by decide +kernel
theorem dX7_isShareGreater_30 : decode cX7_isShareGreater 30 = .ok (.if_icmp .le 7, 3) := by decide +kernel
theorem dX7_isShareGreater_33 : decode cX7_isShareGreater 33 = .ok (.iconst 1, 1) := by decide +kernel
theorem dX7_isShareGreater_34 : decode cX7_isShareGreater 34 = .ok (.goto 4, 3) := by decide +kernel
theorem dX7_isShareGreater_37 : decode cX7_isShareGreater 37 = .ok (.iconst 0, 1) := by decide +kernel
theorem dX7_isShareGreater_38 : decode cX7_isShareGreater 38 = .ok (.ireturn, 1) := by decide +kernel
theorem dX7_mergeDown_0 : decode cX7_mergeDown 0 = .ok (.aload_n 0, 1) := by decide +kernel
theorem dX7_mergeDown_1 : decode cX7_mergeDown 1 = .ok (.getfield 21, 3) := by decide +kernel
theorem dX7_mergeDown_4 : decode cX7_mergeDown 4 = .ok (.iload_n 1, 1) := by decide +kernel
theorem dX7_mergeDown_5 : decode cX7_mergeDown 5 = .ok (.iconst 1, 1) := by decide +kernel
theorem dX7_mergeDown_6 : decode cX7_mergeDown 6 = .ok (.isub, 1) := by decide +kernel
theorem dX7_mergeDown_7 : decode cX7_mergeDown 7 = .ok (.aload_n 0, 1) := by decide +kernel
theorem dX7_mergeDown_8 : decode cX7_mergeDown 8 = .ok (.getfield 21, 3) := by decide +kernel
theorem dX7_mergeDown_11 : decode cX7_mergeDown 11 = .ok (.iload_n 1, 1) := by decide +kernel
theorem dX7_mergeDown_12 : decode cX7_mergeDown 12 = .ok (.iaload, 1) := by decide +kernel
theorem dX7_mergeDown_13 : decode cX7_mergeDown 13 = .ok (.iastore, 1) := by decide +kernel
theorem dX7_mergeDown_14 : decode cX7_mergeDown 14 = .ok (.aload_n 0, 1) := by decide +kernel
theorem dX7_mergeDown_15 : decode cX7_mergeDown 15 = .ok (.getfield 24, 3) := by decide +kernel
theorem dX7_mergeDown_18 : decode cX7_mergeDown 18 = .ok (.iload_n 1, 1) := by decide +kernel
theorem dX7_mergeDown_19 : decode cX7_mergeDown 19 = .ok (.iconst 1, 1) := by decide +kernel
theorem dX7_mergeDown_20 : decode cX7_mergeDown 20 = .ok (.isub, 1) := by decide +kernel
theorem dX7_mergeDown_21 : decode cX7_mergeDown 21 = .ok (.dup2, 1) := by decide +kernel
theorem dX7_mergeDown_22 : decode cX7_mergeDown 22 = .ok (.iaload, 1) := by decide +kernel
theorem dX7_mergeDown_23 : decode cX7_mergeDown 23 = .ok (.aload_n 0, 1) := by decide +kernel
theorem dX7_mergeDown_24 : decode cX7_mergeDown 24 = .ok (.getfield 24, 3) := by decide +kernel
theorem dX7_mergeDown_27 : decode cX7_mergeDown 27 = .ok (.iload_n 1, 1) := by decide +kernel
theorem dX7_mergeDown_28 : decode cX7_mergeDown 28 = .ok (.iaload, 1) := by decide +kernel
theorem dX7_mergeDown_29 : decode cX7_mergeDown 29 = .ok (.iadd, 1) := by decide +kernel
theorem dX7_mergeDown_30 : decode cX7_mergeDown 30 = .ok (.iastore, 1) := by decide +kernel
theorem dX7_mergeDown_31 : decode cX7_mergeDown 31 = .ok (.aload_n 0, 1) := by decide +kernel
theorem dX7_mergeDown_32 : decode cX7_mergeDown 32 = .ok (.getfield 27, 3) := by decide +kernel
theorem dX7_mergeDown_35 : decode cX7_mergeDown 35 = .ok (.iload_n 1, 1) := by decide +kernel
theorem dX7_mergeDown_36 : decode cX7_mergeDown 36 = .ok (.iconst 1, 1) := by decide +kernel
theorem dX7_mergeDown_37 : decode cX7_mergeDown 37 = .ok (.isub, 1) := by decide +kernel
theorem dX7_mergeDown_38 : decode cX7_mergeDown 38 = .ok (.dup2, 1) := by decide +kernel
theorem dX7_mergeDown_39 : decode cX7_mergeDown 39 = .ok (.iaload, 1) := by decide +kernel
theorem dX7_mergeDown_40 : decode cX7_mergeDown 40 = .ok (.aload_n 0, 1) := by decide +kernel
theorem dX7_mergeDown_41 : decode cX7_mergeDown 41 = .ok (.getfield 27, 3) := by decide +kernel
theorem dX7_mergeDown_44 : decode cX7_mergeDown 44 = .ok (.iload_n 1, 1) := by decide +kernel
theorem dX7_mergeDown_45 : decode cX7_mergeDown 45 = .ok (.iaload, 1) := by decide +kernel
theorem dX7_mergeDown_46 : decode cX7_mergeDown 46 = .ok (.iadd, 1) := by decide +kernel
theorem dX7_mergeDown_47 : decode cX7_mergeDown 47 = .ok (.iastore, 1) := by decide +kernel
theorem dX7_mergeDown_48 : decode cX7_mergeDown 48 = .ok (.aload_n 0, 1) := by decide +kernel
theorem dX7_mergeDown_49 : decode cX7_mergeDown 49 = .ok (.dup, 1) := by decide +kernel
theorem dX7_mergeDown_50 : decode cX7_mergeDown 50 = .ok (.getfield 30, 3) := by decide +kernel
theorem dX7_mergeDown_53 : decode cX7_mergeDown 53 = .ok (.iconst 1, 1) := by decide +kernel
theorem dX7_mergeDown_54 : decode cX7_mergeDown 54 = .ok (.isub, 1) := by decide +kernel
theorem dX7_mergeDown_55 : decode cX7_mergeDown 55 = .ok (.putfield 30, 3) := by decide +kernel
theorem dX7_mergeDown_58 : decode cX7_mergeDown 58 = .ok (.return_, 1) := by decide +kernel
theorem dX7_addPool_0 : decode cX7_addPool 0 = .ok (.aload_n 0, 1) := by decide +kernel
theorem dX7_addPool_1 : decode cX7_addPool 1 = .ok (.getfield 18, 3) := by decide +kernel
theorem dX7_addPool_4 : decode cX7_addPool 4 = .ok (.aload_n 0, 1) := by decide +kernel
theorem dX7_addPool_5 : decode cX7_addPool 5 = .ok (.getfield 30, 3) := by decide +kernel
theorem dX7_addPool_8 : decode cX7_addPool 8 = .ok (.iload_n 1, 1) := by decide +kernel
theorem dX7_addPool_9 : decode cX7_addPool 9 = .ok (.iastore, 1) := by decide +kernel
theorem dX7_addPool_10 : decode cX7_addPool 10 = .ok (.aload_n 0, 1) := by decide +kernel
theorem dX7_addPool_11 : decode cX7_addPool 11 = .ok (.getfield 21, 3) := by decide +kernel
theorem dX7_addPool_14 : decode cX7_addPool 14 = .ok (.aload_n 0, 1) := by decide +kernel
theorem dX7_addPool_15 : decode cX7_addPool 15 = .ok (.getfield 30, 3) := by decide +kernel
theorem dX7_addPool_18 : decode cX7_addPool 18 = .ok (.iload_n 1, 1) := by decide +kernel
theorem dX7_addPool_19 : decode cX7_addPool 19 = .ok (.iastore, 1) := by decide +kernel
theorem dX7_addPool_20 : decode cX7_addPool 20 = .ok (.aload_n 0, 1) := by decide +kernel
theorem dX7_addPool_21 : decode cX7_addPool 21 = .ok (.getfield 24, 3) := by decide +kernel
theorem dX7_addPool_24 : decode cX7_addPool 24 = .ok (.aload_n 0, 1) := by decide +kernel
theorem dX7_addPool_25 : decode cX7_addPool 25 = .ok (.getfield 30, 3) := by decide +kernel
theorem dX7_addPool_28 : decode cX7_addPool 28 = .ok (.aload_n 0, 1) := by decide +kernel
theorem dX7_addPool_29 : decode cX7_addPool 29 = .ok (.getfield 9, 3) := by decide +kernel
theorem dX7_addPool_32 : decode cX7_addPool 32 = .ok (.iload_n 1, 1) := by decide +kernel
theorem dX7_addPool_33 : decode cX7_addPool 33 = .ok (.iaload, 1) := by decide +kernel
theorem dX7_addPool_34 : decode cX7_addPool 34 = .ok (.iastore, 1) := by decide +kernel
theorem dX7_addPool_35 : decode cX7_addPool 35 = .ok (.aload_n 0, 1) := by decide +kernel
theorem dX7_addPool_36 : decode cX7_addPool 36 = .ok (.getfield 27, 3) := by decide +kernel
theorem dX7_addPool_39 : decode cX7_addPool 39 = .ok (.aload_n 0, 1) := by decide +kernel
theorem dX7_addPool_40 : decode cX7_addPool 40 = .ok (.getfield 30, 3) := by decide +kernel
theorem dX7_addPool_43 : decode cX7_addPool 43 = .ok (.aload_n 0, 1) := by decide +kernel
theorem dX7_addPool_44 : decode cX7_addPool 44 = .ok (.getfield 15, 3) := by decide +kernel
theorem dX7_addPool_47 : decode cX7_addPool 47 = .ok (.iload_n 1, 1) := by decide +kernel
theorem dX7_addPool_48 : decode cX7_addPool 48 = .ok (.iaload, 1) := by decide +kernel
theorem dX7_addPool_49 : decode cX7_addPool 49 = .ok (.iastore, 1) := by decide +kernel
theorem dX7_addPool_50 : decode cX7_addPool 50 = .ok (.aload_n 0, 1) := by decide +kernel
theorem dX7_addPool_51 : decode cX7_addPool 51 = .ok (.dup, 1) := by decide +kernel
theorem dX7_addPool_52 : decode cX7_addPool 52 = .ok (.getfield 30, 3) := by decide +kernel
theorem dX7_addPool_55 : decode cX7_addPool 55 = .ok (.iconst 1, 1) := by decide +kernel
theorem dX7_addPool_56 : decode cX7_addPool 56 = .ok (.iadd, 1) := by decide +kernel
theorem dX7_addPool_57 : decode cX7_addPool 57 = .ok (.putfield 30, 3) := by decide +kernel
theorem dX7_addPool_60 : decode cX7_addPool 60 = .ok (.aload_n 0, 1) := by decide +kernel
theorem dX7_addPool_61 : decode cX7_addPool 61 = .ok (.getfield 30, 3) := by decide +kernel
theorem dX7_addPool_64 : decode cX7_addPool 64 = .ok (.iconst 1, 1) := by decide +kernel
theorem dX7_addPool_65 : decode cX7_addPool 65 = .ok (.isub, 1) := by decide +kernel
theorem dX7_addPool_66 : decode cX7_addPool 66 = .ok (.istore_n 2, 1) := by decide +kernel
theorem dX7_addPool_67 : decode cX7_addPool 67 = .ok (.iload_n 2, 1) := by decide +kernel
theorem dX7_addPool_68 : decode cX7_addPool 68 = .ok (.ifCond .le 22, 3) := by decide +kernel
theorem dX7_addPool_71 : decode cX7_addPool 71 = .ok (.aload_n 0, 1) := by decide +kernel
theorem dX7_addPool_72 : decode cX7_addPool 72 = .ok (.iload_n 2, 1) := by decide +kernel
theorem dX7_addPool_73 : decode cX7_addPool 73 = .ok (.invokevirtual 52, 3) := by decide +kernel
theorem dX7_addPool_76 : decode cX7_addPool 76 = .ok (.ifCond .ne 14, 3) := by decide +kernel
theorem dX7_addPool_79 : decode cX7_addPool 79 = .ok (.aload_n 0, 1) := by decide +kernel
theorem dX7_addPool_80 : decode cX7_addPool 80 = .ok (.iload_n 2, 1) := by decide +kernel
theorem dX7_addPool_81 : decode cX7_addPool 81 = .ok (.invokevirtual 56, 3) := by decide +kernel
theorem dX7_addPool_84 : decode cX7_addPool 84 = .ok (.iinc 2 (-1), 3) := by decide +kernel
theorem dX7_addPool_87 : decode cX7_addPool 87 = .ok (.goto (-20), 3) := by decide +kernel
theorem dX7_addPool_90 : decode cX7_addPool 90 = .ok (.return_, 1) := by decide +kernel
theorem dX7_fill_0 : decode cX7_fill 0 = .ok (.aload_n 0, 1) := by decide +kernel
theorem dX7_fill_1 : decode cX7_fill 1 = .ok (.aload_n 1, 1) := by decide +kernel
theorem dX7_fill_2 : decode cX7_fill 2 = .ok (.invokevirtual 34, 3) := by decide +kernel
theorem dX7_fill_5 : decode cX7_fill 5 = .ok (.aload_n 0, 1) := by decide +kernel
theorem dX7_fill_6 : decode cX7_fill 6 = .ok (.iconst 0, 1) := by decide +kernel
theorem dX7_fill_7 : decode cX7_fill 7 = .ok (.putfield 30, 3) := by decide +kernel
theorem dX7_fill_10 : decode cX7_fill 10 = .ok (.iconst 0, 1) := by decide +kernel
theorem dX7_fill_11 : decode cX7_fill 11 = .ok (.istore_n 2, 1) := by decide +kernel
theorem dX7_fill_12 : decode cX7_fill 12 = .ok (.iload_n 2, 1) := by decide +kernel
theorem dX7_fill_13 : decode cX7_fill 13 = .ok (.bipush 100, 2) := by decide +kernel
theorem dX7_fill_15 : decode cX7_fill 15 = .ok (.if_icmp .gt 32, 3) := by decide +kernel
theorem dX7_fill_18 : decode cX7_fill 18 = .ok (.aload_n 0, 1) := by decide +kernel
theorem dX7_fill_19 : decode cX7_fill 19 = .ok (.getfield 9, 3) := by decide +kernel
theorem dX7_fill_22 : decode cX7_fill 22 = .ok (.iload_n 2, 1) := by decide +kernel
theorem dX7_fill_23 : decode cX7_fill 23 = .ok (.iaload, 1) := by decide +kernel
theorem dX7_fill_24 : decode cX7_fill 24 = .ok (.ifCond .le 17, 3) := by decide +kernel
theorem dX7_fill_27 : decode cX7_fill 27 = .ok (.aload_n 0, 1) := by decide +kernel
theorem dX7_fill_28 : decode cX7_fill 28 = .ok (.getfield 30, 3) := by decide +kernel
theorem dX7_fill_31 : decode cX7_fill 31 = .ok (.bipush 40, 2) := by decide +kernel
theorem dX7_fill_33 : decode cX7_fill 33 = .ok (.if_icmp .ge 8, 3) := by decide +kernel
theorem dX7_fill_36 : decode cX7_fill 36 = .ok (.aload_n 0, 1) := by decide +kernel
theorem dX7_fill_37 : decode cX7_fill 37 = .ok (.iload_n 2, 1) := by decide +kernel
theorem dX7_fill_38 : decode cX7_fill 38 = .ok (.invokevirtual 38, 3) := by decide +kernel
theorem dX7_fill_41 : decode cX7_fill 41 = .ok (.iinc 2 1, 3) := by decide +kernel
theorem dX7_fill_44 : decode cX7_fill 44 = .ok (.goto (-32), 3) := by decide +kernel
theorem dX7_fill_47 : decode cX7_fill 47 = .ok (.return_, 1) := by decide +kernel
theorem dX7_tellOf_0 : decode cX7_tellOf 0 = .ok (.iload_n 2, 1) := by decide +kernel
theorem dX7_tellOf_1 : decode cX7_tellOf 1 = .ok (.ifCond .ne 10, 3) := by decide +kernel
theorem dX7_tellOf_4 : decode cX7_tellOf 4 = .ok (.aload_n 0, 1) := by decide +kernel
theorem dX7_tellOf_5 : decode cX7_tellOf 5 = .ok (.getfield 18, 3) := by decide +kernel
theorem dX7_tellOf_8 : decode cX7_tellOf 8 = .ok (.iload_n 1, 1) := by decide +kernel
theorem dX7_tellOf_9 : decode cX7_tellOf 9 = .ok (.iaload, 1) := by decide +kernel
theorem dX7_tellOf_10 : decode cX7_tellOf 10 = .ok (.ireturn, 1) := by decide +kernel
theorem dX7_tellOf_11 : decode cX7_tellOf 11 = .ok (.iload_n 2, 1) := by decide +kernel
theorem dX7_tellOf_12 : decode cX7_tellOf 12 = .ok (.iconst 1, 1) := by decide +kernel
theorem dX7_tellOf_13 : decode cX7_tellOf 13 = .ok (.if_icmp .ne 10, 3) := by decide +kernel
theorem dX7_tellOf_16 : decode cX7_tellOf 16 = .ok (.aload_n 0, 1) := by decide +kernel
theorem dX7_tellOf_17 : decode cX7_tellOf 17 = .ok (.getfield 21, 3) := by decide +kernel
theorem dX7_tellOf_20 : decode cX7_tellOf 20 = .ok (.iload_n 1, 1) := by decide +kernel
theorem dX7_tellOf_21 : decode cX7_tellOf 21 = .ok (.iaload, 1) := by decide +kernel
theorem dX7_tellOf_22 : decode cX7_tellOf 22 = .ok (.ireturn, 1) := by decide +kernel
theorem dX7_tellOf_23 : decode cX7_tellOf 23 = .ok (.iload_n 2, 1) := by decide +kernel
theorem dX7_tellOf_24 : decode cX7_tellOf 24 = .ok (.iconst 2, 1) := by decide +kernel
theorem dX7_tellOf_25 : decode cX7_tellOf 25 = .ok (.if_icmp .ne 12, 3) := by decide +kernel
theorem dX7_tellOf_28 : decode cX7_tellOf 28 = .ok (.aload_n 0, 1) := by decide +kernel
theorem dX7_tellOf_29 : decode cX7_tellOf 29 = .ok (.getfield 24, 3) := by decide +kernel
theorem dX7_tellOf_32 : decode cX7_tellOf 32 = .ok (.iload_n 1, 1) := by decide +kernel
theorem dX7_tellOf_33 : decode cX7_tellOf 33 = .ok (.iaload, 1) := by decide +kernel
theorem dX7_tellOf_34 : decode cX7_tellOf 34 = .ok (.goto 9, 3) := by decide +kernel
theorem dX7_tellOf_37 : decode cX7_tellOf 37 = .ok (.aload_n 0, 1) := by decide +kernel
theorem dX7_tellOf_38 : decode cX7_tellOf 38 = .ok (.getfield 27, 3) := by decide +kernel
theorem dX7_tellOf_41 : decode cX7_tellOf 41 = .ok (.iload_n 1, 1) := by decide +kernel
theorem dX7_tellOf_42 : decode cX7_tellOf 42 = .ok (.iaload, 1) := by decide +kernel
theorem dX7_tellOf_43 : decode cX7_tellOf 43 = .ok (.ireturn, 1) := by decide +kernel
theorem dX7_findFlat_0 : decode cX7_findFlat 0 = .ok (.aload_n 2, 1) := by decide +kernel
theorem dX7_findFlat_1 : decode cX7_findFlat 1 = .ok (.lconst 0, 1) := by decide +kernel
theorem dX7_findFlat_2 : decode cX7_findFlat 2 = .ok (.lconst 1, 1) := by decide +kernel
theorem dX7_findFlat_3 : decode cX7_findFlat 3 = .ok (.invokevirtual 59, 3) := by decide +kernel
theorem dX7_findFlat_6 : decode cX7_findFlat 6 = .ok (.iconst 0, 1) := by decide +kernel
theorem dX7_findFlat_7 : decode cX7_findFlat 7 = .ok (.istore_n 3, 1) := by decide +kernel
theorem dX7_findFlat_8 : decode cX7_findFlat 8 = .ok (.iload_n 3, 1) := by decide +kernel
theorem dX7_findFlat_9 : decode cX7_findFlat 9 = .ok (.aload_n 0, 1) := by decide +kernel
theorem dX7_findFlat_10 : decode cX7_findFlat 10 = .ok (.getfield 30, 3) := by decide +kernel
theorem dX7_findFlat_13 : decode cX7_findFlat 13 = .ok (.if_icmp .ge 42, 3) := by decide +kernel
theorem dX7_findFlat_16 : decode cX7_findFlat 16 = .ok (.aload_n 2, 1) := by decide +kernel
theorem dX7_findFlat_17 : decode cX7_findFlat 17 = .ok (.aload_n 0, 1) := by decide +kernel
theorem dX7_findFlat_18 : decode cX7_findFlat 18 = .ok (.getfield 27, 3) := by decide +kernel
theorem dX7_findFlat_21 : decode cX7_findFlat 21 = .ok (.iload_n 3, 1) := by decide +kernel
theorem dX7_findFlat_22 : decode cX7_findFlat 22 = .ok (.iaload, 1) := by decide +kernel
theorem dX7_findFlat_23 : decode cX7_findFlat 23 = .ok (.i2l, 1) := by decide +kernel
theorem dX7_findFlat_24 : decode cX7_findFlat 24 = .ok (.aload_n 0, 1) := by decide +kernel
theorem dX7_findFlat_25 : decode cX7_findFlat 25 = .ok (.getfield 24, 3) := by decide +kernel
theorem dX7_findFlat_28 : decode cX7_findFlat 28 = .ok (.iload_n 3, 1) := by decide +kernel
theorem dX7_findFlat_29 : decode cX7_findFlat 29 = .ok (.iaload, 1) := by decide +kernel
theorem dX7_findFlat_30 : decode cX7_findFlat 30 = .ok (.aload_n 0, 1) := by decide +kernel
theorem dX7_findFlat_31 : decode cX7_findFlat 31 = .ok (.getfield 27, 3) := by decide +kernel
theorem dX7_findFlat_34 : decode cX7_findFlat 34 = .ok (.iload_n 3, 1) := by decide +kernel
theorem dX7_findFlat_35 : decode cX7_findFlat 35 = .ok (.iaload, 1) := by decide +kernel
theorem dX7_findFlat_36 : decode cX7_findFlat 36 = .ok (.isub, 1) := by decide +kernel
theorem dX7_findFlat_37 : decode cX7_findFlat 37 = .ok (.i2l, 1) := by decide +kernel
theorem dX7_findFlat_38 : decode cX7_findFlat 38 = .ok (.lmul, 1) := by decide +kernel
theorem dX7_findFlat_39 : decode cX7_findFlat 39 = .ok (.aload_n 0, 1) := by decide +kernel
theorem dX7_findFlat_40 : decode cX7_findFlat 40 = .ok (.getfield 24, 3) := by decide +kernel
theorem dX7_findFlat_43 : decode cX7_findFlat 43 = .ok (.iload_n 3, 1) := by decide +kernel
theorem dX7_findFlat_44 : decode cX7_findFlat 44 = .ok (.iaload, 1) := by decide +kernel
theorem dX7_findFlat_45 : decode cX7_findFlat 45 = .ok (.i2l, 1) := by decide +kernel
theorem dX7_findFlat_46 : decode cX7_findFlat 46 = .ok (.invokevirtual 65, 3) := by decide +kernel
theorem dX7_findFlat_49 : decode cX7_findFlat 49 = .ok (.iinc 3 1, 3) := by decide +kernel
theorem dX7_findFlat_52 : decode cX7_findFlat 52 = .ok (.goto (-44), 3) := by decide +kernel
theorem dX7_findFlat_55 : decode cX7_findFlat 55 = .ok (.aload_n 2, 1) := by decide +kernel
theorem dX7_findFlat_56 : decode cX7_findFlat 56 = .ok (.iload_n 1, 1) := by decide +kernel
theorem dX7_findFlat_57 : decode cX7_findFlat 57 = .ok (.i2l, 1) := by decide +kernel
theorem dX7_findFlat_58 : decode cX7_findFlat 58 = .ok (.invokevirtual 68, 3) := by decide +kernel
theorem dX7_findFlat_61 : decode cX7_findFlat 61 = .ok (.return_, 1) := by decide +kernel
theorem dX9_put_0 : decode cX9_put 0 = .ok (.aload_n 0, 1) := by decide +kernel
theorem dX9_put_1 : decode cX9_put 1 = .ok (.getfield 15, 3) := by decide +kernel
theorem dX9_put_4 : decode cX9_put 4 = .ok (.aload_n 0, 1) := by decide +kernel
theorem dX9_put_5 : decode cX9_put 5 = .ok (.getfield 9, 3) := by decide +kernel
theorem dX9_put_8 : decode cX9_put 8 = .ok (.arraylength, 1) := by decide +kernel
theorem dX9_put_9 : decode cX9_put 9 = .ok (.if_icmp .lt 5, 3) := by decide +kernel
theorem dX9_put_12 : decode cX9_put 12 = .ok (.iconst 0, 1) := by decide +kernel
theorem dX9_put_13 : decode cX9_put 13 = .ok (.ireturn, 1) := by decide +kernel
theorem dX9_put_14 : decode cX9_put 14 = .ok (.aload_n 0, 1) := by decide +kernel
theorem dX9_put_15 : decode cX9_put 15 = .ok (.getfield 9, 3) := by decide +kernel
theorem dX9_put_18 : decode cX9_put 18 = .ok (.aload_n 0, 1) := by decide +kernel
theorem dX9_put_19 : decode cX9_put 19 = .ok (.getfield 15, 3) := by decide +kernel
theorem dX9_put_22 : decode cX9_put 22 = .ok (.iload_n 1, 1) := by decide +kernel
theorem dX9_put_23 : decode cX9_put 23 = .ok (.iastore, 1) := by decide +kernel
theorem dX9_put_24 : decode cX9_put 24 = .ok (.aload_n 0, 1) := by decide +kernel
theorem dX9_put_25 : decode cX9_put 25 = .ok (.dup, 1) := by decide +kernel
theorem dX9_put_26 : decode cX9_put 26 = .ok (.getfield 15, 3) := by decide +kernel
theorem dX9_put_29 : decode cX9_put 29 = .ok (.iconst 1, 1) := by decide +kernel
theorem dX9_put_30 : decode cX9_put 30 = .ok (.iadd, 1) := by decide +kernel
theorem dX9_put_31 : decode cX9_put 31 = .ok (.putfield 15, 3) := by decide +kernel
theorem dX9_put_34 : decode cX9_put 34 = .ok (.iconst 1, 1) := by decide +kernel
theorem dX9_put_35 : decode cX9_put 35 = .ok (.ireturn, 1) := by decide +kernel
theorem dX9_clear_0 : decode cX9_clear 0 = .ok (.aload_n 0, 1) := by decide +kernel
theorem dX9_clear_1 : decode cX9_clear 1 = .ok (.getfield 15, 3) := by decide +kernel
theorem dX9_clear_4 : decode cX9_clear 4 = .ok (.istore_n 1, 1) := by decide +kernel
theorem dX9_clear_5 : decode cX9_clear 5 = .ok (.aload_n 0, 1) := by decide +kernel
theorem dX9_clear_6 : decode cX9_clear 6 = .ok (.iconst 0, 1) := by decide +kernel
theorem dX9_clear_7 : decode cX9_clear 7 = .ok (.putfield 15, 3) := by decide +kernel
theorem dX9_clear_10 : decode cX9_clear 10 = .ok (.iload_n 1, 1) := by decide +kernel
theorem dX9_clear_11 : decode cX9_clear 11 = .ok (.ireturn, 1) := by decide +kernel
theorem dX9_spells_0 : decode cX9_spells 0 = .ok (.aload_n 0, 1) := by decide +kernel
theorem dX9_spells_1 : decode cX9_spells 1 = .ok (.getfield 15, 3) := by decide +kernel
theorem dX9_spells_4 : decode cX9_spells 4 = .ok (.aload_n 1, 1) := by decide +kernel
theorem dX9_spells_5 : decode cX9_spells 5 = .ok (.invokevirtual 19, 3) := by decide +kernel
theorem dX9_spells_8 : decode cX9_spells 8 = .ok (.if_icmp .ne 19, 3) := by decide +kernel
theorem dX9_spells_11 : decode cX9_spells 11 = .ok (.aload_n 0, 1) := by decide +kernel
theorem dX9_spells_12 : decode cX9_spells 12 = .ok (.aload_n 1, 1) := by decide +kernel
theorem dX9_spells_13 : decode cX9_spells 13 = .ok (.invokevirtual 24, 3) := by decide +kernel
theorem dX9_spells_16 : decode cX9_spells 16 = .ok (.aload_n 0, 1) := by decide +kernel
theorem dX9_spells_17 : decode cX9_spells 17 = .ok (.getfield 15, 3) := by decide +kernel
theorem dX9_spells_20 : decode cX9_spells 20 = .ok (.if_icmp .ne 7, 3) := by decide +kernel
theorem dX9_spells_23 : decode cX9_spells 23 = .ok (.iconst 1, 1) := by decide +kernel
theorem dX9_spells_24 : decode cX9_spells 24 = .ok (.goto 4, 3) := by decide +kernel
theorem dX9_spells_27 : decode cX9_spells 27 = .ok (.iconst 0, 1) := by decide +kernel
theorem dX9_spells_28 : decode cX9_spells 28 = .ok (.ireturn, 1) := by decide +kernel
