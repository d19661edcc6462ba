theorem dX11_counts_169 : decode cX11_counts 169 = .ok (.dup, 1) := by decide +kernel
theorem dX11_counts_170 : decode cX11_counts 170 = .ok (.getfield 188, 3) := by decide +kernel
theorem dX11_counts_173 : decode cX11_counts 173 = .ok (.iconst 1, 1) := by decide +kernel
theorem dX11_counts_174 : decode cX11_counts 174 = .ok (.iadd, 1) := by decide +kernel
theorem dX11_counts_175 : decode cX11_counts 175 = .ok (.putfield 188, 3) := by decide +kernel
theorem dX11_counts_178 : decode cX11_counts 178 = .ok (.aload_n 0, 1) := by decide +kernel
theorem dX11_counts_179 : decode cX11_counts 179 = .ok (.dup, 1) := by decide +kernel
theorem dX11_counts_180 : decode cX11_counts 180 = .ok (.getfield 191, 3) := by decide +kernel
theorem dX11_counts_183 : decode cX11_counts 183 = .ok (.iload 4, 2) := by decide +kernel
theorem dX11_counts_185 : decode cX11_counts 185 = .ok (.iadd, 1) := by decide +kernel
theorem dX11_counts_186 : decode cX11_counts 186 = .ok (.putfield 191, 3) := by decide +kernel
theorem dX11_counts_189 : decode cX11_counts 189 = .ok (.iinc 2 1, 3) := by decide +kernel
theorem dX11_counts_192 : decode cX11_counts 192 = .ok (.goto (-131), 3) := by decide +kernel
theorem dX11_counts_195 : decode cX11_counts 195 = .ok (.return_, 1) := by decide +kernel
theorem dX11_leastIn_0 : decode cX11_leastIn 0 = .ok (.iconst 0, 1) := by decide +kernel
theorem dX11_leastIn_1 : decode cX11_leastIn 1 = .ok (.istore_n 2, 1) := by decide +kernel
theorem dX11_leastIn_2 : decode cX11_leastIn 2 = .ok (.aload_n 0, 1) := by decide +kernel
theorem dX11_leastIn_3 : decode cX11_leastIn 3 = .ok (.iload_n 2, 1) := by decide +kernel
theorem dX11_leastIn_4 : decode cX11_leastIn 4 = .ok (.invokevirtual 194, 3) := by decide +kernel
theorem dX11_leastIn_7 : decode cX11_leastIn 7 = .ok (.iload_n 1, 1) := by decide +kernel
theorem dX11_leastIn_8 : decode cX11_leastIn 8 = .ok (.if_icmp .ge 9, 3) := by decide +kernel
theorem dX11_leastIn_11 : decode cX11_leastIn 11 = .ok (.iinc 2 1, 3) := by decide +kernel
theorem dX11_leastIn_14 : decode cX11_leastIn 14 = .ok (.goto (-12), 3) := by decide +kernel
theorem dX11_leastIn_17 : decode cX11_leastIn 17 = .ok (.iload_n 2, 1) := by decide +kernel
theorem dX11_leastIn_18 : decode cX11_leastIn 18 = .ok (.ireturn, 1) := by decide +kernel
theorem dX11_greatestIn_0 : decode cX11_greatestIn 0 = .ok (.bipush 100, 2) := by decide +kernel
theorem dX11_greatestIn_2 : decode cX11_greatestIn 2 = .ok (.istore_n 2, 1) := by decide +kernel
theorem dX11_greatestIn_3 : decode cX11_greatestIn 3 = .ok (.aload_n 0, 1) := by decide +kernel
theorem dX11_greatestIn_4 : decode cX11_greatestIn 4 = .ok (.iload_n 2, 1) := by decide +kernel
theorem dX11_greatestIn_5 : decode cX11_greatestIn 5 = .ok (.invokevirtual 194, 3) := by decide +kernel
theorem dX11_greatestIn_8 : decode cX11_greatestIn 8 = .ok (.iload_n 1, 1) := by decide +kernel
theorem dX11_greatestIn_9 : decode cX11_greatestIn 9 = .ok (.if_icmp .le 9, 3) := by decide +kernel
theorem dX11_greatestIn_12 : decode cX11_greatestIn 12 = .ok (.iinc 2 (-1), 3) := by decide +kernel
theorem dX11_greatestIn_15 : decode cX11_greatestIn 15 = .ok (.goto (-12), 3) := by decide +kernel
theorem dX11_greatestIn_18 : decode cX11_greatestIn 18 = .ok (.iload_n 2, 1) := by decide +kernel
theorem dX11_greatestIn_19 : decode cX11_greatestIn 19 = .ok (.ireturn, 1) := by decide +kernel
theorem dX11_bin_0 : decode cX11_bin 0 = .ok (.iload_n 1, 1) := by decide +kernel
theorem dX11_bin_1 : decode cX11_bin 1 = .ok (.invokestatic 81, 3) := by decide +kernel
theorem dX11_bin_4 : decode cX11_bin 4 = .ok (.ifCond .eq 15, 3) := by decide +kernel
theorem dX11_bin_7 : decode cX11_bin 7 = .ok (.iload_n 2, 1) := by decide +kernel
theorem dX11_bin_8 : decode cX11_bin 8 = .ok (.iconst 0, 1) := by decide +kernel
theorem dX11_bin_9 : decode cX11_bin 9 = .ok (.aload_n 0, 1) := by decide +kernel
theorem dX11_bin_10 : decode cX11_bin 10 = .ok (.invokevirtual 185, 3) := by decide +kernel
theorem dX11_bin_13 : decode cX11_bin 13 = .ok (.invokestatic 66, 3) := by decide +kernel
theorem dX11_bin_16 : decode cX11_bin 16 = .ok (.ifCond .ne 5, 3) := by decide +kernel
theorem dX11_bin_19 : decode cX11_bin 19 = .ok (.iconst (-1), 1) := by decide +kernel
theorem dX11_bin_20 : decode cX11_bin 20 = .ok (.ireturn, 1) := by decide +kernel
theorem dX11_bin_21 : decode cX11_bin 21 = .ok (.aload_n 0, 1) := by decide +kernel
theorem dX11_bin_22 : decode cX11_bin 22 = .ok (.iload_n 1, 1) := by decide +kernel
theorem dX11_bin_23 : decode cX11_bin 23 = .ok (.invokevirtual 197, 3) := by decide +kernel
theorem dX11_bin_26 : decode cX11_bin 26 = .ok (.iload_n 3, 1) := by decide +kernel
theorem dX11_bin_27 : decode cX11_bin 27 = .ok (.tableswitch 66 0 4 #[33, 40, 47, 54, 60], 33) := by decide +kernel
theorem dX11_bin_60 : decode cX11_bin 60 = .ok (.aload_n 0, 1) := by decide +kernel
theorem dX11_bin_61 : decode cX11_bin 61 = .ok (.getfield 36, 3) := by decide +kernel
theorem dX11_bin_64 : decode cX11_bin 64 = .ok (.iload_n 2, 1) := by decide +kernel
theorem dX11_bin_65 : decode cX11_bin 65 = .ok (.iaload, 1) := by decide +kernel
theorem dX11_bin_66 : decode cX11_bin 66 = .ok (.ireturn, 1) := by decide +kernel
theorem dX11_bin_67 : decode cX11_bin 67 = .ok (.aload_n 0, 1) := by decide +kernel
theorem dX11_bin_68 : decode cX11_bin 68 = .ok (.getfield 39, 3) := by decide +kernel
theorem dX11_bin_71 : decode cX11_bin 71 = .ok (.iload_n 2, 1) := by decide +kernel
theorem dX11_bin_72 : decode cX11_bin 72 = .ok (.iaload, 1) := by decide +kernel
theorem dX11_bin_73 : decode cX11_bin 73 = .ok (.ireturn, 1) := by decide +kernel
theorem dX11_bin_74 : decode cX11_bin 74 = .ok (.aload_n 0, 1) := by decide +kernel
theorem dX11_bin_75 : decode cX11_bin 75 = .ok (.getfield 42, 3) := by decide +kernel
theorem dX11_bin_78 : decode cX11_bin 78 = .ok (.iload_n 2, 1) := by decide +kernel
theorem dX11_bin_79 : decode cX11_bin 79 = .ok (.iaload, 1) := by decide +kernel
theorem dX11_bin_80 : decode cX11_bin 80 = .ok (.ireturn, 1) := by decide +kernel
theorem dX11_bin_81 : decode cX11_bin 81 = .ok (.aload_n 0, 1) := by decide +kernel
theorem dX11_bin_82 : decode cX11_bin 82 = .ok (.iload_n 2, 1) := by decide +kernel
theorem dX11_bin_83 : decode cX11_bin 83 = .ok (.invokevirtual 201, 3) := by decide +kernel
theorem dX11_bin_86 : decode cX11_bin 86 = .ok (.ireturn, 1) := by decide +kernel
theorem dX11_bin_87 : decode cX11_bin 87 = .ok (.aload_n 0, 1) := by decide +kernel
theorem dX11_bin_88 : decode cX11_bin 88 = .ok (.iload_n 2, 1) := by decide +kernel
theorem dX11_bin_89 : decode cX11_bin 89 = .ok (.invokevirtual 204, 3) := by decide +kernel
theorem dX11_bin_92 : decode cX11_bin 92 = .ok (.ireturn, 1) := by decide +kernel
theorem dX11_bin_93 : decode cX11_bin 93 = .ok (.bipush (-2), 2) := by decide +kernel
theorem dX11_bin_95 : decode cX11_bin 95 = .ok (.ireturn, 1) := by decide +kernel
theorem dX11_inBin_0 : decode cX11_inBin 0 = .ok (.aload_n 0, 1) := by decide +kernel
theorem dX11_inBin_1 : decode cX11_inBin 1 = .ok (.getfield 36, 3) := by decide +kernel
theorem dX11_inBin_4 : decode cX11_inBin 4 = .ok (.iload_n 2, 1) := by decide +kernel
theorem dX11_inBin_5 : decode cX11_inBin 5 = .ok (.iaload, 1) := by decide +kernel
theorem dX11_inBin_6 : decode cX11_inBin 6 = .ok (.i2l, 1) := by decide +kernel
theorem dX11_inBin_7 : decode cX11_inBin 7 = .ok (.lstore_n 3, 1) := by decide +kernel
theorem dX11_inBin_8 : decode cX11_inBin 8 = .ok (.aload_n 0, 1) := by decide +kernel
theorem dX11_inBin_9 : decode cX11_inBin 9 = .ok (.getfield 39, 3) := by decide +kernel
theorem dX11_inBin_12 : decode cX11_inBin 12 = .ok (.iload_n 2, 1) := by decide +kernel
theorem dX11_inBin_13 : decode cX11_inBin 13 = .ok (.iaload, 1) := by decide +kernel
theorem dX11_inBin_14 : decode cX11_inBin 14 = .ok (.i2l, 1) := by decide +kernel
theorem dX11_inBin_15 : decode cX11_inBin 15 = .ok (.lstore 5, 2) := by decide +kernel
theorem dX11_inBin_17 : decode cX11_inBin 17 = .ok (.aload_n 0, 1) := by decide +kernel
theorem dX11_inBin_18 : decode cX11_inBin 18 = .ok (.getfield 42, 3) := by decide +kernel
theorem dX11_inBin_21 : decode cX11_inBin 21 = .ok (.iload_n 2, 1) := by decide +kernel
theorem dX11_inBin_22 : decode cX11_inBin 22 = .ok (.iaload, 1) := by decide +kernel
theorem dX11_inBin_23 : decode cX11_inBin 23 = .ok (.i2l, 1) := by decide +kernel
theorem dX11_inBin_24 : decode cX11_inBin 24 = .ok (.lstore 7, 2) := by decide +kernel
theorem dX11_inBin_26 : decode cX11_inBin 26 = .ok (.iload_n 1, 1) := by decide +kernel
theorem dX11_inBin_27 : decode cX11_inBin 27 = .ok (.iconst 1, 1) := by decide +kernel
theorem dX11_inBin_28 : decode cX11_inBin 28 = .ok (.if_icmp .ne 22, 3) := by decide +kernel
theorem dX11_inBin_31 : decode cX11_inBin 31 = .ok (.lload 5, 2) := by decide +kernel
theorem dX11_inBin_33 : decode cX11_inBin 33 = .ok (.aload_n 0, 1) := by decide +kernel
theorem dX11_inBin_34 : decode cX11_inBin 34 = .ok (.getfield 188, 3) := by decide +kernel
theorem dX11_inBin_37 : decode cX11_inBin 37 = .ok (.i2l, 1) := by decide +kernel
theorem dX11_inBin_38 : decode cX11_inBin 38 = .ok (.lmul, 1) := by decide +kernel
theorem dX11_inBin_39 : decode cX11_inBin 39 = .ok (.aload_n 0, 1) := by decide +kernel
theorem dX11_inBin_40 : decode cX11_inBin 40 = .ok (.getfield 191, 3) := by decide +kernel
theorem dX11_inBin_43 : decode cX11_inBin 43 = .ok (.i2l, 1) := by decide +kernel
theorem dX11_inBin_44 : decode cX11_inBin 44 = .ok (.lload_n 3, 1) := by decide +kernel
theorem dX11_inBin_45 : decode cX11_inBin 45 = .ok (.lmul, 1) := by decide +kernel
theorem dX11_inBin_46 : decode cX11_inBin 46 = .ok (.lsub, 1) := by decide +kernel
theorem dX11_inBin_47 : decode cX11_inBin 47 = .ok (.goto 12, 3) := by decide +kernel
theorem dX11_inBin_50 : decode cX11_inBin 50 = .ok (.lload 7, 2) := by decide +kernel
theorem dX11_inBin_52 : decode cX11_inBin 52 = .ok (.ldc2_w 207, 3) := by decide +kernel
theorem dX11_inBin_55 : decode cX11_inBin 55 = .ok (.lload 5, 2) := by decide +kernel
theorem dX11_inBin_57 : decode cX11_inBin 57 = .ok (.lmul, 1) := by decide +kernel
theorem dX11_inBin_58 : decode cX11_inBin 58 = .ok (.lsub, 1) := by decide +kernel
theorem dX11_inBin_59 : decode cX11_inBin 59 = .ok (.lstore 9, 2) := by decide +kernel
theorem dX11_inBin_61 : decode cX11_inBin 61 = .ok (.iload_n 1, 1) := by decide +kernel
theorem dX11_inBin_62 : decode cX11_inBin 62 = .ok (.tableswitch 48 1 3 #[26, 26, 32], 26) := by decide +kernel
theorem dX11_inBin_88 : decode cX11_inBin 88 = .ok (.lload 9, 2) := by decide +kernel
theorem dX11_inBin_90 : decode cX11_inBin 90 = .ok (.lload 9, 2) := by decide +kernel
theorem dX11_inBin_92 : decode cX11_inBin 92 = .ok (.lmul, 1) := by decide +kernel
theorem dX11_inBin_93 : decode cX11_inBin 93 = .ok (.lreturn, 1) := by decide +kernel
theorem dX11_inBin_94 : decode cX11_inBin 94 = .ok (.lload_n 3, 1) := by decide +kernel
theorem dX11_inBin_95 : decode cX11_inBin 95 = .ok (.aload_n 0, 1) := by decide +kernel
theorem dX11_inBin_96 : decode cX11_inBin 96 = .ok (.getfield 45, 3) := by decide +kernel
theorem dX11_inBin_99 : decode cX11_inBin 99 = .ok (.iload_n 2, 1) := by decide +kernel
theorem dX11_inBin_100 : decode cX11_inBin 100 = .ok (.iaload, 1) := by decide +kernel
theorem dX11_inBin_101 : decode cX11_inBin 101 = .ok (.i2l, 1) := by decide +kernel
theorem dX11_inBin_102 : decode cX11_inBin 102 = .ok (.lmul, 1) := by decide +kernel
theorem dX11_inBin_103 : decode cX11_inBin 103 = .ok (.lload 7, 2) := by decide +kernel
theorem dX11_inBin_105 : decode cX11_inBin 105 = .ok (.lload 7, 2) := by decide +kernel
theorem dX11_inBin_107 : decode cX11_inBin 107 = .ok (.lmul, 1) := by decide +kernel
theorem dX11_inBin_108 : decode cX11_inBin 108 = .ok (.lsub, 1) := by decide +kernel
theorem dX11_inBin_109 : decode cX11_inBin 109 = .ok (.lreturn, 1) := by decide +kernel
theorem dX11_inBin_110 : decode cX11_inBin 110 = .ok (.ldc2_w 209, 3) := by decide +kernel
theorem dX11_inBin_113 : decode cX11_inBin 113 = .ok (.lload_n 3, 1) := by decide +kernel
theorem dX11_inBin_114 : decode cX11_inBin 114 = .ok (.aload_n 0, 1) := by decide +kernel
theorem dX11_inBin_115 : decode cX11_inBin 115 = .ok (.getfield 48, 3) := by decide +kernel
theorem dX11_inBin_118 : decode cX11_inBin 118 = .ok (.iload_n 2, 1) := by decide +kernel
theorem dX11_inBin_119 : decode cX11_inBin 119 = .ok (.iaload, 1) := by decide +kernel
theorem dX11_inBin_120 : decode cX11_inBin 120 = .ok (.i2l, 1) := by decide +kernel
theorem dX11_inBin_121 : decode cX11_inBin 121 = .ok (.lmul, 1) := by decide +kernel
theorem dX11_inBin_122 : decode cX11_inBin 122 = .ok (.lload 7, 2) := by decide +kernel
theorem dX11_inBin_124 : decode cX11_inBin 124 = .ok (.lload 5, 2) := by decide +kernel
theorem dX11_inBin_126 : decode cX11_inBin 126 = .ok (.lmul, 1) := by decide +kernel
theorem dX11_inBin_127 : decode cX11_inBin 127 = .ok (.lsub, 1) := by decide +kernel
theorem dX11_inBin_128 : decode cX11_inBin 128 = .ok (.lmul, 1) := by decide +kernel
theorem dX11_inBin_129 : decode cX11_inBin 129 = .ok (.lreturn, 1) := by decide +kernel
theorem dX11_wholeOf_0 : decode cX11_wholeOf 0 = .ok (.aload_n 0, 1) := by decide +kernel
theorem dX11_wholeOf_1 : decode cX11_wholeOf 1 = .ok (.getfield 188, 3) := by decide +kernel
theorem dX11_wholeOf_4 : decode cX11_wholeOf 4 = .ok (.i2l, 1) := by decide +kernel
theorem dX11_wholeOf_5 : decode cX11_wholeOf 5 = .ok (.lstore_n 2, 1) := by decide +kernel
theorem dX11_wholeOf_6 : decode cX11_wholeOf 6 = .ok (.iload_n 1, 1) := by decide +kernel
theorem dX11_wholeOf_7 : decode cX11_wholeOf 7 = .ok (.iconst 1, 1) := by decide +kernel
theorem dX11_wholeOf_8 : decode cX11_wholeOf 8 = .ok (.if_icmp .ne 11, 3) := by decide +kernel
theorem dX11_wholeOf_11 : decode cX11_wholeOf 11 = .ok (.lload_n 2, 1) := by decide +kernel
theorem dX11_wholeOf_12 : decode cX11_wholeOf 12 = .ok (.lload_n 2, 1) := by decide +kernel
theorem dX11_wholeOf_13 : decode cX11_wholeOf 13 = .ok (.lmul, 1) := by decide +kernel
theorem dX11_wholeOf_14 : decode cX11_wholeOf 14 = .ok (.lload_n 2, 1) := by decide +kernel
theorem dX11_wholeOf_15 : decode cX11_wholeOf 15 = .ok (.lmul, 1) := by decide +kernel
theorem dX11_wholeOf_16 : decode cX11_wholeOf 16 = .ok (.goto 21, 3) := by decide +kernel
theorem dX11_wholeOf_19 : decode cX11_wholeOf 19 = .ok (.iload_n 1, 1) := by decide +kernel
theorem dX11_wholeOf_20 : decode cX11_wholeOf 20 = .ok (.iconst 4, 1) := by decide +kernel
theorem dX11_wholeOf_21 : decode cX11_wholeOf 21 = .ok (.if_icmp .ne 11, 3) := by decide +kernel
theorem dX11_wholeOf_24 : decode cX11_wholeOf 24 = .ok (.ldc2_w 207, 3) := by decide +kernel
theorem dX11_wholeOf_27 : decode cX11_wholeOf 27 = .ok (.lload_n 2, 1) := by decide +kernel
theorem dX11_wholeOf_28 : decode cX11_wholeOf 28 = .ok (.lmul, 1) := by decide +kernel
theorem dX11_wholeOf_29 : decode cX11_wholeOf 29 = .ok (.goto 8, 3) := by decide +kernel
theorem dX11_wholeOf_32 : decode cX11_wholeOf 32 = .ok (.ldc2_w 211, 3) := by decide +kernel
theorem dX11_wholeOf_35 : decode cX11_wholeOf 35 = .ok (.lload_n 2, 1) := by decide +kernel
theorem dX11_wholeOf_36 : decode cX11_wholeOf 36 = .ok (.lmul, 1) := by decide +kernel
theorem dX11_wholeOf_37 : decode cX11_wholeOf 37 = .ok (.lreturn, 1) := by decide +kernel
theorem dX11_addPart_0 : decode cX11_addPart 0 = .ok (.aload_n 0, 1) := by decide +kernel
theorem dX11_addPart_1 : decode cX11_addPart 1 = .ok (.getfield 188, 3) := by decide +kernel
theorem dX11_addPart_4 : decode cX11_addPart 4 = .ok (.i2l, 1) := by decide +kernel
theorem dX11_addPart_5 : decode cX11_addPart 5 = .ok (.lstore_n 3, 1) := by decide +kernel
theorem dX11_addPart_6 : decode cX11_addPart 6 = .ok (.iload_n 1, 1) := by decide +kernel
theorem dX11_addPart_7 : decode cX11_addPart 7 = .ok (.ifCond .ne 27, 3) := by decide +kernel
theorem dX11_addPart_10 : decode cX11_addPart 10 = .ok (.aload_n 0, 1) := by decide +kernel
theorem dX11_addPart_11 : decode cX11_addPart 11 = .ok (.iload_n 2, 1) := by decide +kernel
theorem dX11_addPart_12 : decode cX11_addPart 12 = .ok (.i2l, 1) := by decide +kernel
theorem dX11_addPart_13 : decode cX11_addPart 13 = .ok (.aload_n 0, 1) := by decide +kernel
theorem dX11_addPart_14 : decode cX11_addPart 14 = .ok (.getfield 191, 3) := by decide +kernel
theorem dX11_addPart_17 : decode cX11_addPart 17 = .ok (.i2l, 1) := by decide +kernel
theorem dX11_addPart_18 : decode cX11_addPart 18 = .ok (.lmul, 1) := by decide +kernel
theorem dX11_addPart_19 : decode cX11_addPart 19 = .ok (.lload_n 3, 1) := by decide +kernel
theorem dX11_addPart_20 : decode cX11_addPart 20 = .ok (.aload_n 0, 1) := by decide +kernel
theorem dX11_addPart_21 : decode cX11_addPart 21 = .ok (.getfield 191, 3) := by decide +kernel
theorem dX11_addPart_24 : decode cX11_addPart 24 = .ok (.i2l, 1) := by decide +kernel
theorem dX11_addPart_25 : decode cX11_addPart 25 = .ok (.lsub, 1) := by decide +kernel
theorem dX11_addPart_26 : decode cX11_addPart 26 = .ok (.lmul, 1) := by decide +kernel
theorem dX11_addPart_27 : decode cX11_addPart 27 = .ok (.lload_n 3, 1) := by decide +kernel
theorem dX11_addPart_28 : decode cX11_addPart 28 = .ok (.lload_n 3, 1) := by decide +kernel
theorem dX11_addPart_29 : decode cX11_addPart 29 = .ok (.lmul, 1) := by decide +kernel
theorem dX11_addPart_30 : decode cX11_addPart 30 = .ok (.invokevirtual 213, 3) := by decide +kernel
theorem dX11_addPart_33 : decode cX11_addPart 33 = .ok (.return_, 1) := by decide +kernel
theorem dX11_addPart_34 : decode cX11_addPart 34 = .ok (.iconst 0, 1) := by decide +kernel
theorem dX11_addPart_35 : decode cX11_addPart 35 = .ok (.istore 5, 2) := by decide +kernel
theorem dX11_addPart_37 : decode cX11_addPart 37 = .ok (.iload 5, 2) := by decide +kernel
theorem dX11_addPart_39 : decode cX11_addPart 39 = .ok (.aload_n 0, 1) := by decide +kernel
theorem dX11_addPart_40 : decode cX11_addPart 40 = .ok (.invokevirtual 185, 3) := by decide +kernel
theorem dX11_addPart_43 : decode cX11_addPart 43 = .ok (.if_icmp .gt 47, 3) := by decide +kernel
theorem dX11_addPart_46 : decode cX11_addPart 46 = .ok (.aload_n 0, 1) := by decide +kernel
theorem dX11_addPart_47 : decode cX11_addPart 47 = .ok (.getfield 36, 3) := by decide +kernel
theorem dX11_addPart_50 : decode cX11_addPart 50 = .ok (.iload 5, 2) := by decide +kernel
theorem dX11_addPart_52 : decode cX11_addPart 52 = .ok (.iaload, 1) := by decide +kernel
theorem dX11_addPart_53 : decode cX11_addPart 53 = .ok (.ifCond .le 31, 3) := by decide +kernel
theorem dX11_addPart_56 : decode cX11_addPart 56 = .ok (.aload_n 0, 1) := by decide +kernel
theorem dX11_addPart_57 : decode cX11_addPart 57 = .ok (.iload_n 2, 1) := by decide +kernel
theorem dX11_addPart_58 : decode cX11_addPart 58 = .ok (.i2l, 1) := by decide +kernel
theorem dX11_addPart_59 : decode cX11_addPart 59 = .ok (.aload_n 0, 1) := by decide +kernel
theorem dX11_addPart_60 : decode cX11_addPart 60 = .ok (.iload_n 1, 1) := by decide +kernel
theorem dX11_addPart_61 : decode cX11_addPart 61 = .ok (.iload 5, 2) := by decide +kernel
theorem dX11_addPart_63 : decode cX11_addPart 63 = .ok (.invokevirtual 216, 3) := by decide +kernel
theorem dX11_addPart_66 : decode cX11_addPart 66 = .ok (.lmul, 1) := by decide +kernel
theorem dX11_addPart_67 : decode cX11_addPart 67 = .ok (.aload_n 0, 1) := by decide +kernel
theorem dX11_addPart_68 : decode cX11_addPart 68 = .ok (.getfield 36, 3) := by decide +kernel
theorem dX11_addPart_71 : decode cX11_addPart 71 = .ok (.iload 5, 2) := by decide +kernel
theorem dX11_addPart_73 : decode cX11_addPart 73 = .ok (.iaload, 1) := by decide +kernel
theorem dX11_addPart_74 : decode cX11_addPart 74 = .ok (.i2l, 1) := by decide +kernel
theorem dX11_addPart_75 : decode cX11_addPart 75 = .ok (.aload_n 0, 1) := by decide +kernel
theorem dX11_addPart_76 : decode cX11_addPart 76 = .ok (.iload_n 1, 1) := by decide +kernel
theorem dX11_addPart_77 : decode cX11_addPart 77 = .ok (.invokevirtual 220, 3) := by decide +kernel
theorem dX11_addPart_80 : decode cX11_addPart 80 = .ok (.lmul, 1) := by decide +kernel
theorem dX11_addPart_81 : decode cX11_addPart 81 = .ok (.invokevirtual 213, 3) := by decide +kernel
theorem dX11_addPart_84 : decode cX11_addPart 84 = .ok (.iinc 5 1, 3) := by decide +kernel
theorem dX11_addPart_87 : decode cX11_addPart 87 = .ok (.goto (-50), 3) := by decide +kernel
theorem dX11_addPart_90 : decode cX11_addPart 90 = .ok (.return_, 1) := by decide +kernel
theorem dX11_noFraction_0 : decode cX11_noFraction 0 = .ok (.aload_n 0, 1) := by decide +kernel
theorem dX11_noFraction_1 : decode cX11_noFraction 1 = .ok (.lconst 0, 1) := by decide +kernel
theorem dX11_noFraction_2 : decode cX11_noFraction 2 = .ok (.putfield 157, 3) := by decide +kernel
theorem dX11_noFraction_5 : decode cX11_noFraction 5 = .ok (.aload_n 0, 1) := by decide +kernel
theorem dX11_noFraction_6 : decode cX11_noFraction 6 = .ok (.lconst 1, 1) := by decide +kernel
theorem dX11_noFraction_7 : decode cX11_noFraction 7 = .ok (.putfield 28, 3) := by decide +kernel
theorem dX11_noFraction_10 : decode cX11_noFraction 10 = .ok (.return_, 1) := by decide +kernel
theorem dX11_split_0 : decode cX11_split 0 = .ok (.iload_n 1, 1) := by decide +kernel
theorem dX11_split_1 : decode cX11_split 1 = .ok (.invokestatic 81, 3) := by decide +kernel
theorem dX11_split_4 : decode cX11_split 4 = .ok (.ifCond .eq 29, 3) := by decide +kernel
theorem dX11_split_7 : decode cX11_split 7 = .ok (.iload_n 2, 1) := by decide +kernel
theorem dX11_split_8 : decode cX11_split 8 = .ok (.iconst 0, 1) := by decide +kernel
theorem dX11_split_9 : decode cX11_split 9 = .ok (.iconst 5, 1) := by decide +kernel
theorem dX11_split_10 : decode cX11_split 10 = .ok (.invokestatic 66, 3) := by decide +kernel
theorem dX11_split_13 : decode cX11_split 13 = .ok (.ifCond .eq 20, 3) := by decide +kernel
theorem dX11_split_16 : decode cX11_split 16 = .ok (.iload_n 3, 1) := by decide +kernel
theorem dX11_split_17 : decode cX11_split 17 = .ok (.iconst 0, 1) := by decide +kernel
theorem dX11_split_18 : decode cX11_split 18 = .ok (.iconst 1, 1) := by decide +kernel
theorem dX11_split_19 : decode cX11_split 19 = .ok (.invokestatic 66, 3) := by decide +kernel
theorem dX11_split_22 : decode cX11_split 22 = .ok (.ifCond .eq 11, 3) := by decide +kernel
theorem dX11_split_25 : decode cX11_split 25 = .ok (.aload_n 0, 1) := by decide +kernel
theorem dX11_split_26 : decode cX11_split 26 = .ok (.iload_n 1, 1) := by decide +kernel
theorem dX11_split_27 : decode cX11_split 27 = .ok (.invokevirtual 164, 3) := by decide +kernel
theorem dX11_split_30 : decode cX11_split 30 = .ok (.ifCond .ne 7, 3) := by decide +kernel
theorem dX11_split_33 : decode cX11_split 33 = .ok (.ldc2_w 167, 3) := by decide +kernel
theorem dX11_split_36 : decode cX11_split 36 = .ok (.lreturn, 1) := by decide +kernel
theorem dX11_split_37 : decode cX11_split 37 = .ok (.aload_n 0, 1) := by decide +kernel
theorem dX11_split_38 : decode cX11_split 38 = .ok (.iload_n 1, 1) := by decide +kernel
theorem dX11_split_39 : decode cX11_split 39 = .ok (.invokevirtual 197, 3) := by decide +kernel
theorem dX11_split_42 : decode cX11_split 42 = .ok (.aload_n 0, 1) := by decide +kernel
theorem dX11_split_43 : decode cX11_split 43 = .ok (.invokevirtual 223, 3) := by decide +kernel
theorem dX11_split_46 : decode cX11_split 46 = .ok (.iload_n 2, 1) := by decide +kernel
theorem dX11_split_47 : decode cX11_split 47 = .ok (.iconst 5, 1) := by decide +kernel
theorem dX11_split_48 : decode cX11_split 48 = .ok (.if_icmp .ge 12, 3) := by decide +kernel
theorem dX11_split_51 : decode cX11_split 51 = .ok (.aload_n 0, 1) := by decide +kernel
theorem dX11_split_52 : decode cX11_split 52 = .ok (.iload_n 2, 1) := by decide +kernel
theorem dX11_split_53 : decode cX11_split 53 = .ok (.iconst 1, 1) := by decide +kernel
theorem dX11_split_54 : decode cX11_split 54 = .ok (.invokevirtual 226, 3) := by decide +kernel
theorem dX11_split_57 : decode cX11_split 57 = .ok (.goto 33, 3) := by decide +kernel
theorem dX11_split_60 : decode cX11_split 60 = .ok (.aload_n 0, 1) := by decide +kernel
theorem dX11_split_61 : decode cX11_split 61 = .ok (.iconst 0, 1) := by decide +kernel
theorem dX11_split_62 : decode cX11_split 62 = .ok (.iconst 1, 1) := by decide +kernel
theorem dX11_split_63 : decode cX11_split 63 = .ok (.invokevirtual 226, 3) := by decide +kernel
theorem dX11_split_66 : decode cX11_split 66 = .ok (.aload_n 0, 1) := by decide +kernel
theorem dX11_split_67 : decode cX11_split 67 = .ok (.iconst 1, 1) := by decide +kernel
theorem dX11_split_68 : decode cX11_split 68 = .ok (.iconst (-1), 1) := by decide +kernel
theorem dX11_split_69 : decode cX11_split 69 = .ok (.invokevirtual 226, 3) := by decide +kernel
theorem dX11_split_72 : decode cX11_split 72 = .ok (.aload_n 0, 1) := by decide +kernel
theorem dX11_split_73 : decode cX11_split 73 = .ok (.iconst 2, 1) := by decide +kernel
theorem dX11_split_74 : decode cX11_split 74 = .ok (.iconst 1, 1) := by decide +kernel
theorem dX11_split_75 : decode cX11_split 75 = .ok (.invokevirtual 226, 3) := by decide +kernel
theorem dX11_split_78 : decode cX11_split 78 = .ok (.aload_n 0, 1) := by decide +kernel
theorem dX11_split_79 : decode cX11_split 79 = .ok (.iconst 3, 1) := by decide +kernel
theorem dX11_split_80 : decode cX11_split 80 = .ok (.iconst 1, 1) := by decide +kernel
theorem dX11_split_81 : decode cX11_split 81 = .ok (.invokevirtual 226, 3) := by decide +kernel
theorem dX11_split_84 : decode cX11_split 84 = .ok (.aload_n 0, 1) := by decide +kernel
theorem dX11_split_85 : decode cX11_split 85 = .ok (.iconst 4, 1) := by decide +kernel
theorem dX11_split_86 : decode cX11_split 86 = .ok (.iconst (-1), 1) := by decide +kernel
theorem dX11_split_87 : decode cX11_split 87 = .ok (.invokevirtual 226, 3) := by decide +kernel
theorem dX11_split_90 : decode cX11_split 90 = .ok (.aload_n 0, 1) := by decide +kernel
theorem dX11_split_91 : decode cX11_split 91 = .ok (.iload_n 3, 1) := by decide +kernel
theorem dX11_split_92 : decode cX11_split 92 = .ok (.invokevirtual 173, 3) := by decide +kernel
theorem dX11_split_95 : decode cX11_split 95 = .ok (.lreturn, 1) := by decide +kernel
theorem dX11_joined_0 : decode cX11_joined 0 = .ok (.iload_n 1, 1) := by decide +kernel
theorem dX11_joined_1 : decode cX11_joined 1 = .ok (.invokestatic 81, 3) := by decide +kernel
theorem dX11_joined_4 : decode cX11_joined 4 = .ok (.ifCond .eq 34, 3) := by decide +kernel
theorem dX11_joined_7 : decode cX11_joined 7 = .ok (.iload_n 2, 1) := by decide +kernel
theorem dX11_joined_8 : decode cX11_joined 8 = .ok (.iconst 0, 1) := by decide +kernel
theorem dX11_joined_9 : decode cX11_joined 9 = .ok (.aload_n 0, 1) := by decide +kernel
theorem dX11_joined_10 : decode cX11_joined 10 = .ok (.invokevirtual 185, 3) := by decide +kernel
theorem dX11_joined_13 : decode cX11_joined 13 = .ok (.iconst 1, 1) := by decide +kernel
theorem dX11_joined_14 : decode cX11_joined 14 = .ok (.isub, 1) := by decide +kernel
theorem dX11_joined_15 : decode cX11_joined 15 = .ok (.invokestatic 66, 3) := by decide +kernel
theorem dX11_joined_18 : decode cX11_joined 18 = .ok (.ifCond .eq 20, 3) := by decide +kernel
theorem dX11_joined_21 : decode cX11_joined 21 = .ok (.iload_n 3, 1) := by decide +kernel
theorem dX11_joined_22 : decode cX11_joined 22 = .ok (.iconst 0, 1) := by decide +kernel
theorem dX11_joined_23 : decode cX11_joined 23 = .ok (.iconst 1, 1) := by decide +kernel
theorem dX11_joined_24 : decode cX11_joined 24 = .ok (.invokestatic 66, 3) := by decide +kernel
theorem dX11_joined_27 : decode cX11_joined 27 = .ok (.ifCond .eq 11, 3) := by decide +kernel
theorem dX11_joined_30 : decode cX11_joined 30 = .ok (.aload_n 0, 1) := by decide +kernel
theorem dX11_joined_31 : decode cX11_joined 31 = .ok (.iload_n 1, 1) := by decide +kernel
theorem dX11_joined_32 : decode cX11_joined 32 = .ok (.invokevirtual 164, 3) := by decide +kernel
theorem dX11_joined_35 : decode cX11_joined 35 = .ok (.ifCond .ne 7, 3) := by decide +kernel
theorem dX11_joined_38 : decode cX11_joined 38 = .ok (.ldc2_w 167, 3) := by decide +kernel
theorem dX11_joined_41 : decode cX11_joined 41 = .ok (.lreturn, 1) := by decide +kernel
theorem dX11_joined_42 : decode cX11_joined 42 = .ok (.aload_n 0, 1) := by decide +kernel
theorem dX11_joined_43 : decode cX11_joined 43 = .ok (.iload_n 1, 1) := by decide +kernel
theorem dX11_joined_44 : decode cX11_joined 44 = .ok (.invokevirtual 197, 3) := by decide +kernel
theorem dX11_joined_47 : decode cX11_joined 47 = .ok (.aload_n 0, 1) := by decide +kernel
theorem dX11_joined_48 : decode cX11_joined 48 = .ok (.invokevirtual 223, 3) := by decide +kernel
theorem dX11_joined_51 : decode cX11_joined 51 = .ok (.aload_n 0, 1) := by decide +kernel
theorem dX11_joined_52 : decode cX11_joined 52 = .ok (.iconst 1, 1) := by decide +kernel
theorem dX11_joined_53 : decode cX11_joined 53 = .ok (.iconst 1, 1) := by decide +kernel
theorem dX11_joined_54 : decode cX11_joined 54 = .ok (.invokevirtual 226, 3) := by decide +kernel
theorem dX11_joined_57 : decode cX11_joined 57 = .ok (.aload_n 0, 1) := by decide +kernel
theorem dX11_joined_58 : decode cX11_joined 58 = .ok (.getfield 36, 3) := by decide +kernel
theorem dX11_joined_61 : decode cX11_joined 61 = .ok (.iload_n 2, 1) := by decide +kernel
theorem dX11_joined_62 : decode cX11_joined 62 = .ok (.dup2, 1) := by decide +kernel
theorem dX11_joined_63 : decode cX11_joined 63 = .ok (.iaload, 1) := by decide +kernel
theorem dX11_joined_64 : decode cX11_joined 64 = .ok (.aload_n 0, 1) := by decide +kernel
theorem dX11_joined_65 : decode cX11_joined 65 = .ok (.getfield 36, 3) := by decide +kernel
theorem dX11_joined_68 : decode cX11_joined 68 = .ok (.iload_n 2, 1) := by decide +kernel
theorem dX11_joined_69 : decode cX11_joined 69 = .ok (.iconst 1, 1) := by decide +kernel
theorem dX11_joined_70 : decode cX11_joined 70 = .ok (.iadd, 1) := by decide +kernel
theorem dX11_joined_71 : decode cX11_joined 71 = .ok (.iaload, 1) := by decide +kernel
theorem dX11_joined_72 : decode cX11_joined 72 = .ok (.iadd, 1) := by decide +kernel
theorem dX11_joined_73 : decode cX11_joined 73 = .ok (.iastore, 1) := by decide +kernel
theorem dX11_joined_74 : decode cX11_joined 74 = .ok (.aload_n 0, 1) := by decide +kernel
theorem dX11_joined_75 : decode cX11_joined 75 = .ok (.getfield 39, 3) := by decide +kernel
theorem dX11_joined_78 : decode cX11_joined 78 = .ok (.iload_n 2, 1) := by decide +kernel
theorem dX11_joined_79 : decode cX11_joined 79 = .ok (.dup2, 1) := by decide +kernel
theorem dX11_joined_80 : decode cX11_joined 80 = .ok (.iaload, 1) := by decide +kernel
theorem dX11_joined_81 : decode cX11_joined 81 = .ok (.aload_n 0, 1) := by decide +kernel
theorem dX11_joined_82 : decode cX11_joined 82 = .ok (.getfield 39, 3) := by decide +kernel
theorem dX11_joined_85 : decode cX11_joined 85 = .ok (.iload_n 2, 1) := by decide +kernel
theorem dX11_joined_86 : decode cX11_joined 86 = .ok (.iconst 1, 1) := by decide +kernel
theorem dX11_joined_87 : decode cX11_joined 87 = .ok (.iadd, 1) := by decide +kernel
theorem dX11_joined_88 : decode cX11_joined 88 = .ok (.iaload, 1) := by decide +kernel
theorem dX11_joined_89 : decode cX11_joined 89 = .ok (.iadd, 1) := by decide +kernel
theorem dX11_joined_90 : decode cX11_joined 90 = .ok (.iastore, 1) := by decide +kernel
theorem dX11_joined_91 : decode cX11_joined 91 = .ok (.aload_n 0, 1) := by decide +kernel
theorem dX11_joined_92 : decode cX11_joined 92 = .ok (.getfield 36, 3) := by decide +kernel
theorem dX11_joined_95 : decode cX11_joined 95 = .ok (.iload_n 2, 1) := by decide +kernel
theorem dX11_joined_96 : decode cX11_joined 96 = .ok (.iconst 1, 1) := by decide +kernel
theorem dX11_joined_97 : decode cX11_joined 97 = .ok (.iadd, 1) := by decide +kernel
theorem dX11_joined_98 : decode cX11_joined 98 = .ok (.iconst 0, 1) := by decide +kernel
theorem dX11_joined_99 : decode cX11_joined 99 = .ok (.iastore, 1) := by decide +kernel
theorem dX11_joined_100 : decode cX11_joined 100 = .ok (.aload_n 0, 1) := by decide +kernel
theorem dX11_joined_101 : decode cX11_joined 101 = .ok (.iconst 1, 1) := by decide +kernel
theorem dX11_joined_102 : decode cX11_joined 102 = .ok (.iconst (-1), 1) := by decide +kernel
theorem dX11_joined_103 : decode cX11_joined 103 = .ok (.invokevirtual 226, 3) := by decide +kernel
theorem dX11_joined_106 : decode cX11_joined 106 = .ok (.aload_n 0, 1) := by decide +kernel
theorem dX11_joined_107 : decode cX11_joined 107 = .ok (.iload_n 3, 1) := by decide +kernel
theorem dX11_joined_108 : decode cX11_joined 108 = .ok (.invokevirtual 173, 3) := by decide +kernel
theorem dX11_joined_111 : decode cX11_joined 111 = .ok (.lreturn, 1) := by decide +kernel
theorem dX11_area_0 : decode cX11_area 0 = .ok (.iload_n 1, 1) := by decide +kernel
theorem dX11_area_1 : decode cX11_area 1 = .ok (.invokestatic 81, 3) := by decide +kernel
theorem dX11_area_4 : decode cX11_area 4 = .ok (.ifCond .eq 12, 3) := by decide +kernel
theorem dX11_area_7 : decode cX11_area 7 = .ok (.iload_n 2, 1) := by decide +kernel
theorem dX11_area_8 : decode cX11_area 8 = .ok (.iconst 0, 1) := by decide +kernel
theorem dX11_area_9 : decode cX11_area 9 = .ok (.iconst 1, 1) := by decide +kernel
theorem dX11_area_10 : decode cX11_area 10 = .ok (.invokestatic 66, 3) := by decide +kernel
theorem dX11_area_13 : decode cX11_area 13 = .ok (.ifCond .ne 7, 3) := by decide +kernel
theorem dX11_area_16 : decode cX11_area 16 = .ok (.ldc2_w 167, 3) := by decide +kernel
theorem dX11_area_19 : decode cX11_area 19 = .ok (.lreturn, 1) := by decide +kernel
theorem dX11_area_20 : decode cX11_area 20 = .ok (.iconst 0, 1) := by decide +kernel
theorem dX11_area_21 : decode cX11_area 21 = .ok (.istore_n 3, 1) := by decide +kernel
theorem dX11_area_22 : decode cX11_area 22 = .ok (.iconst 0, 1) := by decide +kernel
theorem dX11_area_23 : decode cX11_area 23 = .ok (.istore 4, 2) := by decide +kernel
theorem dX11_area_25 : decode cX11_area 25 = .ok (.iconst 0, 1) := by decide +kernel
theorem dX11_area_26 : decode cX11_area 26 = .ok (.istore 5, 2) := by decide +kernel
theorem dX11_area_28 : decode cX11_area 28 = .ok (.iload 5, 2) := by decide +kernel
theorem dX11_area_30 : decode cX11_area 30 = .ok (.bipush 40, 2) := by decide +kernel
theorem dX11_area_32 : decode cX11_area 32 = .ok (.if_icmp .ge 111, 3) := by decide +kernel
theorem dX11_area_35 : decode cX11_area 35 = .ok (.iconst 0, 1) := by decide +kernel
theorem dX11_area_36 : decode cX11_area 36 = .ok (.istore 6, 2) := by decide +kernel
theorem dX11_area_38 : decode cX11_area 38 = .ok (.iload 6, 2) := by decide +kernel
theorem dX11_area_40 : decode cX11_area 40 = .ok (.bipush 40, 2) := by decide +kernel
theorem dX11_area_42 : decode cX11_area 42 = .ok (.if_icmp .ge 95, 3) := by decide +kernel
theorem dX11_area_45 : decode cX11_area 45 = .ok (.aload_n 0, 1) := by decide +kernel
theorem dX11_area_46 : decode cX11_area 46 = .ok (.iload_n 1, 1) := by decide +kernel
theorem dX11_area_47 : decode cX11_area 47 = .ok (.iload 5, 2) := by decide +kernel
theorem dX11_area_49 : decode cX11_area 49 = .ok (.invokevirtual 153, 3) := by decide +kernel
theorem dX11_area_52 : decode cX11_area 52 = .ok (.ifCond .eq 79, 3) := by decide +kernel
theorem dX11_area_55 : decode cX11_area 55 = .ok (.aload_n 0, 1) := by decide +kernel
theorem dX11_area_56 : decode cX11_area 56 = .ok (.iload_n 1, 1) := by decide +kernel
theorem dX11_area_57 : decode cX11_area 57 = .ok (.iload 6, 2) := by decide +kernel
theorem dX11_area_59 : decode cX11_area 59 = .ok (.invokevirtual 153, 3) := by decide +kernel
theorem dX11_area_62 : decode cX11_area 62 = .ok (.ifCond .eq 69, 3) := by decide +kernel
theorem dX11_area_65 : decode cX11_area 65 = .ok (.aload_n 0, 1) := by decide +kernel
theorem dX11_area_66 : decode cX11_area 66 = .ok (.getfield 13, 3) := by decide +kernel
theorem dX11_area_69 : decode cX11_area 69 = .ok (.iload 5, 2) := by decide +kernel
theorem dX11_area_71 : decode cX11_area 71 = .ok (.iaload, 1) := by decide +kernel
theorem dX11_area_72 : decode cX11_area 72 = .ok (.iconst 1, 1) := by decide +kernel
theorem dX11_area_73 : decode cX11_area 73 = .ok (.if_icmp .ne 58, 3) := by decide +kernel
theorem dX11_area_76 : decode cX11_area 76 = .ok (.aload_n 0, 1) := by decide +kernel
theorem dX11_area_77 : decode cX11_area 77 = .ok (.getfield 13, 3) := by decide +kernel
theorem dX11_area_80 : decode cX11_area 80 = .ok (.iload 6, 2) := by decide +kernel
theorem dX11_area_82 : decode cX11_area 82 = .ok (.iaload, 1) := by decide +kernel
theorem dX11_area_83 : decode cX11_area 83 = .ok (.iconst 2, 1) := by decide +kernel
theorem dX11_area_84 : decode cX11_area 84 = .ok (.if_icmp .ne 47, 3) := by decide +kernel
theorem dX11_area_87 : decode cX11_area 87 = .ok (.aload_n 0, 1) := by decide +kernel
theorem dX11_area_88 : decode cX11_area 88 = .ok (.iload_n 1, 1) := by decide +kernel
theorem dX11_area_89 : decode cX11_area 89 = .ok (.iload 5, 2) := by decide +kernel
theorem dX11_area_91 : decode cX11_area 91 = .ok (.invokevirtual 84, 3) := by decide +kernel
theorem dX11_area_94 : decode cX11_area 94 = .ok (.aload_n 0, 1) := by decide +kernel
theorem dX11_area_95 : decode cX11_area 95 = .ok (.iload_n 1, 1) := by decide +kernel
theorem dX11_area_96 : decode cX11_area 96 = .ok (.iload 6, 2) := by decide +kernel
theorem dX11_area_98 : decode cX11_area 98 = .ok (.invokevirtual 84, 3) := by decide +kernel
theorem dX11_area_101 : decode cX11_area 101 = .ok (.isub, 1) := by decide +kernel
theorem dX11_area_102 : decode cX11_area 102 = .ok (.istore 7, 2) := by decide +kernel
theorem dX11_area_104 : decode cX11_area 104 = .ok (.iinc 3 1, 3) := by decide +kernel
theorem dX11_area_107 : decode cX11_area 107 = .ok (.iload 4, 2) := by decide +kernel
theorem dX11_area_109 : decode cX11_area 109 = .ok (.iload 7, 2) := by decide +kernel
theorem dX11_area_111 : decode cX11_area 111 = .ok (.ifCond .le 7, 3) := by decide +kernel
theorem dX11_area_114 : decode cX11_area 114 = .ok (.iconst 2, 1) := by decide +kernel
theorem dX11_area_115 : decode cX11_area 115 = .ok (.goto 13, 3) := by decide +kernel
theorem dX11_area_118 : decode cX11_area 118 = .ok (.iload 7, 2) := by decide +kernel
theorem dX11_area_120 : decode cX11_area 120 = .ok (.ifCond .ne 7, 3) := by decide +kernel
theorem dX11_area_123 : decode cX11_area 123 = .ok (.iconst 1, 1) := by decide +kernel
theorem dX11_area_124 : decode cX11_area 124 = .ok (.goto 4, 3) := by decide +kernel
theorem dX11_area_127 : decode cX11_area 127 = .ok (.iconst 0, 1) := by decide +kernel
theorem dX11_area_128 : decode cX11_area 128 = .ok (.iadd, 1) := by decide +kernel
theorem dX11_area_129 : decode cX11_area 129 = .ok (.istore 4, 2) := by decide +kernel
theorem dX11_area_131 : decode cX11_area 131 = .ok (.iinc 6 1, 3) := by decide +kernel
theorem dX11_area_134 : decode cX11_area 134 = .ok (.goto (-96), 3) := by decide +kernel
theorem dX11_area_137 : decode cX11_area 137 = .ok (.iinc 5 1, 3) := by decide +kernel
theorem dX11_area_140 : decode cX11_area 140 = .ok (.goto (-112), 3) := by decide +kernel
theorem dX11_area_143 : decode cX11_area 143 = .ok (.iload_n 3, 1) := by decide +kernel
theorem dX11_area_144 : decode cX11_area 144 = .ok (.ifCond .ne 7, 3) := by decide +kernel
theorem dX11_area_147 : decode cX11_area 147 = .ok (.ldc2_w 167, 3) := by decide +kernel
theorem dX11_area_150 : decode cX11_area 150 = .ok (.lreturn, 1) := by decide +kernel
theorem dX11_area_151 : decode cX11_area 151 = .ok (.aload_n 0, 1) := by decide +kernel
theorem dX11_area_152 : decode cX11_area 152 = .ok (.iload 4, 2) := by decide +kernel
theorem dX11_area_154 : decode cX11_area 154 = .ok (.i2l, 1) := by decide +kernel
theorem dX11_area_155 : decode cX11_area 155 = .ok (.ldc2_w 209, 3) := by decide +kernel
theorem dX11_area_158 : decode cX11_area 158 = .ok (.iload_n 3, 1) := by decide +kernel
theorem dX11_area_159 : decode cX11_area 159 = .ok (.i2l, 1) := by decide +kernel
theorem dX11_area_160 : decode cX11_area 160 = .ok (.lmul, 1) := by decide +kernel
theorem dX11_area_161 : decode cX11_area 161 = .ok (.invokevirtual 160, 3) := by decide +kernel
theorem dX11_area_164 : decode cX11_area 164 = .ok (.aload_n 0, 1) := by decide +kernel
theorem dX11_area_165 : decode cX11_area 165 = .ok (.iload_n 2, 1) := by decide +kernel
theorem dX11_area_166 : decode cX11_area 166 = .ok (.invokevirtual 173, 3) := by decide +kernel
theorem dX11_area_169 : decode cX11_area 169 = .ok (.lreturn, 1) := by decide +kernel
theorem dX11_isFlat_0 : decode cX11_isFlat 0 = .ok (.aload_n 0, 1) := by decide +kernel
theorem dX11_isFlat_1 : decode cX11_isFlat 1 = .ok (.getfield 60, 3) := by decide +kernel
theorem dX11_isFlat_4 : decode cX11_isFlat 4 = .ok (.iload_n 1, 1) := by decide +kernel
theorem dX11_isFlat_5 : decode cX11_isFlat 5 = .ok (.iconst 1, 1) := by decide +kernel
theorem dX11_isFlat_6 : decode cX11_isFlat 6 = .ok (.iadd, 1) := by decide +kernel
theorem dX11_isFlat_7 : decode cX11_isFlat 7 = .ok (.iaload, 1) := by decide +kernel
theorem dX11_isFlat_8 : decode cX11_isFlat 8 = .ok (.aload_n 0, 1) := by decide +kernel
theorem dX11_isFlat_9 : decode cX11_isFlat 9 = .ok (.getfield 57, 3) := by decide +kernel
theorem dX11_isFlat_12 : decode cX11_isFlat 12 = .ok (.iload_n 1, 1) := by decide +kernel
theorem dX11_isFlat_13 : decode cX11_isFlat 13 = .ok (.iaload, 1) := by decide +kernel
theorem dX11_isFlat_14 : decode cX11_isFlat 14 = .ok (.imul, 1) := by decide +kernel
theorem dX11_isFlat_15 : decode cX11_isFlat 15 = .ok (.aload_n 0, 1) := by decide +kernel
theorem dX11_isFlat_16 : decode cX11_isFlat 16 = .ok (.getfield 60, 3) := by decide +kernel
theorem dX11_isFlat_19 : decode cX11_isFlat 19 = .ok (.iload_n 1, 1) := by decide +kernel
theorem dX11_isFlat_20 : decode cX11_isFlat 20 = .ok (.iaload, 1) := by decide +kernel
theorem dX11_isFlat_21 : decode cX11_isFlat 21 = .ok (.aload_n 0, 1) := by decide +kernel
theorem dX11_isFlat_22 : decode cX11_isFlat 22 = .ok (.getfield 57, 3) := by decide +kernel
theorem dX11_isFlat_25 : decode cX11_isFlat 25 = .ok (.iload_n 1, 1) := by decide +kernel
theorem dX11_isFlat_26 : decode cX11_isFlat 26 = .ok (.iconst 1, 1) := by decide +kernel
theorem dX11_isFlat_27 : decode cX11_isFlat 27 = .ok (.iadd, 1) := by decide +kernel
theorem dX11_isFlat_28 : decode cX11_isFlat 28 = .ok (.iaload, 1) := by decide +kernel
theorem dX11_isFlat_29 : decode cX11_isFlat 29 = .ok (.imul, 1) := by decide +kernel
theorem dX11_isFlat_30 : decode cX11_isFlat 30 = .ok (.if_icmp .gt 7, 3) := by decide +kernel
theorem dX11_isFlat_33 : decode cX11_isFlat 33 = .ok (.iconst 1, 1) := by decide +kernel
theorem dX11_isFlat_34 : decode cX11_isFlat 34 = .ok (.goto 4, 3) := by decide +kernel
theorem dX11_isFlat_37 : decode cX11_isFlat 37 = .ok (.iconst 0, 1) := by decide +kernel
theorem dX11_isFlat_38 : decode cX11_isFlat 38 = .ok (.ireturn, 1) := by decide +kernel
theorem dX11_joinsLast_0 : decode cX11_joinsLast 0 = .ok (.aload_n 0, 1) := by decide +kernel
theorem dX11_joinsLast_1 : decode cX11_joinsLast 1 = .ok (.getfield 230, 3) := by decide +kernel
theorem dX11_joinsLast_4 : decode cX11_joinsLast 4 = .ok (.iconst 2, 1) := by decide +kernel
theorem dX11_joinsLast_5 : decode cX11_joinsLast 5 = .ok (.isub, 1) := by decide +kernel
theorem dX11_joinsLast_6 : decode cX11_joinsLast 6 = .ok (.istore_n 1, 1) := by decide +kernel
theorem dX11_joinsLast_7 : decode cX11_joinsLast 7 = .ok (.aload_n 0, 1) := by decide +kernel
theorem dX11_joinsLast_8 : decode cX11_joinsLast 8 = .ok (.getfield 54, 3) := by decide +kernel
theorem dX11_joinsLast_11 : decode cX11_joinsLast 11 = .ok (.iload_n 1, 1) := by decide +kernel
theorem dX11_joinsLast_12 : decode cX11_joinsLast 12 = .ok (.aload_n 0, 1) := by decide +kernel
theorem dX11_joinsLast_13 : decode cX11_joinsLast 13 = .ok (.getfield 54, 3) := by decide +kernel
theorem dX11_joinsLast_16 : decode cX11_joinsLast 16 = .ok (.iload_n 1, 1) := by decide +kernel
theorem dX11_joinsLast_17 : decode cX11_joinsLast 17 = .ok (.iconst 1, 1) := by decide +kernel
theorem dX11_joinsLast_18 : decode cX11_joinsLast 18 = .ok (.iadd, 1) := by decide +kernel
theorem dX11_joinsLast_19 : decode cX11_joinsLast 19 = .ok (.iaload, 1) := by decide +kernel
theorem dX11_joinsLast_20 : decode cX11_joinsLast 20 = .ok (.iastore, 1) := by decide +kernel
theorem dX11_joinsLast_21 : decode cX11_joinsLast 21 = .ok (.aload_n 0, 1) := by decide +kernel
theorem dX11_joinsLast_22 : decode cX11_joinsLast 22 = .ok (.getfield 57, 3) := by decide +kernel
theorem dX11_joinsLast_25 : decode cX11_joinsLast 25 = .ok (.iload_n 1, 1) := by decide +kernel
theorem dX11_joinsLast_26 : decode cX11_joinsLast 26 = .ok (.dup2, 1) := by decide +kernel
theorem dX11_joinsLast_27 : decode cX11_joinsLast 27 = .ok (.iaload, 1) := by decide +kernel
theorem dX11_joinsLast_28 : decode cX11_joinsLast 28 = .ok (.aload_n 0, 1) := by decide +kernel
theorem dX11_joinsLast_29 : decode cX11_joinsLast 29 = .ok (.getfield 57, 3) := by decide +kernel
theorem dX11_joinsLast_32 : decode cX11_joinsLast 32 = .ok (.iload_n 1, 1) := by decide +kernel
theorem dX11_joinsLast_33 : decode cX11_joinsLast 33 = .ok (.iconst 1, 1) := by decide +kernel
theorem dX11_joinsLast_34 : decode cX11_joinsLast 34 = .ok (.iadd, 1) := by decide +kernel
theorem dX11_joinsLast_35 : decode cX11_joinsLast 35 = .ok (.iaload, 1) := by decide +kernel
theorem dX11_joinsLast_36 : decode cX11_joinsLast 36 = .ok (.iadd, 1) := by decide +kernel
theorem dX11_joinsLast_37 : decode cX11_joinsLast 37 = .ok (.iastore, 1) := by decide +kernel
theorem dX11_joinsLast_38 : decode cX11_joinsLast 38 = .ok (.aload_n 0, 1) := by decide +kernel
theorem dX11_joinsLast_39 : decode cX11_joinsLast 39 = .ok (.getfield 60, 3) := by decide +kernel
theorem dX11_joinsLast_42 : decode cX11_joinsLast 42 = .ok (.iload_n 1, 1) := by decide +kernel
theorem dX11_joinsLast_43 : decode cX11_joinsLast 43 = .ok (.dup2, 1) := by decide +kernel
theorem dX11_joinsLast_44 : decode cX11_joinsLast 44 = .ok (.iaload, 1) := by decide +kernel
theorem dX11_joinsLast_45 : decode cX11_joinsLast 45 = .ok (.aload_n 0, 1) := by decide +kernel
theorem dX11_joinsLast_46 : decode cX11_joinsLast 46 = .ok (.getfield 60, 3) := by decide +kernel
theorem dX11_joinsLast_49 : decode cX11_joinsLast 49 = .ok (.iload_n 1, 1) := by decide +kernel
theorem dX11_joinsLast_50 : decode cX11_joinsLast 50 = .ok (.iconst 1, 1) := by decide +kernel
theorem dX11_joinsLast_51 : decode cX11_joinsLast 51 = .ok (.iadd, 1) := by decide +kernel
theorem dX11_joinsLast_52 : decode cX11_joinsLast 52 = .ok (.iaload, 1) := by decide +kernel
theorem dX11_joinsLast_53 : decode cX11_joinsLast 53 = .ok (.iadd, 1) := by decide +kernel
theorem dX11_joinsLast_54 : decode cX11_joinsLast 54 = .ok (.iastore, 1) := by decide +kernel
theorem dX11_joinsLast_55 : decode cX11_joinsLast 55 = .ok (.aload_n 0, 1) := by decide +kernel
theorem dX11_joinsLast_56 : decode cX11_joinsLast 56 = .ok (.dup, 1) := by decide +kernel
theorem dX11_joinsLast_57 : decode cX11_joinsLast 57 = .ok (.getfield 230, 3) := by decide +kernel
theorem dX11_joinsLast_60 : decode cX11_joinsLast 60 = .ok (.iconst 1, 1) := by decide +kernel
theorem dX11_joinsLast_61 : decode cX11_joinsLast 61 = .ok (.isub, 1) := by decide +kernel
theorem dX11_joinsLast_62 : decode cX11_joinsLast 62 = .ok (.putfield 230, 3) := by decide +kernel
theorem dX11_joinsLast_65 : decode cX11_joinsLast 65 = .ok (.return_, 1) := by decide +kernel
theorem dX11_findPools_0 : decode cX11_findPools 0 = .ok (.aload_n 0, 1) := by decide +kernel
theorem dX11_findPools_1 : decode cX11_findPools 1 = .ok (.iconst 0, 1) := by decide +kernel
theorem dX11_findPools_2 : decode cX11_findPools 2 = .ok (.putfield 230, 3) := by decide +kernel
theorem dX11_findPools_5 : decode cX11_findPools 5 = .ok (.iconst 0, 1) := by decide +kernel
theorem dX11_findPools_6 : decode cX11_findPools 6 = .ok (.istore_n 2, 1) := by decide +kernel
theorem dX11_findPools_7 : decode cX11_findPools 7 = .ok (.iload_n 2, 1) := by decide +kernel
theorem dX11_findPools_8 : decode cX11_findPools 8 = .ok (.bipush 100, 2) := by decide +kernel
theorem dX11_findPools_10 : decode cX11_findPools 10 = .ok (.if_icmp .gt 180, 3) := by decide +kernel
theorem dX11_findPools_13 : decode cX11_findPools 13 = .ok (.iconst 0, 1) := by decide +kernel
theorem dX11_findPools_14 : decode cX11_findPools 14 = .ok (.istore_n 3, 1) := by decide +kernel
theorem dX11_findPools_15 : decode cX11_findPools 15 = .ok (.iconst 0, 1) := by decide +kernel
theorem dX11_findPools_16 : decode cX11_findPools 16 = .ok (.istore 4, 2) := by decide +kernel
theorem dX11_findPools_18 : decode cX11_findPools 18 = .ok (.iconst 0, 1) := by decide +kernel
theorem dX11_findPools_19 : decode cX11_findPools 19 = .ok (.istore 5, 2) := by decide +kernel
theorem dX11_findPools_21 : decode cX11_findPools 21 = .ok (.iload 5, 2) := by decide +kernel
theorem dX11_findPools_23 : decode cX11_findPools 23 = .ok (.bipush 40, 2) := by decide +kernel
theorem dX11_findPools_25 : decode cX11_findPools 25 = .ok (.if_icmp .ge 76, 3) := by decide +kernel
theorem dX11_findPools_28 : decode cX11_findPools 28 = .ok (.aload_n 0, 1) := by decide +kernel
theorem dX11_findPools_29 : decode cX11_findPools 29 = .ok (.iload_n 1, 1) := by decide +kernel
theorem dX11_findPools_30 : decode cX11_findPools 30 = .ok (.iload 5, 2) := by decide +kernel
theorem dX11_findPools_32 : decode cX11_findPools 32 = .ok (.invokevirtual 153, 3) := by decide +kernel
theorem dX11_findPools_35 : decode cX11_findPools 35 = .ok (.ifCond .eq 18, 3) := by decide +kernel
theorem dX11_findPools_38 : decode cX11_findPools 38 = .ok (.aload_n 0, 1) := by decide +kernel
theorem dX11_findPools_39 : decode cX11_findPools 39 = .ok (.iload_n 1, 1) := by decide +kernel
theorem dX11_findPools_40 : decode cX11_findPools 40 = .ok (.iload 5, 2) := by decide +kernel
theorem dX11_findPools_42 : decode cX11_findPools 42 = .ok (.invokevirtual 84, 3) := by decide +kernel
theorem dX11_findPools_45 : decode cX11_findPools 45 = .ok (.iload_n 2, 1) := by decide +kernel
theorem dX11_findPools_46 : decode cX11_findPools 46 = .ok (.if_icmp .ne 7, 3) := by decide +kernel
theorem dX11_findPools_49 : decode cX11_findPools 49 = .ok (.iconst 1, 1) := by decide +kernel
theorem dX11_findPools_50 : decode cX11_findPools 50 = .ok (.goto 4, 3) := by decide +kernel
theorem dX11_findPools_53 : decode cX11_findPools 53 = .ok (.iconst 0, 1) := by decide +kernel
theorem dX11_findPools_54 : decode cX11_findPools 54 = .ok (.istore 6, 2) := by decide +kernel
theorem dX11_findPools_56 : decode cX11_findPools 56 = .ok (.iload_n 3, 1) := by decide +kernel
theorem dX11_findPools_57 : decode cX11_findPools 57 = .ok (.iload 6, 2) := by decide +kernel
theorem dX11_findPools_59 : decode cX11_findPools 59 = .ok (.ifCond .eq 7, 3) := by decide +kernel
theorem dX11_findPools_62 : decode cX11_findPools 62 = .ok (.iconst 1, 1) := by decide +kernel
theorem dX11_findPools_63 : decode cX11_findPools 63 = .ok (.goto 4, 3) := by decide +kernel
theorem dX11_findPools_66 : decode cX11_findPools 66 = .ok (.iconst 0, 1) := by decide +kernel
theorem dX11_findPools_67 : decode cX11_findPools 67 = .ok (.iadd, 1) := by decide +kernel
theorem dX11_findPools_68 : decode cX11_findPools 68 = .ok (.istore_n 3, 1) := by decide +kernel
theorem dX11_findPools_69 : decode cX11_findPools 69 = .ok (.iload 4, 2) := by decide +kernel
theorem dX11_findPools_71 : decode cX11_findPools 71 = .ok (.iload 6, 2) := by decide +kernel
theorem dX11_findPools_73 : decode cX11_findPools 73 = .ok (.ifCond .eq 18, 3) := by decide +kernel
theorem dX11_findPools_76 : decode cX11_findPools 76 = .ok (.aload_n 0, 1) := by decide +kernel
theorem dX11_findPools_77 : decode cX11_findPools 77 = .ok (.getfield 13, 3) := by decide +kernel
theorem dX11_findPools_80 : decode cX11_findPools 80 = .ok (.iload 5, 2) := by decide +kernel
theorem dX11_findPools_82 : decode cX11_findPools 82 = .ok (.iaload, 1) := by decide +kernel
theorem dX11_findPools_83 : decode cX11_findPools 83 = .ok (.iconst 1, 1) := by decide +kernel
theorem dX11_findPools_84 : decode cX11_findPools 84 = .ok (.if_icmp .ne 7, 3) := by decide +kernel
theorem dX11_findPools_87 : decode cX11_findPools 87 = .ok (.iconst 1, 1) := by decide +kernel
theorem dX11_findPools_88 : decode cX11_findPools 88 = .ok (.goto 4, 3) := by decide +kernel
theorem dX11_findPools_91 : decode cX11_findPools 91 = .ok (.iconst 0, 1) := by decide +kernel
theorem dX11_findPools_92 : decode cX11_findPools 92 = .ok (.iadd, 1) := by decide +kernel
theorem dX11_findPools_93 : decode cX11_findPools 93 = .ok (.istore 4, 2) := by decide +kernel
theorem dX11_findPools_95 : decode cX11_findPools 95 = .ok (.iinc 5 1, 3) := by decide +kernel
theorem dX11_findPools_98 : decode cX11_findPools 98 = .ok (.goto (-77), 3) := by decide +kernel
theorem dX11_findPools_101 : decode cX11_findPools 101 = .ok (.iload_n 3, 1) := by decide +kernel
theorem dX11_findPools_102 : decode cX11_findPools 102 = .ok (.ifCond .le 82, 3) := by decide +kernel
theorem dX11_findPools_105 : decode cX11_findPools 105 = .ok (.aload_n 0, 1) := by decide +kernel
theorem dX11_findPools_106 : decode cX11_findPools 106 = .ok (.getfield 51, 3) := by decide +kernel
theorem dX11_findPools_109 : decode cX11_findPools 109 = .ok (.aload_n 0, 1) := by decide +kernel
theorem dX11_findPools_110 : decode cX11_findPools 110 = .ok (.getfield 230, 3) := by decide +kernel
theorem dX11_findPools_113 : decode cX11_findPools 113 = .ok (.iload_n 2, 1) := by decide +kernel
theorem dX11_findPools_114 : decode cX11_findPools 114 = .ok (.iastore, 1) := by decide +kernel
theorem dX11_findPools_115 : decode cX11_findPools 115 = .ok (.aload_n 0, 1) := by decide +kernel
theorem dX11_findPools_116 : decode cX11_findPools 116 = .ok (.getfield 54, 3) := by decide +kernel
theorem dX11_findPools_119 : decode cX11_findPools 119 = .ok (.aload_n 0, 1) := by decide +kernel
theorem dX11_findPools_120 : decode cX11_findPools 120 = .ok (.getfield 230, 3) := by decide +kernel
theorem dX11_findPools_123 : decode cX11_findPools 123 = .ok (.iload_n 2, 1) := by decide +kernel
theorem dX11_findPools_124 : decode cX11_findPools 124 = .ok (.iastore, 1) := by decide +kernel
theorem dX11_findPools_125 : decode cX11_findPools 125 = .ok (.aload_n 0, 1) := by decide +kernel
theorem dX11_findPools_126 : decode cX11_findPools 126 = .ok (.getfield 57, 3) := by decide +kernel
theorem dX11_findPools_129 : decode cX11_findPools 129 = .ok (.aload_n 0, 1) := by decide +kernel
theorem dX11_findPools_130 : decode cX11_findPools 130 = .ok (.getfield 230, 3) := by decide +kernel
theorem dX11_findPools_133 : decode cX11_findPools 133 = .ok (.iload_n 3, 1) := by decide +kernel
theorem dX11_findPools_134 : decode cX11_findPools 134 = .ok (.iastore, 1) := by decide +kernel
theorem dX11_findPools_135 : decode cX11_findPools 135 = .ok (.aload_n 0, 1) := by decide +kernel
theorem dX11_findPools_136 : decode cX11_findPools 136 = .ok (.getfield 60, 3) := by decide +kernel
theorem dX11_findPools_139 : decode cX11_findPools 139 = .ok (.aload_n 0, 1) := by decide +kernel
theorem dX11_findPools_140 : decode cX11_findPools 140 = .ok (.getfield 230, 3) := by decide +kernel
theorem dX11_findPools_143 : decode cX11_findPools 143 = .ok (.iload 4, 2) := by decide +kernel
theorem dX11_findPools_145 : decode cX11_findPools 145 = .ok (.iastore, 1) := by decide +kernel
theorem dX11_findPools_146 : decode cX11_findPools 146 = .ok (.aload_n 0, 1) := by decide +kernel
theorem dX11_findPools_147 : decode cX11_findPools 147 = .ok (.dup, 1) := by decide +kernel
theorem dX11_findPools_148 : decode cX11_findPools 148 = .ok (.getfield 230, 3) := by decide +kernel
theorem dX11_findPools_151 : decode cX11_findPools 151 = .ok (.iconst 1, 1) := by decide +kernel
theorem dX11_findPools_152 : decode cX11_findPools 152 = .ok (.iadd, 1) := by decide +kernel
theorem dX11_findPools_153 : decode cX11_findPools 153 = .ok (.putfield 230, 3) := by decide +kernel
theorem dX11_findPools_156 : decode cX11_findPools 156 = .ok (.aload_n 0, 1) := by decide +kernel
theorem dX11_findPools_157 : decode cX11_findPools 157 = .ok (.getfield 230, 3) := by decide +kernel
theorem dX11_findPools_160 : decode cX11_findPools 160 = .ok (.iconst 1, 1) := by decide +kernel
theorem dX11_findPools_161 : decode cX11_findPools 161 = .ok (.if_icmp .le 23, 3) := by decide +kernel
theorem dX11_findPools_164 : decode cX11_findPools 164 = .ok (.aload_n 0, 1) := by decide +kernel
theorem dX11_findPools_165 : decode cX11_findPools 165 = .ok (.aload_n 0, 1) := by decide +kernel
theorem dX11_findPools_166 : decode cX11_findPools 166 = .ok (.getfield 230, 3) := by decide +kernel
theorem dX11_findPools_169 : decode cX11_findPools 169 = .ok (.iconst 2, 1) := by decide +kernel
theorem dX11_findPools_170 : decode cX11_findPools 170 = .ok (.isub, 1) := by decide +kernel
theorem dX11_findPools_171 : decode cX11_findPools 171 = .ok (.invokevirtual 233, 3) := by decide +kernel
theorem dX11_findPools_174 : decode cX11_findPools 174 = .ok (.ifCond .eq 10, 3) := by decide +kernel
theorem dX11_findPools_177 : decode cX11_findPools 177 = .ok (.aload_n 0, 1) := by decide +kernel
theorem dX11_findPools_178 : decode cX11_findPools 178 = .ok (.invokevirtual 236, 3) := by decide +kernel
theorem dX11_findPools_181 : decode cX11_findPools 181 = .ok (.goto (-25), 3) := by decide +kernel
theorem dX11_findPools_184 : decode cX11_findPools 184 = .ok (.iinc 2 1, 3) := by decide +kernel
theorem dX11_findPools_187 : decode cX11_findPools 187 = .ok (.goto (-180), 3) := by decide +kernel
theorem dX11_findPools_190 : decode cX11_findPools 190 = .ok (.return_, 1) := by decide +kernel
theorem dX11_pools_0 : decode cX11_pools 0 = .ok (.iload_n 1, 1) := by decide +kernel
theorem dX11_pools_1 : decode cX11_pools 1 = .ok (.invokestatic 81, 3) := by decide +kernel
theorem dX11_pools_4 : decode cX11_pools 4 = .ok (.ifCond .ne 5, 3) := by decide +kernel
theorem dX11_pools_7 : decode cX11_pools 7 = .ok (.iconst (-1), 1) := by decide +kernel
theorem dX11_pools_8 : decode cX11_pools 8 = .ok (.ireturn, 1) := by decide +kernel
theorem dX11_pools_9 : decode cX11_pools 9 = .ok (.aload_n 0, 1) := by decide +kernel
theorem dX11_pools_10 : decode cX11_pools 10 = .ok (.iload_n 1, 1) := by decide +kernel
theorem dX11_pools_11 : decode cX11_pools 11 = .ok (.invokevirtual 239, 3) := by decide +kernel
theorem dX11_pools_14 : decode cX11_pools 14 = .ok (.aload_n 0, 1) := by decide +kernel
theorem dX11_pools_15 : decode cX11_pools 15 = .ok (.getfield 230, 3) := by decide +kernel
theorem dX11_pools_18 : decode cX11_pools 18 = .ok (.ireturn, 1) := by decide +kernel
theorem dX11_pool_0 : decode cX11_pool 0 = .ok (.iload_n 1, 1) := by decide +kernel
theorem dX11_pool_1 : decode cX11_pool 1 = .ok (.invokestatic 81, 3) := by decide +kernel
theorem dX11_pool_4 : decode cX11_pool 4 = .ok (.ifCond .ne 5, 3) := by decide +kernel
theorem dX11_pool_7 : decode cX11_pool 7 = .ok (.iconst (-1), 1) := by decide +kernel
theorem dX11_pool_8 : decode cX11_pool 8 = .ok (.ireturn, 1) := by decide +kernel
theorem dX11_pool_9 : decode cX11_pool 9 = .ok (.aload_n 0, 1) := by decide +kernel
theorem dX11_pool_10 : decode cX11_pool 10 = .ok (.iload_n 1, 1) := by decide +kernel
theorem dX11_pool_11 : decode cX11_pool 11 = .ok (.invokevirtual 239, 3) := by decide +kernel
theorem dX11_pool_14 : decode cX11_pool 14 = .ok (.iload_n 2, 1) := by decide +kernel
theorem dX11_pool_15 : decode cX11_pool 15 = .ok (.iconst 0, 1) := by decide +kernel
theorem dX11_pool_16 : decode cX11_pool 16 = .ok (.aload_n 0, 1) := by decide +kernel
theorem dX11_pool_17 : decode cX11_pool 17 = .ok (.getfield 230, 3) := by decide +kernel
theorem dX11_pool_20 : decode cX11_pool 20 = .ok (.iconst 1, 1) := by decide +kernel
theorem dX11_pool_21 : decode cX11_pool 21 = .ok (.isub, 1) := by decide +kernel
theorem dX11_pool_22 : decode cX11_pool 22 = .ok (.invokestatic 66, 3) := by decide +kernel
theorem dX11_pool_25 : decode cX11_pool 25 = .ok (.ifCond .ne 5, 3) := by decide +kernel
theorem dX11_pool_28 : decode cX11_pool 28 = .ok (.iconst (-1), 1) := by decide +kernel
theorem dX11_pool_29 : decode cX11_pool 29 = .ok (.ireturn, 1) := by decide +kernel
theorem dX11_pool_30 : decode cX11_pool 30 = .ok (.iload_n 3, 1) := by decide +kernel
theorem dX11_pool_31 : decode cX11_pool 31 = .ok (.tableswitch 57 0 3 #[29, 36, 43, 50], 29) := by decide +kernel
theorem dX11_pool_60 : decode cX11_pool 60 = .ok (.aload_n 0, 1) := by decide +kernel
theorem dX11_pool_61 : decode cX11_pool 61 = .ok (.getfield 51, 3) := by decide +kernel
theorem dX11_pool_64 : decode cX11_pool 64 = .ok (.iload_n 2, 1) := by decide +kernel
theorem dX11_pool_65 : decode cX11_pool 65 = .ok (.iaload, 1) := by decide +kernel
theorem dX11_pool_66 : decode cX11_pool 66 = .ok (.ireturn, 1) := by decide +kernel
theorem dX11_pool_67 : decode cX11_pool 67 = .ok (.aload_n 0, 1) := by decide +kernel
theorem dX11_pool_68 : decode cX11_pool 68 = .ok (.getfield 54, 3) := by decide +kernel
theorem dX11_pool_71 : decode cX11_pool 71 = .ok (.iload_n 2, 1) := by decide +kernel
theorem dX11_pool_72 : decode cX11_pool 72 = .ok (.iaload, 1) := by decide +kernel
theorem dX11_pool_73 : decode cX11_pool 73 = .ok (.ireturn, 1) := by decide +kernel
theorem dX11_pool_74 : decode cX11_pool 74 = .ok (.aload_n 0, 1) := by decide +kernel
theorem dX11_pool_75 : decode cX11_pool 75 = .ok (.getfield 57, 3) := by decide +kernel
theorem dX11_pool_78 : decode cX11_pool 78 = .ok (.iload_n 2, 1) := by decide +kernel
theorem dX11_pool_79 : decode cX11_pool 79 = .ok (.iaload, 1) := by decide +kernel
theorem dX11_pool_80 : decode cX11_pool 80 = .ok (.ireturn, 1) := by decide +kernel
theorem dX11_pool_81 : decode cX11_pool 81 = .ok (.aload_n 0, 1) := by decide +kernel
theorem dX11_pool_82 : decode cX11_pool 82 = .ok (.getfield 60, 3) := by decide +kernel
theorem dX11_pool_85 : decode cX11_pool 85 = .ok (.iload_n 2, 1) := by decide +kernel
theorem dX11_pool_86 : decode cX11_pool 86 = .ok (.iaload, 1) := by decide +kernel
theorem dX11_pool_87 : decode cX11_pool 87 = .ok (.ireturn, 1) := by decide +kernel
theorem dX11_pool_88 : decode cX11_pool 88 = .ok (.bipush (-2), 2) := by decide +kernel
theorem dX11_pool_90 : decode cX11_pool 90 = .ok (.ireturn, 1) := by decide +kernel
theorem dX11_flat_0 : decode cX11_flat 0 = .ok (.iload_n 1, 1) := by decide +kernel
theorem dX11_flat_1 : decode cX11_flat 1 = .ok (.invokestatic 81, 3) := by decide +kernel
theorem dX11_flat_4 : decode cX11_flat 4 = .ok (.ifCond .eq 20, 3) := by decide +kernel
theorem dX11_flat_7 : decode cX11_flat 7 = .ok (.iload_n 2, 1) := by decide +kernel
theorem dX11_flat_8 : decode cX11_flat 8 = .ok (.iconst 0, 1) := by decide +kernel
theorem dX11_flat_9 : decode cX11_flat 9 = .ok (.iconst 1, 1) := by decide +kernel
theorem dX11_flat_10 : decode cX11_flat 10 = .ok (.invokestatic 66, 3) := by decide +kernel
theorem dX11_flat_13 : decode cX11_flat 13 = .ok (.ifCond .eq 11, 3) := by decide +kernel
theorem dX11_flat_16 : decode cX11_flat 16 = .ok (.aload_n 0, 1) := by decide +kernel
theorem dX11_flat_17 : decode cX11_flat 17 = .ok (.iload_n 1, 1) := by decide +kernel
theorem dX11_flat_18 : decode cX11_flat 18 = .ok (.invokevirtual 164, 3) := by decide +kernel
theorem dX11_flat_21 : decode cX11_flat 21 = .ok (.ifCond .ne 7, 3) := by decide +kernel
theorem dX11_flat_24 : decode cX11_flat 24 = .ok (.ldc2_w 167, 3) := by decide +kernel
theorem dX11_flat_27 : decode cX11_flat 27 = .ok (.lreturn, 1) := by decide +kernel
theorem dX11_flat_28 : decode cX11_flat 28 = .ok (.aload_n 0, 1) := by decide +kernel
theorem dX11_flat_29 : decode cX11_flat 29 = .ok (.iload_n 1, 1) := by decide +kernel
theorem dX11_flat_30 : decode cX11_flat 30 = .ok (.invokevirtual 239, 3) := by decide +kernel
theorem dX11_flat_33 : decode cX11_flat 33 = .ok (.aload_n 0, 1) := by decide +kernel
theorem dX11_flat_34 : decode cX11_flat 34 = .ok (.iload_n 1, 1) := by decide +kernel
theorem dX11_flat_35 : decode cX11_flat 35 = .ok (.invokevirtual 164, 3) := by decide +kernel
theorem dX11_flat_38 : decode cX11_flat 38 = .ok (.i2l, 1) := by decide +kernel
theorem dX11_flat_39 : decode cX11_flat 39 = .ok (.lstore_n 3, 1) := by decide +kernel
theorem dX11_flat_40 : decode cX11_flat 40 = .ok (.aload_n 0, 1) := by decide +kernel
theorem dX11_flat_41 : decode cX11_flat 41 = .ok (.invokevirtual 223, 3) := by decide +kernel
theorem dX11_flat_44 : decode cX11_flat 44 = .ok (.iconst 0, 1) := by decide +kernel
theorem dX11_flat_45 : decode cX11_flat 45 = .ok (.istore 5, 2) := by decide +kernel
theorem dX11_flat_47 : decode cX11_flat 47 = .ok (.iload 5, 2) := by decide +kernel
theorem dX11_flat_49 : decode cX11_flat 49 = .ok (.aload_n 0, 1) := by decide +kernel
theorem dX11_flat_50 : decode cX11_flat 50 = .ok (.getfield 230, 3) := by decide +kernel
theorem dX11_flat_53 : decode cX11_flat 53 = .ok (.if_icmp .ge 48, 3) := by decide +kernel
theorem dX11_flat_56 : decode cX11_flat 56 = .ok (.aload_n 0, 1) := by decide +kernel
theorem dX11_flat_57 : decode cX11_flat 57 = .ok (.aload_n 0, 1) := by decide +kernel
theorem dX11_flat_58 : decode cX11_flat 58 = .ok (.getfield 60, 3) := by decide +kernel
theorem dX11_flat_61 : decode cX11_flat 61 = .ok (.iload 5, 2) := by decide +kernel
theorem dX11_flat_63 : decode cX11_flat 63 = .ok (.iaload, 1) := by decide +kernel
theorem dX11_flat_64 : decode cX11_flat 64 = .ok (.i2l, 1) := by decide +kernel
theorem dX11_flat_65 : decode cX11_flat 65 = .ok (.aload_n 0, 1) := by decide +kernel
theorem dX11_flat_66 : decode cX11_flat 66 = .ok (.getfield 57, 3) := by decide +kernel
theorem dX11_flat_69 : decode cX11_flat 69 = .ok (.iload 5, 2) := by decide +kernel
theorem dX11_flat_71 : decode cX11_flat 71 = .ok (.iaload, 1) := by decide +kernel
theorem dX11_flat_72 : decode cX11_flat 72 = .ok (.aload_n 0, 1) := by decide +kernel
theorem dX11_flat_73 : decode cX11_flat 73 = .ok (.getfield 60, 3) := by decide +kernel
theorem dX11_flat_76 : decode cX11_flat 76 = .ok (.iload 5, 2) := by decide +kernel
theorem dX11_flat_78 : decode cX11_flat 78 = .ok (.iaload, 1) := by decide +kernel
theorem dX11_flat_79 : decode cX11_flat 79 = .ok (.isub, 1) := by decide +kernel
theorem dX11_flat_80 : decode cX11_flat 80 = .ok (.i2l, 1) := by decide +kernel
theorem dX11_flat_81 : decode cX11_flat 81 = .ok (.lmul, 1) := by decide +kernel
theorem dX11_flat_82 : decode cX11_flat 82 = .ok (.aload_n 0, 1) := by decide +kernel
theorem dX11_flat_83 : decode cX11_flat 83 = .ok (.getfield 57, 3) := by decide +kernel
theorem dX11_flat_86 : decode cX11_flat 86 = .ok (.iload 5, 2) := by decide +kernel
theorem dX11_flat_88 : decode cX11_flat 88 = .ok (.iaload, 1) := by decide +kernel
theorem dX11_flat_89 : decode cX11_flat 89 = .ok (.i2l, 1) := by decide +kernel
theorem dX11_flat_90 : decode cX11_flat 90 = .ok (.lload_n 3, 1) := by decide +kernel
theorem dX11_flat_91 : decode cX11_flat 91 = .ok (.lmul, 1) := by decide +kernel
theorem dX11_flat_92 : decode cX11_flat 92 = .ok (.invokevirtual 213, 3) := by decide +kernel
theorem dX11_flat_95 : decode cX11_flat 95 = .ok (.iinc 5 1, 3) := by decide +kernel
theorem dX11_flat_98 : decode cX11_flat 98 = .ok (.goto (-51), 3) := by decide +kernel
theorem dX11_flat_101 : decode cX11_flat 101 = .ok (.aload_n 0, 1) := by decide +kernel
theorem dX11_flat_102 : decode cX11_flat 102 = .ok (.iload_n 2, 1) := by decide +kernel
theorem dX11_flat_103 : decode cX11_flat 103 = .ok (.invokevirtual 173, 3) := by decide +kernel
theorem dX11_flat_106 : decode cX11_flat 106 = .ok (.lreturn, 1) := by decide +kernel
theorem dX11_compares_0 : decode cX11_compares 0 = .ok (.aload_n 0, 1) := by decide +kernel
theorem dX11_compares_1 : decode cX11_compares 1 = .ok (.iconst 0, 1) := by decide +kernel
theorem dX11_compares_2 : decode cX11_compares 2 = .ok (.putfield 242, 3) := by decide +kernel
theorem dX11_compares_5 : decode cX11_compares 5 = .ok (.aload_n 0, 1) := by decide +kernel
theorem dX11_compares_6 : decode cX11_compares 6 = .ok (.iconst 0, 1) := by decide +kernel
theorem dX11_compares_7 : decode cX11_compares 7 = .ok (.putfield 245, 3) := by decide +kernel
theorem dX11_compares_10 : decode cX11_compares 10 = .ok (.aload_n 0, 1) := by decide +kernel
theorem dX11_compares_11 : decode cX11_compares 11 = .ok (.iconst 0, 1) := by decide +kernel
theorem dX11_compares_12 : decode cX11_compares 12 = .ok (.putfield 248, 3) := by decide +kernel
theorem dX11_compares_15 : decode cX11_compares 15 = .ok (.iconst 0, 1) := by decide +kernel
theorem dX11_compares_16 : decode cX11_compares 16 = .ok (.istore_n 3, 1) := by decide +kernel
theorem dX11_compares_17 : decode cX11_compares 17 = .ok (.iload_n 3, 1) := by decide +kernel
theorem dX11_compares_18 : decode cX11_compares 18 = .ok (.bipush 40, 2) := by decide +kernel
theorem dX11_compares_20 : decode cX11_compares 20 = .ok (.if_icmp .ge 133, 3) := by decide +kernel
theorem dX11_compares_23 : decode cX11_compares 23 = .ok (.aload_n 0, 1) := by decide +kernel
theorem dX11_compares_24 : decode cX11_compares 24 = .ok (.iload_n 1, 1) := by decide +kernel
theorem dX11_compares_25 : decode cX11_compares 25 = .ok (.iload_n 3, 1) := by decide +kernel
theorem dX11_compares_26 : decode cX11_compares 26 = .ok (.invokevirtual 153, 3) := by decide +kernel
theorem dX11_compares_29 : decode cX11_compares 29 = .ok (.ifCond .eq 118, 3) := by decide +kernel
theorem dX11_compares_32 : decode cX11_compares 32 = .ok (.aload_n 0, 1) := by decide +kernel
theorem dX11_compares_33 : decode cX11_compares 33 = .ok (.iload_n 2, 1) := by decide +kernel
theorem dX11_compares_34 : decode cX11_compares 34 = .ok (.iload_n 3, 1) := by decide +kernel
theorem dX11_compares_35 : decode cX11_compares 35 = .ok (.invokevirtual 153, 3) := by decide +kernel
theorem dX11_compares_38 : decode cX11_compares 38 = .ok (.ifCond .eq 109, 3) := by decide +kernel
theorem dX11_compares_41 : decode cX11_compares 41 = .ok (.aload_n 0, 1) := by decide +kernel
theorem dX11_compares_42 : decode cX11_compares 42 = .ok (.aload_n 0, 1) := by decide +kernel
theorem dX11_compares_43 : decode cX11_compares 43 = .ok (.iload_n 1, 1) := by decide +kernel
theorem dX11_compares_44 : decode cX11_compares 44 = .ok (.iload_n 3, 1) := by decide +kernel
theorem dX11_compares_45 : decode cX11_compares 45 = .ok (.invokevirtual 84, 3) := by decide +kernel
theorem dX11_compares_48 : decode cX11_compares 48 = .ok (.aload_n 0, 1) := by decide +kernel
theorem dX11_compares_49 : decode cX11_compares 49 = .ok (.getfield 13, 3) := by decide +kernel
theorem dX11_compares_52 : decode cX11_compares 52 = .ok (.iload_n 3, 1) := by decide +kernel
theorem dX11_compares_53 : decode cX11_compares 53 = .ok (.iaload, 1) := by decide +kernel
theorem dX11_compares_54 : decode cX11_compares 54 = .ok (.iconst 1, 1) := by decide +kernel
theorem dX11_compares_55 : decode cX11_compares 55 = .ok (.if_icmp .ne 7, 3) := by decide +kernel
theorem dX11_compares_58 : decode cX11_compares 58 = .ok (.iconst 1, 1) := by decide +kernel
theorem dX11_compares_59 : decode cX11_compares 59 = .ok (.goto 4, 3) := by decide +kernel
theorem dX11_compares_62 : decode cX11_compares 62 = .ok (.iconst 0, 1) := by decide +kernel
theorem dX11_compares_63 : decode cX11_compares 63 = .ok (.invokevirtual 149, 3) := by decide +kernel
theorem dX11_compares_66 : decode cX11_compares 66 = .ok (.istore 4, 2) := by decide +kernel
theorem dX11_compares_68 : decode cX11_compares 68 = .ok (.aload_n 0, 1) := by decide +kernel
theorem dX11_compares_69 : decode cX11_compares 69 = .ok (.aload_n 0, 1) := by decide +kernel
theorem dX11_compares_70 : decode cX11_compares 70 = .ok (.iload_n 2, 1) := by decide +kernel
theorem dX11_compares_71 : decode cX11_compares 71 = .ok (.iload_n 3, 1) := by decide +kernel
theorem dX11_compares_72 : decode cX11_compares 72 = .ok (.invokevirtual 84, 3) := by decide +kernel
theorem dX11_compares_75 : decode cX11_compares 75 = .ok (.aload_n 0, 1) := by decide +kernel
theorem dX11_compares_76 : decode cX11_compares 76 = .ok (.getfield 13, 3) := by decide +kernel
theorem dX11_compares_79 : decode cX11_compares 79 = .ok (.iload_n 3, 1) := by decide +kernel
theorem dX11_compares_80 : decode cX11_compares 80 = .ok (.iaload, 1) := by decide +kernel
theorem dX11_compares_81 : decode cX11_compares 81 = .ok (.iconst 1, 1) := by decide +kernel
theorem dX11_compares_82 : decode cX11_compares 82 = .ok (.if_icmp .ne 7, 3) := by decide +kernel
theorem dX11_compares_85 : decode cX11_compares 85 = .ok (.iconst 1, 1) := by decide +kernel
theorem dX11_compares_86 : decode cX11_compares 86 = .ok (.goto 4, 3) := by decide +kernel
theorem dX11_compares_89 : decode cX11_compares 89 = .ok (.iconst 0, 1) := by decide +kernel
theorem dX11_compares_90 : decode cX11_compares 90 = .ok (.invokevirtual 149, 3) := by decide +kernel
theorem dX11_compares_93 : decode cX11_compares 93 = .ok (.istore 5, 2) := by decide +kernel
theorem dX11_compares_95 : decode cX11_compares 95 = .ok (.aload_n 0, 1) := by decide +kernel
theorem dX11_compares_96 : decode cX11_compares 96 = .ok (.dup, 1) := by decide +kernel
theorem dX11_compares_97 : decode cX11_compares 97 = .ok (.getfield 242, 3) := by decide +kernel
theorem dX11_compares_100 : decode cX11_compares 100 = .ok (.iconst 1, 1) := by decide +kernel
theorem dX11_compares_101 : decode cX11_compares 101 = .ok (.iadd, 1) := by decide +kernel
theorem dX11_compares_102 : decode cX11_compares 102 = .ok (.putfield 242, 3) := by decide +kernel
theorem dX11_compares_105 : decode cX11_compares 105 = .ok (.aload_n 0, 1) := by decide +kernel
theorem dX11_compares_106 : decode cX11_compares 106 = .ok (.dup, 1) := by decide +kernel
theorem dX11_compares_107 : decode cX11_compares 107 = .ok (.getfield 245, 3) := by decide +kernel
theorem dX11_compares_110 : decode cX11_compares 110 = .ok (.iload 4, 2) := by decide +kernel
theorem dX11_compares_112 : decode cX11_compares 112 = .ok (.iload 5, 2) := by decide +kernel
theorem dX11_compares_114 : decode cX11_compares 114 = .ok (.if_icmp .ge 7, 3) := by decide +kernel
theorem dX11_compares_117 : decode cX11_compares 117 = .ok (.iconst 1, 1) := by decide +kernel
theorem dX11_compares_118 : decode cX11_compares 118 = .ok (.goto 4, 3) := by decide +kernel
theorem dX11_compares_121 : decode cX11_compares 121 = .ok (.iconst 0, 1) := by decide +kernel
theorem dX11_compares_122 : decode cX11_compares 122 = .ok (.iadd, 1) := by decide +kernel
theorem dX11_compares_123 : decode cX11_compares 123 = .ok (.putfield 245, 3) := by decide +kernel
theorem dX11_compares_126 : decode cX11_compares 126 = .ok (.aload_n 0, 1) := by decide +kernel
theorem dX11_compares_127 : decode cX11_compares 127 = .ok (.dup, 1) := by decide +kernel
theorem dX11_compares_128 : decode cX11_compares 128 = .ok (.getfield 248, 3) := by decide +kernel
theorem dX11_compares_131 : decode cX11_compares 131 = .ok (.iload 5, 2) := by decide +kernel
theorem dX11_compares_133 : decode cX11_compares 133 = .ok (.iload 4, 2) := by decide +kernel
theorem dX11_compares_135 : decode cX11_compares 135 = .ok (.if_icmp .ge 7, 3) := by decide +kernel
theorem dX11_compares_138 : decode cX11_compares 138 = .ok (.iconst 1, 1) := by decide +kernel
theorem dX11_compares_139 : decode cX11_compares 139 = .ok (.goto 4, 3) := by decide +kernel
theorem dX11_compares_142 : decode cX11_compares 142 = .ok (.iconst 0, 1) := by decide +kernel
theorem dX11_compares_143 : decode cX11_compares 143 = .ok (.iadd, 1) := by decide +kernel
theorem dX11_compares_144 : decode cX11_compares 144 = .ok (.putfield 248, 3) := by decide +kernel
theorem dX11_compares_147 : decode cX11_compares 147 = .ok (.iinc 3 1, 3) := by decide +kernel
theorem dX11_compares_150 : decode cX11_compares 150 = .ok (.goto (-133), 3) := by decide +kernel
theorem dX11_compares_153 : decode cX11_compares 153 = .ok (.return_, 1) := by decide +kernel
theorem dX11_better_0 : decode cX11_better 0 = .ok (.iload_n 1, 1) := by decide +kernel
theorem dX11_better_1 : decode cX11_better 1 = .ok (.invokestatic 81, 3) := by decide +kernel
theorem dX11_better_4 : decode cX11_better 4 = .ok (.ifCond .eq 10, 3) := by decide +kernel
theorem dX11_better_7 : decode cX11_better 7 = .ok (.iload_n 2, 1) := by decide +kernel
theorem dX11_better_8 : decode cX11_better 8 = .ok (.invokestatic 81, 3) := by decide +kernel
theorem dX11_better_11 : decode cX11_better 11 = .ok (.ifCond .ne 5, 3) := by decide +kernel
theorem dX11_better_14 : decode cX11_better 14 = .ok (.iconst (-1), 1) := by decide +kernel
theorem dX11_better_15 : decode cX11_better 15 = .ok (.ireturn, 1) := by decide +kernel
theorem dX11_better_16 : decode cX11_better 16 = .ok (.aload_n 0, 1) := by decide +kernel
theorem dX11_better_17 : decode cX11_better 17 = .ok (.iload_n 1, 1) := by decide +kernel
theorem dX11_better_18 : decode cX11_better 18 = .ok (.iload_n 2, 1) := by decide +kernel
theorem dX11_better_19 : decode cX11_better 19 = .ok (.invokevirtual 251, 3) := by decide +kernel
theorem dX11_better_22 : decode cX11_better 22 = .ok (.iload_n 3, 1) := by decide +kernel
theorem dX11_better_23 : decode cX11_better 23 = .ok (.tableswitch 59 0 3 #[29, 34, 39, 44], 29) := by decide +kernel
theorem dX11_better_52 : decode cX11_better 52 = .ok (.aload_n 0, 1) := by decide +kernel
theorem dX11_better_53 : decode cX11_better 53 = .ok (.getfield 242, 3) := by decide +kernel
theorem dX11_better_56 : decode cX11_better 56 = .ok (.ireturn, 1) := by decide +kernel
theorem dX11_better_57 : decode cX11_better 57 = .ok (.aload_n 0, 1) := by decide +kernel
theorem dX11_better_58 : decode cX11_better 58 = .ok (.getfield 245, 3) := by decide +kernel
theorem dX11_better_61 : decode cX11_better 61 = .ok (.ireturn, 1) := by decide +kernel
theorem dX11_better_62 : decode cX11_better 62 = .ok (.aload_n 0, 1) := by decide +kernel
theorem dX11_better_63 : decode cX11_better 63 = .ok (.getfield 248, 3) := by decide +kernel
theorem dX11_better_66 : decode cX11_better 66 = .ok (.ireturn, 1) := by decide +kernel
theorem dX11_better_67 : decode cX11_better 67 = .ok (.aload_n 0, 1) := by decide +kernel
theorem dX11_better_68 : decode cX11_better 68 = .ok (.getfield 242, 3) := by decide +kernel
theorem dX11_better_71 : decode cX11_better 71 = .ok (.aload_n 0, 1) := by decide +kernel
theorem dX11_better_72 : decode cX11_better 72 = .ok (.getfield 245, 3) := by decide +kernel
theorem dX11_better_75 : decode cX11_better 75 = .ok (.isub, 1) := by decide +kernel
theorem dX11_better_76 : decode cX11_better 76 = .ok (.aload_n 0, 1) := by decide +kernel
theorem dX11_better_77 : decode cX11_better 77 = .ok (.getfield 248, 3) := by decide +kernel
theorem dX11_better_80 : decode cX11_better 80 = .ok (.isub, 1) := by decide +kernel
theorem dX11_better_81 : decode cX11_better 81 = .ok (.ireturn, 1) := by decide +kernel
theorem dX11_better_82 : decode cX11_better 82 = .ok (.bipush (-2), 2) := by decide +kernel
theorem dX11_better_84 : decode cX11_better 84 = .ok (.ireturn, 1) := by decide +kernel
theorem dX11_choose_0 : decode cX11_choose 0 = .ok (.lconst 1, 1) := by decide +kernel
theorem dX11_choose_1 : decode cX11_choose 1 = .ok (.lstore_n 2, 1) := by decide +kernel
theorem dX11_choose_2 : decode cX11_choose 2 = .ok (.iconst 0, 1) := by decide +kernel
theorem dX11_choose_3 : decode cX11_choose 3 = .ok (.istore 4, 2) := by decide +kernel
theorem dX11_choose_5 : decode cX11_choose 5 = .ok (.iload 4, 2) := by decide +kernel
theorem dX11_choose_7 : decode cX11_choose 7 = .ok (.iload_n 1, 1) := by decide +kernel
theorem dX11_choose_8 : decode cX11_choose 8 = .ok (.if_icmp .ge 23, 3) := by decide +kernel
theorem dX11_choose_11 : decode cX11_choose 11 = .ok (.lload_n 2, 1) := by decide +kernel
theorem dX11_choose_12 : decode cX11_choose 12 = .ok (.iload_n 0, 1) := by decide +kernel
theorem dX11_choose_13 : decode cX11_choose 13 = .ok (.iload 4, 2) := by decide +kernel
theorem dX11_choose_15 : decode cX11_choose 15 = .ok (.isub, 1) := by decide +kernel
theorem dX11_choose_16 : decode cX11_choose 16 = .ok (.i2l, 1) := by decide +kernel
theorem dX11_choose_17 : decode cX11_choose 17 = .ok (.lmul, 1) := by decide +kernel
theorem dX11_choose_18 : decode cX11_choose 18 = .ok (.iload 4, 2) := by decide +kernel
theorem dX11_choose_20 : decode cX11_choose 20 = .ok (.iconst 1, 1) := by decide +kernel
theorem dX11_choose_21 : decode cX11_choose 21 = .ok (.iadd, 1) := by decide +kernel
theorem dX11_choose_22 : decode cX11_choose 22 = .ok (.i2l, 1) := by decide +kernel
theorem dX11_choose_23 : decode cX11_choose 23 = .ok (.ldiv, 1) := by decide +kernel
theorem dX11_choose_24 : decode cX11_choose 24 = .ok (.lstore_n 2, 1) := by decide +kernel
theorem dX11_choose_25 : decode cX11_choose 25 = .ok (.iinc 4 1, 3) := by decide +kernel
theorem dX11_choose_28 : decode cX11_choose 28 = .ok (.goto (-23), 3) := by decide +kernel
theorem dX11_choose_31 : decode cX11_choose 31 = .ok (.lload_n 2, 1) := by decide +kernel
theorem dX11_choose_32 : decode cX11_choose 32 = .ok (.lreturn, 1) := by decide +kernel
theorem dX11_luck_0 : decode cX11_luck 0 = .ok (.iload_n 1, 1) := by decide +kernel
theorem dX11_luck_1 : decode cX11_luck 1 = .ok (.invokestatic 81, 3) := by decide +kernel
theorem dX11_luck_4 : decode cX11_luck 4 = .ok (.ifCond .eq 19, 3) := by decide +kernel
theorem dX11_luck_7 : decode cX11_luck 7 = .ok (.iload_n 2, 1) := by decide +kernel
theorem dX11_luck_8 : decode cX11_luck 8 = .ok (.invokestatic 81, 3) := by decide +kernel
theorem dX11_luck_11 : decode cX11_luck 11 = .ok (.ifCond .eq 12, 3) := by decide +kernel
theorem dX11_luck_14 : decode cX11_luck 14 = .ok (.iload_n 3, 1) := by decide +kernel
theorem dX11_luck_15 : decode cX11_luck 15 = .ok (.iconst 0, 1) := by decide +kernel
theorem dX11_luck_16 : decode cX11_luck 16 = .ok (.iconst 1, 1) := by decide +kernel
theorem dX11_luck_17 : decode cX11_luck 17 = .ok (.invokestatic 66, 3) := by decide +kernel
theorem dX11_luck_20 : decode cX11_luck 20 = .ok (.ifCond .ne 7, 3) := by decide +kernel
theorem dX11_luck_23 : decode cX11_luck 23 = .ok (.ldc2_w 167, 3) := by decide +kernel
theorem dX11_luck_26 : decode cX11_luck 26 = .ok (.lreturn, 1) := by decide +kernel
theorem dX11_luck_27 : decode cX11_luck 27 = .ok (.aload_n 0, 1) := by decide +kernel
theorem dX11_luck_28 : decode cX11_luck 28 = .ok (.iload_n 1, 1) := by decide +kernel
theorem dX11_luck_29 : decode cX11_luck 29 = .ok (.iload_n 2, 1) := by decide +kernel
theorem dX11_luck_30 : decode cX11_luck 30 = .ok (.invokevirtual 251, 3) := by decide +kernel
theorem dX11_luck_33 : decode cX11_luck 33 = .ok (.aload_n 0, 1) := by decide +kernel
theorem dX11_luck_34 : decode cX11_luck 34 = .ok (.getfield 245, 3) := by decide +kernel
theorem dX11_luck_37 : decode cX11_luck 37 = .ok (.aload_n 0, 1) := by decide +kernel
theorem dX11_luck_38 : decode cX11_luck 38 = .ok (.getfield 248, 3) := by decide +kernel
theorem dX11_luck_41 : decode cX11_luck 41 = .ok (.iadd, 1) := by decide +kernel
theorem dX11_luck_42 : decode cX11_luck 42 = .ok (.istore 4, 2) := by decide +kernel
theorem dX11_luck_44 : decode cX11_luck 44 = .ok (.lconst 0, 1) := by decide +kernel
theorem dX11_luck_45 : decode cX11_luck 45 = .ok (.lstore 5, 2) := by decide +kernel
theorem dX11_luck_47 : decode cX11_luck 47 = .ok (.aload_n 0, 1) := by decide +kernel
theorem dX11_luck_48 : decode cX11_luck 48 = .ok (.getfield 245, 3) := by decide +kernel
theorem dX11_luck_51 : decode cX11_luck 51 = .ok (.aload_n 0, 1) := by decide +kernel
theorem dX11_luck_52 : decode cX11_luck 52 = .ok (.getfield 248, 3) := by decide +kernel
theorem dX11_luck_55 : decode cX11_luck 55 = .ok (.if_icmp .le 10, 3) := by decide +kernel
theorem dX11_luck_58 : decode cX11_luck 58 = .ok (.aload_n 0, 1) := by decide +kernel
theorem dX11_luck_59 : decode cX11_luck 59 = .ok (.getfield 245, 3) := by decide +kernel
theorem dX11_luck_62 : decode cX11_luck 62 = .ok (.goto 7, 3) := by decide +kernel
theorem dX11_luck_65 : decode cX11_luck 65 = .ok (.aload_n 0, 1) := by decide +kernel
theorem dX11_luck_66 : decode cX11_luck 66 = .ok (.getfield 248, 3) := by decide +kernel
theorem dX11_luck_69 : decode cX11_luck 69 = .ok (.istore 7, 2) := by decide +kernel
theorem dX11_luck_71 : decode cX11_luck 71 = .ok (.iload 7, 2) := by decide +kernel
theorem dX11_luck_73 : decode cX11_luck 73 = .ok (.iload 4, 2) := by decide +kernel
theorem dX11_luck_75 : decode cX11_luck 75 = .ok (.if_icmp .gt 21, 3) := by decide +kernel
theorem dX11_luck_78 : decode cX11_luck 78 = .ok (.lload 5, 2) := by decide +kernel
theorem dX11_luck_80 : decode cX11_luck 80 = .ok (.iload 4, 2) := by decide +kernel
theorem dX11_luck_82 : decode cX11_luck 82 = .ok (.iload 7, 2) := by decide +kernel
theorem dX11_luck_84 : decode cX11_luck 84 = .ok (.invokestatic 254, 3) := by decide +kernel
theorem dX11_luck_87 : decode cX11_luck 87 = .ok (.ladd, 1) := by decide +kernel
theorem dX11_luck_88 : decode cX11_luck 88 = .ok (.lstore 5, 2) := by decide +kernel
theorem dX11_luck_90 : decode cX11_luck 90 = .ok (.iinc 7 1, 3) := by decide +kernel
theorem dX11_luck_93 : decode cX11_luck 93 = .ok (.goto (-22), 3) := by decide +kernel
theorem dX11_luck_96 : decode cX11_luck 96 = .ok (.aload_n 0, 1) := by decide +kernel
theorem dX11_luck_97 : decode cX11_luck 97 = .ok (.lload 5, 2) := by decide +kernel
theorem dX11_luck_99 : decode cX11_luck 99 = .ok (.lconst 1, 1) := by decide +kernel
theorem dX11_luck_100 : decode cX11_luck 100 = .ok (.iload 4, 2) := by decide +kernel
theorem dX11_luck_102 : decode cX11_luck 102 = .ok (.lshl, 1) := by decide +kernel
theorem dX11_luck_103 : decode cX11_luck 103 = .ok (.invokevirtual 160, 3) := by decide +kernel
theorem dX11_luck_106 : decode cX11_luck 106 = .ok (.aload_n 0, 1) := by decide +kernel
theorem dX11_luck_107 : decode cX11_luck 107 = .ok (.iload_n 3, 1) := by decide +kernel
theorem dX11_luck_108 : decode cX11_luck 108 = .ok (.invokevirtual 173, 3) := by decide +kernel
theorem dX11_luck_111 : decode cX11_luck 111 = .ok (.lreturn, 1) := by decide +kernel
theorem dX11_writes_0 : decode cX11_writes 0 = .ok (.aload_n 0, 1) := by decide +kernel
theorem dX11_writes_1 : decode cX11_writes 1 = .ok (.getfield 63, 3) := by decide +kernel
theorem dX11_writes_4 : decode cX11_writes 4 = .ok (.aload_n 0, 1) := by decide +kernel
theorem dX11_writes_5 : decode cX11_writes 5 = .ok (.getfield 257, 3) := by decide +kernel
theorem dX11_writes_8 : decode cX11_writes 8 = .ok (.iload_n 1, 1) := by decide +kernel
theorem dX11_writes_9 : decode cX11_writes 9 = .ok (.iastore, 1) := by decide +kernel
theorem dX11_writes_10 : decode cX11_writes 10 = .ok (.aload_n 0, 1) := by decide +kernel
theorem dX11_writes_11 : decode cX11_writes 11 = .ok (.dup, 1) := by decide +kernel
theorem dX11_writes_12 : decode cX11_writes 12 = .ok (.getfield 257, 3) := by decide +kernel
theorem dX11_writes_15 : decode cX11_writes 15 = .ok (.iconst 1, 1) := by decide +kernel
theorem dX11_writes_16 : decode cX11_writes 16 = .ok (.iadd, 1) := by decide +kernel
theorem dX11_writes_17 : decode cX11_writes 17 = .ok (.putfield 257, 3) := by decide +kernel
theorem dX11_writes_20 : decode cX11_writes 20 = .ok (.return_, 1) := by decide +kernel
theorem dX11_writesNumber_0 : decode cX11_writesNumber 0 = .ok (.lconst 1, 1) := by decide +kernel
theorem dX11_writesNumber_1 : decode cX11_writesNumber 1 = .ok (.lstore_n 3, 1) := by decide +kernel
theorem dX11_writesNumber_2 : decode cX11_writesNumber 2 = .ok (.lload_n 1, 1) := by decide +kernel
theorem dX11_writesNumber_3 : decode cX11_writesNumber 3 = .ok (.lload_n 3, 1) := by decide +kernel
theorem dX11_writesNumber_4 : decode cX11_writesNumber 4 = .ok (.ldiv, 1) := by decide +kernel
theorem dX11_writesNumber_5 : decode cX11_writesNumber 5 = .ok (.ldc2_w 260, 3) := by decide +kernel
theorem dX11_writesNumber_8 : decode cX11_writesNumber 8 = .ok (.lcmp, 1) := by decide +kernel
theorem dX11_writesNumber_9 : decode cX11_writesNumber 9 = .ok (.ifCond .le 12, 3) := by decide +kernel
theorem dX11_writesNumber_12 : decode cX11_writesNumber 12 = .ok (.lload_n 3, 1) := by decide +kernel
theorem dX11_writesNumber_13 : decode cX11_writesNumber 13 = .ok (.ldc2_w 262, 3) := by decide +kernel
theorem dX11_writesNumber_16 : decode cX11_writesNumber 16 = .ok (.lmul, 1) := by decide +kernel
theorem dX11_writesNumber_17 : decode cX11_writesNumber 17 = .ok (.lstore_n 3, 1) := by decide +kernel
theorem dX11_writesNumber_18 : decode cX11_writesNumber 18 = .ok (.goto (-16), 3) := by decide +kernel
theorem dX11_writesNumber_21 : decode cX11_writesNumber 21 = .ok (.lload_n 3, 1) := by decide +kernel
theorem dX11_writesNumber_22 : decode cX11_writesNumber 22 = .ok (.lconst 0, 1) := by decide +kernel
theorem dX11_writesNumber_23 : decode cX11_writesNumber 23 = .ok (.lcmp, 1) := by decide +kernel
theorem dX11_writesNumber_24 : decode cX11_writesNumber 24 = .ok (.ifCond .le 27, 3) := by decide +kernel
theorem dX11_writesNumber_27 : decode cX11_writesNumber 27 = .ok (.aload_n 0, 1) := by decide +kernel
theorem dX11_writesNumber_28 : decode cX11_writesNumber 28 = .ok (.bipush 48, 2) := by decide +kernel
theorem dX11_writesNumber_30 : decode cX11_writesNumber 30 = .ok (.lload_n 1, 1) := by decide +kernel
theorem dX11_writesNumber_31 : decode cX11_writesNumber 31 = .ok (.lload_n 3, 1) := by decide +kernel
theorem dX11_writesNumber_32 : decode cX11_writesNumber 32 = .ok (.ldiv, 1) := by decide +kernel
theorem dX11_writesNumber_33 : decode cX11_writesNumber 33 = .ok (.ldc2_w 262, 3) := by decide +kernel
theorem dX11_writesNumber_36 : decode cX11_writesNumber 36 = .ok (.lrem, 1) := by decide +kernel
theorem dX11_writesNumber_37 : decode cX11_writesNumber 37 = .ok (.l2i, 1) := by decide +kernel
theorem dX11_writesNumber_38 : decode cX11_writesNumber 38 = .ok (.iadd, 1) := by decide +kernel
theorem dX11_writesNumber_39 : decode cX11_writesNumber 39 = .ok (.invokevirtual 264, 3) := by decide +kernel
theorem dX11_writesNumber_42 : decode cX11_writesNumber 42 = .ok (.lload_n 3, 1) := by decide +kernel
theorem dX11_writesNumber_43 : decode cX11_writesNumber 43 = .ok (.ldc2_w 262, 3) := by decide +kernel
theorem dX11_writesNumber_46 : decode cX11_writesNumber 46 = .ok (.ldiv, 1) := by decide +kernel
theorem dX11_writesNumber_47 : decode cX11_writesNumber 47 = .ok (.lstore_n 3, 1) := by decide +kernel
theorem dX11_writesNumber_48 : decode cX11_writesNumber 48 = .ok (.goto (-27), 3) := by decide +kernel
theorem dX11_writesNumber_51 : decode cX11_writesNumber 51 = .ok (.return_, 1) := by decide +kernel
theorem dX11_writesReport_0 : decode cX11_writesReport 0 = .ok (.aload_n 0, 1) := by decide +kernel
theorem dX11_writesReport_1 : decode cX11_writesReport 1 = .ok (.iconst 0, 1) := by decide +kernel
theorem dX11_writesReport_2 : decode cX11_writesReport 2 = .ok (.putfield 257, 3) := by decide +kernel
theorem dX11_writesReport_5 : decode cX11_writesReport 5 = .ok (.aload_n 0, 1) := by decide +kernel
theorem dX11_writesReport_6 : decode cX11_writesReport 6 = .ok (.bipush 84, 2) := by decide +kernel
theorem dX11_writesReport_8 : decode cX11_writesReport 8 = .ok (.invokevirtual 264, 3) := by decide +kernel
theorem dX11_writesReport_11 : decode cX11_writesReport 11 = .ok (.aload_n 0, 1) := by decide +kernel
theorem dX11_writesReport_12 : decode cX11_writesReport 12 = .ok (.bipush 48, 2) := by decide +kernel
theorem dX11_writesReport_14 : decode cX11_writesReport 14 = .ok (.iload_n 1, 1) := by decide +kernel
theorem dX11_writesReport_15 : decode cX11_writesReport 15 = .ok (.iadd, 1) := by decide +kernel
theorem dX11_writesReport_16 : decode cX11_writesReport 16 = .ok (.invokevirtual 264, 3) := by decide +kernel
theorem dX11_writesReport_19 : decode cX11_writesReport 19 = .ok (.aload_n 0, 1) := by decide +kernel
theorem dX11_writesReport_20 : decode cX11_writesReport 20 = .ok (.bipush 32, 2) := by decide +kernel
theorem dX11_writesReport_22 : decode cX11_writesReport 22 = .ok (.invokevirtual 264, 3) := by decide +kernel
theorem dX11_writesReport_25 : decode cX11_writesReport 25 = .ok (.iconst 0, 1) := by decide +kernel
theorem dX11_writesReport_26 : decode cX11_writesReport 26 = .ok (.istore_n 2, 1) := by decide +kernel
theorem dX11_writesReport_27 : decode cX11_writesReport 27 = .ok (.iload_n 2, 1) := by decide +kernel
theorem dX11_writesReport_28 : decode cX11_writesReport 28 = .ok (.aload_n 0, 1) := by decide +kernel
theorem dX11_writesReport_29 : decode cX11_writesReport 29 = .ok (.bipush 6, 2) := by decide +kernel
theorem dX11_writesReport_31 : decode cX11_writesReport 31 = .ok (.aload_n 0, 1) := by decide +kernel
theorem dX11_writesReport_32 : decode cX11_writesReport 32 = .ok (.getfield 146, 3) := by decide +kernel
theorem dX11_writesReport_35 : decode cX11_writesReport 35 = .ok (.iadd, 1) := by decide +kernel
theorem dX11_writesReport_36 : decode cX11_writesReport 36 = .ok (.invokevirtual 97, 3) := by decide +kernel
theorem dX11_writesReport_39 : decode cX11_writesReport 39 = .ok (.if_icmp .ge 30, 3) := by decide +kernel
theorem dX11_writesReport_42 : decode cX11_writesReport 42 = .ok (.aload_n 0, 1) := by decide +kernel
theorem dX11_writesReport_43 : decode cX11_writesReport 43 = .ok (.aload_n 0, 1) := by decide +kernel
theorem dX11_writesReport_44 : decode cX11_writesReport 44 = .ok (.getfield 22, 3) := by decide +kernel
theorem dX11_writesReport_47 : decode cX11_writesReport 47 = .ok (.bipush 6, 2) := by decide +kernel
theorem dX11_writesReport_49 : decode cX11_writesReport 49 = .ok (.bipush 6, 2) := by decide +kernel
theorem dX11_writesReport_51 : decode cX11_writesReport 51 = .ok (.aload_n 0, 1) := by decide +kernel
theorem dX11_writesReport_52 : decode cX11_writesReport 52 = .ok (.getfield 146, 3) := by decide +kernel
theorem dX11_writesReport_55 : decode cX11_writesReport 55 = .ok (.iadd, 1) := by decide +kernel
theorem dX11_writesReport_56 : decode cX11_writesReport 56 = .ok (.imul, 1) := by decide +kernel
theorem dX11_writesReport_57 : decode cX11_writesReport 57 = .ok (.iload_n 2, 1) := by decide +kernel
theorem dX11_writesReport_58 : decode cX11_writesReport 58 = .ok (.iadd, 1) := by decide +kernel
theorem dX11_writesReport_59 : decode cX11_writesReport 59 = .ok (.iaload, 1) := by decide +kernel
theorem dX11_writesReport_60 : decode cX11_writesReport 60 = .ok (.invokevirtual 264, 3) := by decide +kernel
theorem dX11_writesReport_63 : decode cX11_writesReport 63 = .ok (.iinc 2 1, 3) := by decide +kernel
theorem dX11_writesReport_66 : decode cX11_writesReport 66 = .ok (.goto (-39), 3) := by decide +kernel
theorem dX11_writesReport_69 : decode cX11_writesReport 69 = .ok (.aload_n 0, 1) := by decide +kernel
theorem dX11_writesReport_70 : decode cX11_writesReport 70 = .ok (.bipush 32, 2) := by decide +kernel
theorem dX11_writesReport_72 : decode cX11_writesReport 72 = .ok (.invokevirtual 264, 3) := by decide +kernel
theorem dX11_writesReport_75 : decode cX11_writesReport 75 = .ok (.aload_n 0, 1) := by decide +kernel
theorem dX11_writesReport_76 : decode cX11_writesReport 76 = .ok (.iload_n 1, 1) := by decide +kernel
theorem dX11_writesReport_77 : decode cX11_writesReport 77 = .ok (.invokevirtual 164, 3) := by decide +kernel
theorem dX11_writesReport_80 : decode cX11_writesReport 80 = .ok (.ifCond .ne 12, 3) := by decide +kernel
theorem dX11_writesReport_83 : decode cX11_writesReport 83 = .ok (.aload_n 0, 1) := by decide +kernel
theorem dX11_writesReport_84 : decode cX11_writesReport 84 = .ok (.bipush 45, 2) := by decide +kernel
theorem dX11_writesReport_86 : decode cX11_writesReport 86 = .ok (.invokevirtual 264, 3) := by decide +kernel
theorem dX11_writesReport_89 : decode cX11_writesReport 89 = .ok (.goto 40, 3) := by decide +kernel
theorem dX11_writesReport_92 : decode cX11_writesReport 92 = .ok (.aload_n 0, 1) := by decide +kernel
theorem dX11_writesReport_93 : decode cX11_writesReport 93 = .ok (.aload_n 0, 1) := by decide +kernel
theorem dX11_writesReport_94 : decode cX11_writesReport 94 = .ok (.iload_n 1, 1) := by decide +kernel
theorem dX11_writesReport_95 : decode cX11_writesReport 95 = .ok (.invokevirtual 169, 3) := by decide +kernel
theorem dX11_writesReport_98 : decode cX11_writesReport 98 = .ok (.aload_n 0, 1) := by decide +kernel
theorem dX11_writesReport_99 : decode cX11_writesReport 99 = .ok (.iload_n 1, 1) := by decide +kernel
theorem dX11_writesReport_100 : decode cX11_writesReport 100 = .ok (.invokevirtual 164, 3) := by decide +kernel
theorem dX11_writesReport_103 : decode cX11_writesReport 103 = .ok (.i2l, 1) := by decide +kernel
theorem dX11_writesReport_104 : decode cX11_writesReport 104 = .ok (.invokevirtual 160, 3) := by decide +kernel
theorem dX11_writesReport_107 : decode cX11_writesReport 107 = .ok (.aload_n 0, 1) := by decide +kernel
theorem dX11_writesReport_108 : decode cX11_writesReport 108 = .ok (.aload_n 0, 1) := by decide +kernel
theorem dX11_writesReport_109 : decode cX11_writesReport 109 = .ok (.getfield 157, 3) := by decide +kernel
theorem dX11_writesReport_112 : decode cX11_writesReport 112 = .ok (.invokevirtual 267, 3) := by decide +kernel
theorem dX11_writesReport_115 : decode cX11_writesReport 115 = .ok (.aload_n 0, 1) := by decide +kernel
theorem dX11_writesReport_116 : decode cX11_writesReport 116 = .ok (.bipush 47, 2) := by decide +kernel
theorem dX11_writesReport_118 : decode cX11_writesReport 118 = .ok (.invokevirtual 264, 3) := by decide +kernel
theorem dX11_writesReport_121 : decode cX11_writesReport 121 = .ok (.aload_n 0, 1) := by decide +kernel
theorem dX11_writesReport_122 : decode cX11_writesReport 122 = .ok (.aload_n 0, 1) := by decide +kernel
theorem dX11_writesReport_123 : decode cX11_writesReport 123 = .ok (.getfield 28, 3) := by decide +kernel
theorem dX11_writesReport_126 : decode cX11_writesReport 126 = .ok (.invokevirtual 267, 3) := by decide +kernel
theorem dX11_writesReport_129 : decode cX11_writesReport 129 = .ok (.aload_n 0, 1) := by decide +kernel
theorem dX11_writesReport_130 : decode cX11_writesReport 130 = .ok (.bipush 32, 2) := by decide +kernel
theorem dX11_writesReport_132 : decode cX11_writesReport 132 = .ok (.invokevirtual 264, 3) := by decide +kernel
theorem dX11_writesReport_135 : decode cX11_writesReport 135 = .ok (.iconst 0, 1) := by decide +kernel
theorem dX11_writesReport_136 : decode cX11_writesReport 136 = .ok (.istore_n 2, 1) := by decide +kernel
theorem dX11_writesReport_137 : decode cX11_writesReport 137 = .ok (.iload_n 2, 1) := by decide +kernel
theorem dX11_writesReport_138 : decode cX11_writesReport 138 = .ok (.bipush 40, 2) := by decide +kernel
theorem dX11_writesReport_140 : decode cX11_writesReport 140 = .ok (.if_icmp .ge 91, 3) := by decide +kernel
theorem dX11_writesReport_143 : decode cX11_writesReport 143 = .ok (.aload_n 0, 1) := by decide +kernel
theorem dX11_writesReport_144 : decode cX11_writesReport 144 = .ok (.iload_n 1, 1) := by decide +kernel
theorem dX11_writesReport_145 : decode cX11_writesReport 145 = .ok (.iload_n 2, 1) := by decide +kernel
theorem dX11_writesReport_146 : decode cX11_writesReport 146 = .ok (.invokevirtual 153, 3) := by decide +kernel
theorem dX11_writesReport_149 : decode cX11_writesReport 149 = .ok (.ifCond .eq 76, 3) := by decide +kernel
theorem dX11_writesReport_152 : decode cX11_writesReport 152 = .ok (.aload_n 0, 1) := by decide +kernel
theorem dX11_writesReport_153 : decode cX11_writesReport 153 = .ok (.iload_n 1, 1) := by decide +kernel
theorem dX11_writesReport_154 : decode cX11_writesReport 154 = .ok (.iload_n 2, 1) := by decide +kernel
theorem dX11_writesReport_155 : decode cX11_writesReport 155 = .ok (.invokevirtual 84, 3) := by decide +kernel
theorem dX11_writesReport_158 : decode cX11_writesReport 158 = .ok (.istore_n 3, 1) := by decide +kernel
theorem dX11_writesReport_159 : decode cX11_writesReport 159 = .ok (.iload_n 3, 1) := by decide +kernel
theorem dX11_writesReport_160 : decode cX11_writesReport 160 = .ok (.bipush 50, 2) := by decide +kernel
theorem dX11_writesReport_162 : decode cX11_writesReport 162 = .ok (.if_icmp .le 13, 3) := by decide +kernel
theorem dX11_writesReport_165 : decode cX11_writesReport 165 = .ok (.aload_n 0, 1) := by decide +kernel
theorem dX11_writesReport_166 : decode cX11_writesReport 166 = .ok (.getfield 13, 3) := by decide +kernel
theorem dX11_writesReport_169 : decode cX11_writesReport 169 = .ok (.iload_n 2, 1) := by decide +kernel
theorem dX11_writesReport_170 : decode cX11_writesReport 170 = .ok (.iaload, 1) := by decide +kernel
theorem dX11_writesReport_171 : decode cX11_writesReport 171 = .ok (.iconst 1, 1) := by decide +kernel
theorem dX11_writesReport_172 : decode cX11_writesReport 172 = .ok (.if_icmp .eq 19, 3) := by decide +kernel
theorem dX11_writesReport_175 : decode cX11_writesReport 175 = .ok (.iload_n 3, 1) := by decide +kernel
theorem dX11_writesReport_176 : decode cX11_writesReport 176 = .ok (.bipush 50, 2) := by decide +kernel
theorem dX11_writesReport_178 : decode cX11_writesReport 178 = .ok (.if_icmp .ge 17, 3) := by decide +kernel
theorem dX11_writesReport_181 : decode cX11_writesReport 181 = .ok (.aload_n 0, 1) := by decide +kernel
theorem dX11_writesReport_182 : decode cX11_writesReport 182 = .ok (.getfield 13, 3) := by decide +kernel
theorem dX11_writesReport_185 : decode cX11_writesReport 185 = .ok (.iload_n 2, 1) := by decide +kernel
theorem dX11_writesReport_186 : decode cX11_writesReport 186 = .ok (.iaload, 1) := by decide +kernel
theorem dX11_writesReport_187 : decode cX11_writesReport 187 = .ok (.iconst 2, 1) := by decide +kernel
theorem dX11_writesReport_188 : decode cX11_writesReport 188 = .ok (.if_icmp .ne 7, 3) := by decide +kernel
theorem dX11_writesReport_191 : decode cX11_writesReport 191 = .ok (.iconst 1, 1) := by decide +kernel
theorem dX11_writesReport_192 : decode cX11_writesReport 192 = .ok (.goto 4, 3) := by decide +kernel
theorem dX11_writesReport_195 : decode cX11_writesReport 195 = .ok (.iconst 0, 1) := by decide +kernel
theorem dX11_writesReport_196 : decode cX11_writesReport 196 = .ok (.istore 4, 2) := by decide +kernel
theorem dX11_writesReport_198 : decode cX11_writesReport 198 = .ok (.aload_n 0, 1) := by decide +kernel
theorem dX11_writesReport_199 : decode cX11_writesReport 199 = .ok (.iload_n 3, 1) := by decide +kernel
theorem dX11_writesReport_200 : decode cX11_writesReport 200 = .ok (.bipush 50, 2) := by decide +kernel
theorem dX11_writesReport_202 : decode cX11_writesReport 202 = .ok (.if_icmp .ne 8, 3) := by decide +kernel
theorem dX11_writesReport_205 : decode cX11_writesReport 205 = .ok (.bipush 61, 2) := by decide +kernel
theorem dX11_writesReport_207 : decode cX11_writesReport 207 = .ok (.goto 15, 3) := by decide +kernel
theorem dX11_writesReport_210 : decode cX11_writesReport 210 = .ok (.iload 4, 2) := by decide +kernel
theorem dX11_writesReport_212 : decode cX11_writesReport 212 = .ok (.ifCond .eq 8, 3) := by decide +kernel
theorem dX11_writesReport_215 : decode cX11_writesReport 215 = .ok (.bipush 43, 2) := by decide +kernel
theorem dX11_writesReport_217 : decode cX11_writesReport 217 = .ok (.goto 5, 3) := by decide +kernel
theorem dX11_writesReport_220 : decode cX11_writesReport 220 = .ok (.bipush 45, 2) := by decide +kernel
theorem dX11_writesReport_222 : decode cX11_writesReport 222 = .ok (.invokevirtual 264, 3) := by decide +kernel
theorem dX11_writesReport_225 : decode cX11_writesReport 225 = .ok (.iinc 2 1, 3) := by decide +kernel
theorem dX11_writesReport_228 : decode cX11_writesReport 228 = .ok (.goto (-91), 3) := by decide +kernel
theorem dX11_writesReport_231 : decode cX11_writesReport 231 = .ok (.return_, 1) := by decide +kernel
theorem dX11_report_0 : decode cX11_report 0 = .ok (.iload_n 1, 1) := by decide +kernel
theorem dX11_report_1 : decode cX11_report 1 = .ok (.invokestatic 81, 3) := by decide +kernel
theorem dX11_report_4 : decode cX11_report 4 = .ok (.ifCond .ne 5, 3) := by decide +kernel
theorem dX11_report_7 : decode cX11_report 7 = .ok (.iconst (-1), 1) := by decide +kernel
theorem dX11_report_8 : decode cX11_report 8 = .ok (.ireturn, 1) := by decide +kernel
theorem dX11_report_9 : decode cX11_report 9 = .ok (.iload_n 2, 1) := by decide +kernel
theorem dX11_report_10 : decode cX11_report 10 = .ok (.iconst (-1), 1) := by decide +kernel
theorem dX11_report_11 : decode cX11_report 11 = .ok (.bipush 99, 2) := by decide +kernel
theorem dX11_report_13 : decode cX11_report 13 = .ok (.invokestatic 66, 3) := by decide +kernel
theorem dX11_report_16 : decode cX11_report 16 = .ok (.ifCond .ne 6, 3) := by decide +kernel
theorem dX11_report_19 : decode cX11_report 19 = .ok (.bipush (-2), 2) := by decide +kernel
theorem dX11_report_21 : decode cX11_report 21 = .ok (.ireturn, 1) := by decide +kernel
theorem dX11_report_22 : decode cX11_report 22 = .ok (.aload_n 0, 1) := by decide +kernel
theorem dX11_report_23 : decode cX11_report 23 = .ok (.iload_n 1, 1) := by decide +kernel
theorem dX11_report_24 : decode cX11_report 24 = .ok (.invokevirtual 271, 3) := by decide +kernel
theorem dX11_report_27 : decode cX11_report 27 = .ok (.iload_n 2, 1) := by decide +kernel
theorem dX11_report_28 : decode cX11_report 28 = .ok (.ifCond .ge 10, 3) := by decide +kernel
theorem dX11_report_31 : decode cX11_report 31 = .ok (.aload_n 0, 1) := by decide +kernel
theorem dX11_report_32 : decode cX11_report 32 = .ok (.getfield 257, 3) := by decide +kernel
theorem dX11_report_35 : decode cX11_report 35 = .ok (.goto 22, 3) := by decide +kernel
theorem dX11_report_38 : decode cX11_report 38 = .ok (.iload_n 2, 1) := by decide +kernel
theorem dX11_report_39 : decode cX11_report 39 = .ok (.aload_n 0, 1) := by decide +kernel
theorem dX11_report_40 : decode cX11_report 40 = .ok (.getfield 257, 3) := by decide +kernel
theorem dX11_report_43 : decode cX11_report 43 = .ok (.if_icmp .ge 12, 3) := by decide +kernel
theorem dX11_report_46 : decode cX11_report 46 = .ok (.aload_n 0, 1) := by decide +kernel
theorem dX11_report_47 : decode cX11_report 47 = .ok (.getfield 63, 3) := by decide +kernel
theorem dX11_report_50 : decode cX11_report 50 = .ok (.iload_n 2, 1) := by decide +kernel
theorem dX11_report_51 : decode cX11_report 51 = .ok (.iaload, 1) := by decide +kernel
theorem dX11_report_52 : decode cX11_report 52 = .ok (.goto 5, 3) := by decide +kernel
theorem dX11_report_55 : decode cX11_report 55 = .ok (.bipush (-9), 2) := by decide +kernel
theorem dX11_report_57 : decode cX11_report 57 = .ok (.ireturn, 1) := by decide +kernel
theorem dX11_many_0 : decode cX11_many 0 = .ok (.iconst 0, 1) := by decide +kernel
theorem dX11_many_1 : decode cX11_many 1 = .ok (.istore_n 2, 1) := by decide +kernel
theorem dX11_many_2 : decode cX11_many 2 = .ok (.iconst 0, 1) := by decide +kernel
theorem dX11_many_3 : decode cX11_many 3 = .ok (.istore_n 3, 1) := by decide +kernel
theorem dX11_many_4 : decode cX11_many 4 = .ok (.iconst 0, 1) := by decide +kernel
theorem dX11_many_5 : decode cX11_many 5 = .ok (.istore 4, 2) := by decide +kernel
theorem dX11_many_7 : decode cX11_many 7 = .ok (.iconst 0, 1) := by decide +kernel
theorem dX11_many_8 : decode cX11_many 8 = .ok (.istore 5, 2) := by decide +kernel
theorem dX11_many_10 : decode cX11_many 10 = .ok (.iconst 0, 1) := by decide +kernel
theorem dX11_many_11 : decode cX11_many 11 = .ok (.istore 6, 2) := by decide +kernel
theorem dX11_many_13 : decode cX11_many 13 = .ok (.iload 6, 2) := by decide +kernel
theorem dX11_many_15 : decode cX11_many 15 = .ok (.bipush 40, 2) := by decide +kernel
theorem dX11_many_17 : decode cX11_many 17 = .ok (.if_icmp .ge 47, 3) := by decide +kernel
theorem dX11_many_20 : decode cX11_many 20 = .ok (.iload_n 2, 1) := by decide +kernel
theorem dX11_many_21 : decode cX11_many 21 = .ok (.aload_n 0, 1) := by decide +kernel
theorem dX11_many_22 : decode cX11_many 22 = .ok (.getfield 13, 3) := by decide +kernel
theorem dX11_many_25 : decode cX11_many 25 = .ok (.iload 6, 2) := by decide +kernel
theorem dX11_many_27 : decode cX11_many 27 = .ok (.iaload, 1) := by decide +kernel
theorem dX11_many_28 : decode cX11_many 28 = .ok (.iconst 1, 1) := by decide +kernel
theorem dX11_many_29 : decode cX11_many 29 = .ok (.if_icmp .ne 7, 3) := by decide +kernel
theorem dX11_many_32 : decode cX11_many 32 = .ok (.iconst 1, 1) := by decide +kernel
theorem dX11_many_33 : decode cX11_many 33 = .ok (.goto 4, 3) := by decide +kernel
theorem dX11_many_36 : decode cX11_many 36 = .ok (.iconst 0, 1) := by decide +kernel
theorem dX11_many_37 : decode cX11_many 37 = .ok (.iadd, 1) := by decide +kernel
theorem dX11_many_38 : decode cX11_many 38 = .ok (.istore_n 2, 1) := by decide +kernel
theorem dX11_many_39 : decode cX11_many 39 = .ok (.iload_n 3, 1) := by decide +kernel
theorem dX11_many_40 : decode cX11_many 40 = .ok (.aload_n 0, 1) := by decide +kernel
theorem dX11_many_41 : decode cX11_many 41 = .ok (.getfield 13, 3) := by decide +kernel
theorem dX11_many_44 : decode cX11_many 44 = .ok (.iload 6, 2) := by decide +kernel
theorem dX11_many_46 : decode cX11_many 46 = .ok (.iaload, 1) := by decide +kernel
theorem dX11_many_47 : decode cX11_many 47 = .ok (.iconst 2, 1) := by decide +kernel
theorem dX11_many_48 : decode cX11_many 48 = .ok (.if_icmp .ne 7, 3) := by decide +kernel
theorem dX11_many_51 : decode cX11_many 51 = .ok (.iconst 1, 1) := by decide +kernel
theorem dX11_many_52 : decode cX11_many 52 = .ok (.goto 4, 3) := by decide +kernel
theorem dX11_many_55 : decode cX11_many 55 = .ok (.iconst 0, 1) := by decide +kernel
theorem dX11_many_56 : decode cX11_many 56 = .ok (.iadd, 1) := by decide +kernel
theorem dX11_many_57 : decode cX11_many 57 = .ok (.istore_n 3, 1) := by decide +kernel
theorem dX11_many_58 : decode cX11_many 58 = .ok (.iinc 6 1, 3) := by decide +kernel
theorem dX11_many_61 : decode cX11_many 61 = .ok (.goto (-48), 3) := by decide +kernel
theorem dX11_many_64 : decode cX11_many 64 = .ok (.iconst 0, 1) := by decide +kernel
theorem dX11_many_65 : decode cX11_many 65 = .ok (.istore 6, 2) := by decide +kernel
theorem dX11_many_67 : decode cX11_many 67 = .ok (.iload 6, 2) := by decide +kernel
theorem dX11_many_69 : decode cX11_many 69 = .ok (.iconst 4, 1) := by decide +kernel
theorem dX11_many_70 : decode cX11_many 70 = .ok (.if_icmp .ge 64, 3) := by decide +kernel
theorem dX11_many_73 : decode cX11_many 73 = .ok (.iconst 0, 1) := by decide +kernel
theorem dX11_many_74 : decode cX11_many 74 = .ok (.istore 7, 2) := by decide +kernel
theorem dX11_many_76 : decode cX11_many 76 = .ok (.iload 7, 2) := by decide +kernel
theorem dX11_many_78 : decode cX11_many 78 = .ok (.bipush 40, 2) := by decide +kernel
theorem dX11_many_80 : decode cX11_many 80 = .ok (.if_icmp .ge 37, 3) := by decide +kernel
theorem dX11_many_83 : decode cX11_many 83 = .ok (.iload 4, 2) := by decide +kernel
theorem dX11_many_85 : decode cX11_many 85 = .ok (.aload_n 0, 1) := by decide +kernel
theorem dX11_many_86 : decode cX11_many 86 = .ok (.getfield 7, 3) := by decide +kernel
theorem dX11_many_89 : decode cX11_many 89 = .ok (.bipush 40, 2) := by decide +kernel
theorem dX11_many_91 : decode cX11_many 91 = .ok (.iload 6, 2) := by decide +kernel
theorem dX11_many_93 : decode cX11_many 93 = .ok (.imul, 1) := by decide +kernel
theorem dX11_many_94 : decode cX11_many 94 = .ok (.iload 7, 2) := by decide +kernel
theorem dX11_many_96 : decode cX11_many 96 = .ok (.iadd, 1) := by decide +kernel
theorem dX11_many_97 : decode cX11_many 97 = .ok (.iaload, 1) := by decide +kernel
theorem dX11_many_98 : decode cX11_many 98 = .ok (.bipush (-9), 2) := by decide +kernel
theorem dX11_many_100 : decode cX11_many 100 = .ok (.if_icmp .ne 7, 3) := by decide +kernel
theorem dX11_many_103 : decode cX11_many 103 = .ok (.iconst 0, 1) := by decide +kernel
theorem dX11_many_104 : decode cX11_many 104 = .ok (.goto 4, 3) := by decide +kernel
theorem dX11_many_107 : decode cX11_many 107 = .ok (.iconst 1, 1) := by decide +kernel
theorem dX11_many_108 : decode cX11_many 108 = .ok (.iadd, 1) := by decide +kernel
theorem dX11_many_109 : decode cX11_many 109 = .ok (.istore 4, 2) := by decide +kernel
theorem dX11_many_111 : decode cX11_many 111 = .ok (.iinc 7 1, 3) := by decide +kernel
theorem dX11_many_114 : decode cX11_many 114 = .ok (.goto (-38), 3) := by decide +kernel
theorem dX11_many_117 : decode cX11_many 117 = .ok (.iload 5, 2) := by decide +kernel
theorem dX11_many_119 : decode cX11_many 119 = .ok (.aload_n 0, 1) := by decide +kernel
theorem dX11_many_120 : decode cX11_many 120 = .ok (.iload 6, 2) := by decide +kernel
theorem dX11_many_122 : decode cX11_many 122 = .ok (.invokevirtual 164, 3) := by decide +kernel
theorem dX11_many_125 : decode cX11_many 125 = .ok (.iadd, 1) := by decide +kernel
theorem dX11_many_126 : decode cX11_many 126 = .ok (.istore 5, 2) := by decide +kernel
theorem dX11_many_128 : decode cX11_many 128 = .ok (.iinc 6 1, 3) := by decide +kernel
theorem dX11_many_131 : decode cX11_many 131 = .ok (.goto (-64), 3) := by decide +kernel
theorem dX11_many_134 : decode cX11_many 134 = .ok (.iload_n 1, 1) := by decide +kernel
theorem dX11_many_135 : decode cX11_many 135 = .ok (.tableswitch 57 0 5 #[37, 39, 41, 44, 49, 54], 37) := by decide +kernel
theorem dX11_many_172 : decode cX11_many 172 = .ok (.iload_n 2, 1) := by decide +kernel
theorem dX11_many_173 : decode cX11_many 173 = .ok (.ireturn, 1) := by decide +kernel
theorem dX11_many_174 : decode cX11_many 174 = .ok (.iload_n 3, 1) := by decide +kernel
theorem dX11_many_175 : decode cX11_many 175 = .ok (.ireturn, 1) := by decide +kernel
theorem dX11_many_176 : decode cX11_many 176 = .ok (.iload 4, 2) := by decide +kernel
theorem dX11_many_178 : decode cX11_many 178 = .ok (.ireturn, 1) := by decide +kernel
theorem dX11_many_179 : decode cX11_many 179 = .ok (.aload_n 0, 1) := by decide +kernel
theorem dX11_many_180 : decode cX11_many 180 = .ok (.getfield 87, 3) := by decide +kernel
theorem dX11_many_183 : decode cX11_many 183 = .ok (.ireturn, 1) := by decide +kernel
theorem dX11_many_184 : decode cX11_many 184 = .ok (.aload_n 0, 1) := by decide +kernel
theorem dX11_many_185 : decode cX11_many 185 = .ok (.invokevirtual 185, 3) := by decide +kernel
theorem dX11_many_188 : decode cX11_many 188 = .ok (.ireturn, 1) := by decide +kernel
theorem dX11_many_189 : decode cX11_many 189 = .ok (.iload 5, 2) := by decide +kernel
theorem dX11_many_191 : decode cX11_many 191 = .ok (.ireturn, 1) := by decide +kernel
theorem dX11_many_192 : decode cX11_many 192 = .ok (.bipush (-2), 2) := by decide +kernel
theorem dX11_many_194 : decode cX11_many 194 = .ok (.ireturn, 1) := by decide +kernel
