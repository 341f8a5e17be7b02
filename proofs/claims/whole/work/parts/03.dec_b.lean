theorem dX7_init_0 : decode cX7_init 0 = .ok (.aload_n 0, 1) := by decide +kernel
theorem dX7_init_1 : decode cX7_init 1 = .ok (.invokespecial 1, 3) := by decide +kernel
theorem dX7_init_4 : decode cX7_init 4 = .ok (.aload_n 0, 1) := by decide +kernel
theorem dX7_init_5 : decode cX7_init 5 = .ok (.new 7, 3) := by decide +kernel
theorem dX7_init_8 : decode cX7_init 8 = .ok (.dup, 1) := by decide +kernel
theorem dX7_init_9 : decode cX7_init 9 = .ok (.invokespecial 9, 3) := by decide +kernel
theorem dX7_init_12 : decode cX7_init 12 = .ok (.putfield 10, 3) := by decide +kernel
theorem dX7_init_15 : decode cX7_init 15 = .ok (.aload_n 0, 1) := by decide +kernel
theorem dX7_init_16 : decode cX7_init 16 = .ok (.new 16, 3) := by decide +kernel
theorem dX7_init_19 : decode cX7_init 19 = .ok (.dup, 1) := by decide +kernel
theorem dX7_init_20 : decode cX7_init 20 = .ok (.invokespecial 18, 3) := by decide +kernel
theorem dX7_init_23 : decode cX7_init 23 = .ok (.putfield 19, 3) := by decide +kernel
theorem dX7_init_26 : decode cX7_init 26 = .ok (.aload_n 0, 1) := by decide +kernel
theorem dX7_init_27 : decode cX7_init 27 = .ok (.new 16, 3) := by decide +kernel
theorem dX7_init_30 : decode cX7_init 30 = .ok (.dup, 1) := by decide +kernel
theorem dX7_init_31 : decode cX7_init 31 = .ok (.invokespecial 18, 3) := by decide +kernel
theorem dX7_init_34 : decode cX7_init 34 = .ok (.putfield 23, 3) := by decide +kernel
theorem dX7_init_37 : decode cX7_init 37 = .ok (.aload_n 0, 1) := by decide +kernel
theorem dX7_init_38 : decode cX7_init 38 = .ok (.new 26, 3) := by decide +kernel
theorem dX7_init_41 : decode cX7_init 41 = .ok (.dup, 1) := by decide +kernel
theorem dX7_init_42 : decode cX7_init 42 = .ok (.invokespecial 28, 3) := by decide +kernel
theorem dX7_init_45 : decode cX7_init 45 = .ok (.putfield 29, 3) := by decide +kernel
theorem dX7_init_48 : decode cX7_init 48 = .ok (.aload_n 0, 1) := by decide +kernel
theorem dX7_init_49 : decode cX7_init 49 = .ok (.new 26, 3) := by decide +kernel
theorem dX7_init_52 : decode cX7_init 52 = .ok (.dup, 1) := by decide +kernel
theorem dX7_init_53 : decode cX7_init 53 = .ok (.invokespecial 28, 3) := by decide +kernel
theorem dX7_init_56 : decode cX7_init 56 = .ok (.putfield 33, 3) := by decide +kernel
theorem dX7_init_59 : decode cX7_init 59 = .ok (.aload_n 0, 1) := by decide +kernel
theorem dX7_init_60 : decode cX7_init 60 = .ok (.new 36, 3) := by decide +kernel
theorem dX7_init_63 : decode cX7_init 63 = .ok (.dup, 1) := by decide +kernel
theorem dX7_init_64 : decode cX7_init 64 = .ok (.invokespecial 38, 3) := by decide +kernel
theorem dX7_init_67 : decode cX7_init 67 = .ok (.putfield 39, 3) := by decide +kernel
theorem dX7_init_70 : decode cX7_init 70 = .ok (.aload_n 0, 1) := by decide +kernel
theorem dX7_init_71 : decode cX7_init 71 = .ok (.new 43, 3) := by decide +kernel
theorem dX7_init_74 : decode cX7_init 74 = .ok (.dup, 1) := by decide +kernel
theorem dX7_init_75 : decode cX7_init 75 = .ok (.aload_n 0, 1) := by decide +kernel
theorem dX7_init_76 : decode cX7_init 76 = .ok (.getfield 19, 3) := by decide +kernel
theorem dX7_init_79 : decode cX7_init 79 = .ok (.iconst 0, 1) := by decide +kernel
theorem dX7_init_80 : decode cX7_init 80 = .ok (.invokespecial 45, 3) := by decide +kernel
theorem dX7_init_83 : decode cX7_init 83 = .ok (.putfield 48, 3) := by decide +kernel
theorem dX7_init_86 : decode cX7_init 86 = .ok (.aload_n 0, 1) := by decide +kernel
theorem dX7_init_87 : decode cX7_init 87 = .ok (.new 43, 3) := by decide +kernel
theorem dX7_init_90 : decode cX7_init 90 = .ok (.dup, 1) := by decide +kernel
theorem dX7_init_91 : decode cX7_init 91 = .ok (.aload_n 0, 1) := by decide +kernel
theorem dX7_init_92 : decode cX7_init 92 = .ok (.getfield 19, 3) := by decide +kernel
theorem dX7_init_95 : decode cX7_init 95 = .ok (.iconst 1, 1) := by decide +kernel
theorem dX7_init_96 : decode cX7_init 96 = .ok (.invokespecial 45, 3) := by decide +kernel
theorem dX7_init_99 : decode cX7_init 99 = .ok (.putfield 52, 3) := by decide +kernel
theorem dX7_init_102 : decode cX7_init 102 = .ok (.aload_n 0, 1) := by decide +kernel
theorem dX7_init_103 : decode cX7_init 103 = .ok (.new 55, 3) := by decide +kernel
theorem dX7_init_106 : decode cX7_init 106 = .ok (.dup, 1) := by decide +kernel
theorem dX7_init_107 : decode cX7_init 107 = .ok (.invokespecial 57, 3) := by decide +kernel
theorem dX7_init_110 : decode cX7_init 110 = .ok (.putfield 58, 3) := by decide +kernel
theorem dX7_init_113 : decode cX7_init 113 = .ok (.aload_n 0, 1) := by decide +kernel
theorem dX7_init_114 : decode cX7_init 114 = .ok (.bipush 7, 2) := by decide +kernel
theorem dX7_init_116 : decode cX7_init 116 = .ok (.newarray .int, 2) := by decide +kernel
theorem dX7_init_118 : decode cX7_init 118 = .ok (.putfield 62, 3) := by decide +kernel
theorem dX7_init_121 : decode cX7_init 121 = .ok (.return_, 1) := by decide +kernel
theorem dX7_letter_0 : decode cX7_letter 0 = .ok (.iload_n 1, 1) := by decide +kernel
theorem dX7_letter_1 : decode cX7_letter 1 = .ok (.ifCond .ge 10, 3) := by decide +kernel
theorem dX7_letter_4 : decode cX7_letter 4 = .ok (.aload_n 0, 1) := by decide +kernel
theorem dX7_letter_5 : decode cX7_letter 5 = .ok (.bipush (-4), 2) := by decide +kernel
theorem dX7_letter_7 : decode cX7_letter 7 = .ok (.invokevirtual 66, 3) := by decide +kernel
theorem dX7_letter_10 : decode cX7_letter 10 = .ok (.ireturn, 1) := by decide +kernel
theorem dX7_letter_11 : decode cX7_letter 11 = .ok (.iload_n 1, 1) := by decide +kernel
theorem dX7_letter_12 : decode cX7_letter 12 = .ok (.sipush 255, 3) := by decide +kernel
theorem dX7_letter_15 : decode cX7_letter 15 = .ok (.if_icmp .gt 15, 3) := by decide +kernel
theorem dX7_letter_18 : decode cX7_letter 18 = .ok (.aload_n 0, 1) := by decide +kernel
theorem dX7_letter_19 : decode cX7_letter 19 = .ok (.getfield 10, 3) := by decide +kernel
theorem dX7_letter_22 : decode cX7_letter 22 = .ok (.getfield 70, 3) := by decide +kernel
theorem dX7_letter_25 : decode cX7_letter 25 = .ok (.bipush 64, 2) := by decide +kernel
theorem dX7_letter_27 : decode cX7_letter 27 = .ok (.if_icmp .lt 10, 3) := by decide +kernel
theorem dX7_letter_30 : decode cX7_letter 30 = .ok (.aload_n 0, 1) := by decide +kernel
theorem dX7_letter_31 : decode cX7_letter 31 = .ok (.bipush (-6), 2) := by decide +kernel
theorem dX7_letter_33 : decode cX7_letter 33 = .ok (.invokevirtual 66, 3) := by decide +kernel
theorem dX7_letter_36 : decode cX7_letter 36 = .ok (.ireturn, 1) := by decide +kernel
theorem dX7_letter_37 : decode cX7_letter 37 = .ok (.aload_n 0, 1) := by decide +kernel
theorem dX7_letter_38 : decode cX7_letter 38 = .ok (.getfield 10, 3) := by decide +kernel
theorem dX7_letter_41 : decode cX7_letter 41 = .ok (.iload_n 1, 1) := by decide +kernel
theorem dX7_letter_42 : decode cX7_letter 42 = .ok (.invokevirtual 74, 3) := by decide +kernel
theorem dX7_letter_45 : decode cX7_letter 45 = .ok (.aload_n 0, 1) := by decide +kernel
theorem dX7_letter_46 : decode cX7_letter 46 = .ok (.getfield 10, 3) := by decide +kernel
theorem dX7_letter_49 : decode cX7_letter 49 = .ok (.getfield 70, 3) := by decide +kernel
theorem dX7_letter_52 : decode cX7_letter 52 = .ok (.ireturn, 1) := by decide +kernel
theorem dX7_tongue_0 : decode cX7_tongue 0 = .ok (.aload_n 0, 1) := by decide +kernel
theorem dX7_tongue_1 : decode cX7_tongue 1 = .ok (.getfield 10, 3) := by decide +kernel
theorem dX7_tongue_4 : decode cX7_tongue 4 = .ok (.invokevirtual 78, 3) := by decide +kernel
theorem dX7_tongue_7 : decode cX7_tongue 7 = .ok (.istore_n 1, 1) := by decide +kernel
theorem dX7_tongue_8 : decode cX7_tongue 8 = .ok (.iload_n 1, 1) := by decide +kernel
theorem dX7_tongue_9 : decode cX7_tongue 9 = .ok (.ifCond .le 26, 3) := by decide +kernel
theorem dX7_tongue_12 : decode cX7_tongue 12 = .ok (.aload_n 0, 1) := by decide +kernel
theorem dX7_tongue_13 : decode cX7_tongue 13 = .ok (.getfield 23, 3) := by decide +kernel
theorem dX7_tongue_16 : decode cX7_tongue 16 = .ok (.aload_n 0, 1) := by decide +kernel
theorem dX7_tongue_17 : decode cX7_tongue 17 = .ok (.getfield 19, 3) := by decide +kernel
theorem dX7_tongue_20 : decode cX7_tongue 20 = .ok (.invokevirtual 82, 3) := by decide +kernel
theorem dX7_tongue_23 : decode cX7_tongue 23 = .ok (.aload_n 0, 1) := by decide +kernel
theorem dX7_tongue_24 : decode cX7_tongue 24 = .ok (.getfield 10, 3) := by decide +kernel
theorem dX7_tongue_27 : decode cX7_tongue 27 = .ok (.aload_n 0, 1) := by decide +kernel
theorem dX7_tongue_28 : decode cX7_tongue 28 = .ok (.getfield 23, 3) := by decide +kernel
theorem dX7_tongue_31 : decode cX7_tongue 31 = .ok (.invokevirtual 86, 3) := by decide +kernel
theorem dX7_tongue_34 : decode cX7_tongue 34 = .ok (.istore_n 1, 1) := by decide +kernel
theorem dX7_tongue_35 : decode cX7_tongue 35 = .ok (.iload_n 1, 1) := by decide +kernel
theorem dX7_tongue_36 : decode cX7_tongue 36 = .ok (.ifCond .le 18, 3) := by decide +kernel
theorem dX7_tongue_39 : decode cX7_tongue 39 = .ok (.aload_n 0, 1) := by decide +kernel
theorem dX7_tongue_40 : decode cX7_tongue 40 = .ok (.getfield 19, 3) := by decide +kernel
theorem dX7_tongue_43 : decode cX7_tongue 43 = .ok (.aload_n 0, 1) := by decide +kernel
theorem dX7_tongue_44 : decode cX7_tongue 44 = .ok (.getfield 23, 3) := by decide +kernel
theorem dX7_tongue_47 : decode cX7_tongue 47 = .ok (.invokevirtual 82, 3) := by decide +kernel
theorem dX7_tongue_50 : decode cX7_tongue 50 = .ok (.aload_n 0, 1) := by decide +kernel
theorem dX7_tongue_51 : decode cX7_tongue 51 = .ok (.invokevirtual 90, 3) := by decide +kernel
theorem dX7_tongue_54 : decode cX7_tongue 54 = .ok (.aload_n 0, 1) := by decide +kernel
theorem dX7_tongue_55 : decode cX7_tongue 55 = .ok (.getfield 10, 3) := by decide +kernel
theorem dX7_tongue_58 : decode cX7_tongue 58 = .ok (.iconst 0, 1) := by decide +kernel
theorem dX7_tongue_59 : decode cX7_tongue 59 = .ok (.putfield 70, 3) := by decide +kernel
theorem dX7_tongue_62 : decode cX7_tongue 62 = .ok (.iload_n 1, 1) := by decide +kernel
theorem dX7_tongue_63 : decode cX7_tongue 63 = .ok (.ireturn, 1) := by decide +kernel
theorem dX7_word_0 : decode cX7_word 0 = .ok (.aload_n 0, 1) := by decide +kernel
theorem dX7_word_1 : decode cX7_word 1 = .ok (.getfield 19, 3) := by decide +kernel
theorem dX7_word_4 : decode cX7_word 4 = .ok (.iload_n 1, 1) := by decide +kernel
theorem dX7_word_5 : decode cX7_word 5 = .ok (.invokevirtual 93, 3) := by decide +kernel
theorem dX7_word_8 : decode cX7_word 8 = .ok (.ifCond .ne 9, 3) := by decide +kernel
theorem dX7_word_11 : decode cX7_word 11 = .ok (.aload_n 0, 1) := by decide +kernel
theorem dX7_word_12 : decode cX7_word 12 = .ok (.iconst (-1), 1) := by decide +kernel
theorem dX7_word_13 : decode cX7_word 13 = .ok (.invokevirtual 66, 3) := by decide +kernel
theorem dX7_word_16 : decode cX7_word 16 = .ok (.ireturn, 1) := by decide +kernel
theorem dX7_word_17 : decode cX7_word 17 = .ok (.iload_n 2, 1) := by decide +kernel
theorem dX7_word_18 : decode cX7_word 18 = .ok (.lookupswitch 46 #[(0, 26), (1, 36)], 26) := by decide +kernel
theorem dX7_word_44 : decode cX7_word 44 = .ok (.aload_n 0, 1) := by decide +kernel
theorem dX7_word_45 : decode cX7_word 45 = .ok (.getfield 19, 3) := by decide +kernel
theorem dX7_word_48 : decode cX7_word 48 = .ok (.getfield 97, 3) := by decide +kernel
theorem dX7_word_51 : decode cX7_word 51 = .ok (.iload_n 1, 1) := by decide +kernel
theorem dX7_word_52 : decode cX7_word 52 = .ok (.iaload, 1) := by decide +kernel
theorem dX7_word_53 : decode cX7_word 53 = .ok (.ireturn, 1) := by decide +kernel
theorem dX7_word_54 : decode cX7_word 54 = .ok (.aload_n 0, 1) := by decide +kernel
theorem dX7_word_55 : decode cX7_word 55 = .ok (.getfield 19, 3) := by decide +kernel
theorem dX7_word_58 : decode cX7_word 58 = .ok (.getfield 100, 3) := by decide +kernel
theorem dX7_word_61 : decode cX7_word 61 = .ok (.iload_n 1, 1) := by decide +kernel
theorem dX7_word_62 : decode cX7_word 62 = .ok (.iaload, 1) := by decide +kernel
theorem dX7_word_63 : decode cX7_word 63 = .ok (.ireturn, 1) := by decide +kernel
theorem dX7_word_64 : decode cX7_word 64 = .ok (.aload_n 0, 1) := by decide +kernel
theorem dX7_word_65 : decode cX7_word 65 = .ok (.bipush (-2), 2) := by decide +kernel
theorem dX7_word_67 : decode cX7_word 67 = .ok (.invokevirtual 66, 3) := by decide +kernel
theorem dX7_word_70 : decode cX7_word 70 = .ok (.ireturn, 1) := by decide +kernel
theorem dX7_weight_0 : decode cX7_weight 0 = .ok (.iload_n 1, 1) := by decide +kernel
theorem dX7_weight_1 : decode cX7_weight 1 = .ok (.invokestatic 103, 3) := by decide +kernel
theorem dX7_weight_4 : decode cX7_weight 4 = .ok (.ifCond .eq 15, 3) := by decide +kernel
theorem dX7_weight_7 : decode cX7_weight 7 = .ok (.aload_n 0, 1) := by decide +kernel
theorem dX7_weight_8 : decode cX7_weight 8 = .ok (.getfield 19, 3) := by decide +kernel
theorem dX7_weight_11 : decode cX7_weight 11 = .ok (.getfield 106, 3) := by decide +kernel
theorem dX7_weight_14 : decode cX7_weight 14 = .ok (.iload_n 1, 1) := by decide +kernel
theorem dX7_weight_15 : decode cX7_weight 15 = .ok (.iaload, 1) := by decide +kernel
theorem dX7_weight_16 : decode cX7_weight 16 = .ok (.goto 8, 3) := by decide +kernel
theorem dX7_weight_19 : decode cX7_weight 19 = .ok (.aload_n 0, 1) := by decide +kernel
theorem dX7_weight_20 : decode cX7_weight 20 = .ok (.iconst (-1), 1) := by decide +kernel
theorem dX7_weight_21 : decode cX7_weight 21 = .ok (.invokevirtual 66, 3) := by decide +kernel
theorem dX7_weight_24 : decode cX7_weight 24 = .ok (.ireturn, 1) := by decide +kernel
theorem dX7_truth_0 : decode cX7_truth 0 = .ok (.iload_n 1, 1) := by decide +kernel
theorem dX7_truth_1 : decode cX7_truth 1 = .ok (.invokestatic 103, 3) := by decide +kernel
theorem dX7_truth_4 : decode cX7_truth 4 = .ok (.ifCond .ne 9, 3) := by decide +kernel
theorem dX7_truth_7 : decode cX7_truth 7 = .ok (.aload_n 0, 1) := by decide +kernel
theorem dX7_truth_8 : decode cX7_truth 8 = .ok (.iconst (-1), 1) := by decide +kernel
theorem dX7_truth_9 : decode cX7_truth 9 = .ok (.invokevirtual 66, 3) := by decide +kernel
theorem dX7_truth_12 : decode cX7_truth 12 = .ok (.ireturn, 1) := by decide +kernel
theorem dX7_truth_13 : decode cX7_truth 13 = .ok (.aload_n 0, 1) := by decide +kernel
theorem dX7_truth_14 : decode cX7_truth 14 = .ok (.getfield 19, 3) := by decide +kernel
theorem dX7_truth_17 : decode cX7_truth 17 = .ok (.getfield 109, 3) := by decide +kernel
theorem dX7_truth_20 : decode cX7_truth 20 = .ok (.istore_n 2, 1) := by decide +kernel
theorem dX7_truth_21 : decode cX7_truth 21 = .ok (.aload_n 0, 1) := by decide +kernel
theorem dX7_truth_22 : decode cX7_truth 22 = .ok (.getfield 19, 3) := by decide +kernel
theorem dX7_truth_25 : decode cX7_truth 25 = .ok (.iload_n 1, 1) := by decide +kernel
theorem dX7_truth_26 : decode cX7_truth 26 = .ok (.putfield 109, 3) := by decide +kernel
theorem dX7_truth_29 : decode cX7_truth 29 = .ok (.iload_n 2, 1) := by decide +kernel
theorem dX7_truth_30 : decode cX7_truth 30 = .ok (.ireturn, 1) := by decide +kernel
theorem dX7_law_0 : decode cX7_law 0 = .ok (.iload_n 1, 1) := by decide +kernel
theorem dX7_law_1 : decode cX7_law 1 = .ok (.invokestatic 112, 3) := by decide +kernel
theorem dX7_law_4 : decode cX7_law 4 = .ok (.ifCond .ne 10, 3) := by decide +kernel
theorem dX7_law_7 : decode cX7_law 7 = .ok (.aload_n 0, 1) := by decide +kernel
theorem dX7_law_8 : decode cX7_law 8 = .ok (.bipush (-2), 2) := by decide +kernel
theorem dX7_law_10 : decode cX7_law 10 = .ok (.invokevirtual 66, 3) := by decide +kernel
theorem dX7_law_13 : decode cX7_law 13 = .ok (.ireturn, 1) := by decide +kernel
theorem dX7_law_14 : decode cX7_law 14 = .ok (.aload_n 0, 1) := by decide +kernel
theorem dX7_law_15 : decode cX7_law 15 = .ok (.getfield 19, 3) := by decide +kernel
theorem dX7_law_18 : decode cX7_law 18 = .ok (.getfield 115, 3) := by decide +kernel
theorem dX7_law_21 : decode cX7_law 21 = .ok (.istore_n 2, 1) := by decide +kernel
theorem dX7_law_22 : decode cX7_law 22 = .ok (.aload_n 0, 1) := by decide +kernel
theorem dX7_law_23 : decode cX7_law 23 = .ok (.getfield 19, 3) := by decide +kernel
theorem dX7_law_26 : decode cX7_law 26 = .ok (.iload_n 1, 1) := by decide +kernel
theorem dX7_law_27 : decode cX7_law 27 = .ok (.putfield 115, 3) := by decide +kernel
theorem dX7_law_30 : decode cX7_law 30 = .ok (.iload_n 2, 1) := by decide +kernel
theorem dX7_law_31 : decode cX7_law 31 = .ok (.ireturn, 1) := by decide +kernel
theorem dX7_row_0 : decode cX7_row 0 = .ok (.aload_n 0, 1) := by decide +kernel
theorem dX7_row_1 : decode cX7_row 1 = .ok (.aload_n 0, 1) := by decide +kernel
theorem dX7_row_2 : decode cX7_row 2 = .ok (.getfield 29, 3) := by decide +kernel
theorem dX7_row_5 : decode cX7_row 5 = .ok (.iload_n 1, 1) := by decide +kernel
theorem dX7_row_6 : decode cX7_row 6 = .ok (.invokevirtual 118, 3) := by decide +kernel
theorem dX7_row_9 : decode cX7_row 9 = .ok (.ireturn, 1) := by decide +kernel
theorem dX7_means_0 : decode cX7_means 0 = .ok (.aload_n 0, 1) := by decide +kernel
theorem dX7_means_1 : decode cX7_means 1 = .ok (.invokevirtual 122, 3) := by decide +kernel
theorem dX7_means_4 : decode cX7_means 4 = .ok (.invokestatic 125, 3) := by decide +kernel
theorem dX7_means_7 : decode cX7_means 7 = .ok (.ireturn, 1) := by decide +kernel
theorem dX7_follows_0 : decode cX7_follows 0 = .ok (.iload_n 1, 1) := by decide +kernel
theorem dX7_follows_1 : decode cX7_follows 1 = .ok (.ifCond .lt 7, 3) := by decide +kernel
theorem dX7_follows_4 : decode cX7_follows 4 = .ok (.iload_n 2, 1) := by decide +kernel
theorem dX7_follows_5 : decode cX7_follows 5 = .ok (.ifCond .ge 10, 3) := by decide +kernel
theorem dX7_follows_8 : decode cX7_follows 8 = .ok (.aload_n 0, 1) := by decide +kernel
theorem dX7_follows_9 : decode cX7_follows 9 = .ok (.bipush (-4), 2) := by decide +kernel
theorem dX7_follows_11 : decode cX7_follows 11 = .ok (.invokevirtual 66, 3) := by decide +kernel
theorem dX7_follows_14 : decode cX7_follows 14 = .ok (.ireturn, 1) := by decide +kernel
theorem dX7_follows_15 : decode cX7_follows 15 = .ok (.iload_n 1, 1) := by decide +kernel
theorem dX7_follows_16 : decode cX7_follows 16 = .ok (.bipush 6, 2) := by decide +kernel
theorem dX7_follows_18 : decode cX7_follows 18 = .ok (.if_icmp .gt 8, 3) := by decide +kernel
theorem dX7_follows_21 : decode cX7_follows 21 = .ok (.iload_n 2, 1) := by decide +kernel
theorem dX7_follows_22 : decode cX7_follows 22 = .ok (.iload_n 1, 1) := by decide +kernel
theorem dX7_follows_23 : decode cX7_follows 23 = .ok (.if_icmp .le 10, 3) := by decide +kernel
theorem dX7_follows_26 : decode cX7_follows 26 = .ok (.aload_n 0, 1) := by decide +kernel
theorem dX7_follows_27 : decode cX7_follows 27 = .ok (.bipush (-6), 2) := by decide +kernel
theorem dX7_follows_29 : decode cX7_follows 29 = .ok (.invokevirtual 66, 3) := by decide +kernel
theorem dX7_follows_32 : decode cX7_follows 32 = .ok (.ireturn, 1) := by decide +kernel
theorem dX7_follows_33 : decode cX7_follows 33 = .ok (.aload_n 0, 1) := by decide +kernel
theorem dX7_follows_34 : decode cX7_follows 34 = .ok (.getfield 19, 3) := by decide +kernel
theorem dX7_follows_37 : decode cX7_follows 37 = .ok (.getfield 115, 3) := by decide +kernel
theorem dX7_follows_40 : decode cX7_follows 40 = .ok (.aload_n 0, 1) := by decide +kernel
theorem dX7_follows_41 : decode cX7_follows 41 = .ok (.invokevirtual 122, 3) := by decide +kernel
theorem dX7_follows_44 : decode cX7_follows 44 = .ok (.iload_n 1, 1) := by decide +kernel
theorem dX7_follows_45 : decode cX7_follows 45 = .ok (.iload_n 2, 1) := by decide +kernel
theorem dX7_follows_46 : decode cX7_follows 46 = .ok (.invokestatic 130, 3) := by decide +kernel
theorem dX7_follows_49 : decode cX7_follows 49 = .ok (.invokestatic 134, 3) := by decide +kernel
theorem dX7_follows_52 : decode cX7_follows 52 = .ok (.invokestatic 138, 3) := by decide +kernel
theorem dX7_follows_55 : decode cX7_follows 55 = .ok (.ireturn, 1) := by decide +kernel
theorem dX7_settles_0 : decode cX7_settles 0 = .ok (.iload_n 1, 1) := by decide +kernel
theorem dX7_settles_1 : decode cX7_settles 1 = .ok (.invokestatic 142, 3) := by decide +kernel
theorem dX7_settles_4 : decode cX7_settles 4 = .ok (.ifCond .ne 9, 3) := by decide +kernel
theorem dX7_settles_7 : decode cX7_settles 7 = .ok (.aload_n 0, 1) := by decide +kernel
theorem dX7_settles_8 : decode cX7_settles 8 = .ok (.iconst (-1), 1) := by decide +kernel
theorem dX7_settles_9 : decode cX7_settles 9 = .ok (.invokevirtual 66, 3) := by decide +kernel
theorem dX7_settles_12 : decode cX7_settles 12 = .ok (.ireturn, 1) := by decide +kernel
theorem dX7_settles_13 : decode cX7_settles 13 = .ok (.iload_n 1, 1) := by decide +kernel
theorem dX7_settles_14 : decode cX7_settles 14 = .ok (.aload_n 0, 1) := by decide +kernel
theorem dX7_settles_15 : decode cX7_settles 15 = .ok (.invokevirtual 122, 3) := by decide +kernel
theorem dX7_settles_18 : decode cX7_settles 18 = .ok (.invokestatic 125, 3) := by decide +kernel
theorem dX7_settles_21 : decode cX7_settles 21 = .ok (.invokestatic 145, 3) := by decide +kernel
theorem dX7_settles_24 : decode cX7_settles 24 = .ok (.invokestatic 138, 3) := by decide +kernel
theorem dX7_settles_27 : decode cX7_settles 27 = .ok (.ireturn, 1) := by decide +kernel
theorem dX7_answer_0 : decode cX7_answer 0 = .ok (.aload_n 0, 1) := by decide +kernel
theorem dX7_answer_1 : decode cX7_answer 1 = .ok (.getfield 19, 3) := by decide +kernel
theorem dX7_answer_4 : decode cX7_answer 4 = .ok (.iload_n 1, 1) := by decide +kernel
theorem dX7_answer_5 : decode cX7_answer 5 = .ok (.invokevirtual 149, 3) := by decide +kernel
theorem dX7_answer_8 : decode cX7_answer 8 = .ok (.ifCond .ne 9, 3) := by decide +kernel
theorem dX7_answer_11 : decode cX7_answer 11 = .ok (.aload_n 0, 1) := by decide +kernel
theorem dX7_answer_12 : decode cX7_answer 12 = .ok (.iconst (-1), 1) := by decide +kernel
theorem dX7_answer_13 : decode cX7_answer 13 = .ok (.invokevirtual 66, 3) := by decide +kernel
theorem dX7_answer_16 : decode cX7_answer 16 = .ok (.ireturn, 1) := by decide +kernel
theorem dX7_answer_17 : decode cX7_answer 17 = .ok (.iload_n 2, 1) := by decide +kernel
theorem dX7_answer_18 : decode cX7_answer 18 = .ok (.iconst (-1), 1) := by decide +kernel
theorem dX7_answer_19 : decode cX7_answer 19 = .ok (.if_icmp .ge 10, 3) := by decide +kernel
theorem dX7_answer_22 : decode cX7_answer 22 = .ok (.aload_n 0, 1) := by decide +kernel
theorem dX7_answer_23 : decode cX7_answer 23 = .ok (.bipush (-4), 2) := by decide +kernel
theorem dX7_answer_25 : decode cX7_answer 25 = .ok (.invokevirtual 66, 3) := by decide +kernel
theorem dX7_answer_28 : decode cX7_answer 28 = .ok (.ireturn, 1) := by decide +kernel
theorem dX7_answer_29 : decode cX7_answer 29 = .ok (.aload_n 0, 1) := by decide +kernel
theorem dX7_answer_30 : decode cX7_answer 30 = .ok (.getfield 48, 3) := by decide +kernel
theorem dX7_answer_33 : decode cX7_answer 33 = .ok (.aload_n 0, 1) := by decide +kernel
theorem dX7_answer_34 : decode cX7_answer 34 = .ok (.getfield 29, 3) := by decide +kernel
theorem dX7_answer_37 : decode cX7_answer 37 = .ok (.aload_n 0, 1) := by decide +kernel
theorem dX7_answer_38 : decode cX7_answer 38 = .ok (.getfield 19, 3) := by decide +kernel
theorem dX7_answer_41 : decode cX7_answer 41 = .ok (.invokevirtual 152, 3) := by decide +kernel
theorem dX7_answer_44 : decode cX7_answer 44 = .ok (.aload_n 0, 1) := by decide +kernel
theorem dX7_answer_45 : decode cX7_answer 45 = .ok (.getfield 19, 3) := by decide +kernel
theorem dX7_answer_48 : decode cX7_answer 48 = .ok (.getfield 155, 3) := by decide +kernel
theorem dX7_answer_51 : decode cX7_answer 51 = .ok (.iload_n 1, 1) := by decide +kernel
theorem dX7_answer_52 : decode cX7_answer 52 = .ok (.iaload, 1) := by decide +kernel
theorem dX7_answer_53 : decode cX7_answer 53 = .ok (.aload_n 0, 1) := by decide +kernel
theorem dX7_answer_54 : decode cX7_answer 54 = .ok (.getfield 19, 3) := by decide +kernel
theorem dX7_answer_57 : decode cX7_answer 57 = .ok (.getfield 109, 3) := by decide +kernel
theorem dX7_answer_60 : decode cX7_answer 60 = .ok (.invokevirtual 158, 3) := by decide +kernel
theorem dX7_answer_63 : decode cX7_answer 63 = .ok (.istore_n 3, 1) := by decide +kernel
theorem dX7_answer_64 : decode cX7_answer 64 = .ok (.iload_n 3, 1) := by decide +kernel
theorem dX7_answer_65 : decode cX7_answer 65 = .ok (.ifCond .ge 8, 3) := by decide +kernel
theorem dX7_answer_68 : decode cX7_answer 68 = .ok (.bipush (-9), 2) := by decide +kernel
theorem dX7_answer_70 : decode cX7_answer 70 = .ok (.goto 9, 3) := by decide +kernel
theorem dX7_answer_73 : decode cX7_answer 73 = .ok (.aload_n 0, 1) := by decide +kernel
theorem dX7_answer_74 : decode cX7_answer 74 = .ok (.iload_n 3, 1) := by decide +kernel
theorem dX7_answer_75 : decode cX7_answer 75 = .ok (.iload_n 2, 1) := by decide +kernel
theorem dX7_answer_76 : decode cX7_answer 76 = .ok (.invokevirtual 162, 3) := by decide +kernel
theorem dX7_answer_79 : decode cX7_answer 79 = .ok (.ireturn, 1) := by decide +kernel
theorem dX7_answers_0 : decode cX7_answers 0 = .ok (.iload_n 1, 1) := by decide +kernel
theorem dX7_answers_1 : decode cX7_answers 1 = .ok (.invokestatic 103, 3) := by decide +kernel
theorem dX7_answers_4 : decode cX7_answers 4 = .ok (.ifCond .ne 9, 3) := by decide +kernel
theorem dX7_answers_7 : decode cX7_answers 7 = .ok (.aload_n 0, 1) := by decide +kernel
theorem dX7_answers_8 : decode cX7_answers 8 = .ok (.iconst (-1), 1) := by decide +kernel
theorem dX7_answers_9 : decode cX7_answers 9 = .ok (.invokevirtual 66, 3) := by decide +kernel
theorem dX7_answers_12 : decode cX7_answers 12 = .ok (.ireturn, 1) := by decide +kernel
theorem dX7_answers_13 : decode cX7_answers 13 = .ok (.aload_n 0, 1) := by decide +kernel
theorem dX7_answers_14 : decode cX7_answers 14 = .ok (.getfield 48, 3) := by decide +kernel
theorem dX7_answers_17 : decode cX7_answers 17 = .ok (.aload_n 0, 1) := by decide +kernel
theorem dX7_answers_18 : decode cX7_answers 18 = .ok (.getfield 29, 3) := by decide +kernel
theorem dX7_answers_21 : decode cX7_answers 21 = .ok (.aload_n 0, 1) := by decide +kernel
theorem dX7_answers_22 : decode cX7_answers 22 = .ok (.getfield 19, 3) := by decide +kernel
theorem dX7_answers_25 : decode cX7_answers 25 = .ok (.invokevirtual 152, 3) := by decide +kernel
theorem dX7_answers_28 : decode cX7_answers 28 = .ok (.iload_n 1, 1) := by decide +kernel
theorem dX7_answers_29 : decode cX7_answers 29 = .ok (.invokevirtual 165, 3) := by decide +kernel
theorem dX7_answers_32 : decode cX7_answers 32 = .ok (.ireturn, 1) := by decide +kernel
theorem dX7_least_0 : decode cX7_least 0 = .ok (.iload_n 1, 1) := by decide +kernel
theorem dX7_least_1 : decode cX7_least 1 = .ok (.invokestatic 142, 3) := by decide +kernel
theorem dX7_least_4 : decode cX7_least 4 = .ok (.ifCond .ne 9, 3) := by decide +kernel
theorem dX7_least_7 : decode cX7_least 7 = .ok (.aload_n 0, 1) := by decide +kernel
theorem dX7_least_8 : decode cX7_least 8 = .ok (.iconst (-1), 1) := by decide +kernel
theorem dX7_least_9 : decode cX7_least 9 = .ok (.invokevirtual 66, 3) := by decide +kernel
theorem dX7_least_12 : decode cX7_least 12 = .ok (.ireturn, 1) := by decide +kernel
theorem dX7_least_13 : decode cX7_least 13 = .ok (.iload_n 2, 1) := by decide +kernel
theorem dX7_least_14 : decode cX7_least 14 = .ok (.iconst (-1), 1) := by decide +kernel
theorem dX7_least_15 : decode cX7_least 15 = .ok (.if_icmp .ge 10, 3) := by decide +kernel
theorem dX7_least_18 : decode cX7_least 18 = .ok (.aload_n 0, 1) := by decide +kernel
theorem dX7_least_19 : decode cX7_least 19 = .ok (.bipush (-4), 2) := by decide +kernel
theorem dX7_least_21 : decode cX7_least 21 = .ok (.invokevirtual 66, 3) := by decide +kernel
theorem dX7_least_24 : decode cX7_least 24 = .ok (.ireturn, 1) := by decide +kernel
theorem dX7_least_25 : decode cX7_least 25 = .ok (.aload_n 0, 1) := by decide +kernel
theorem dX7_least_26 : decode cX7_least 26 = .ok (.getfield 48, 3) := by decide +kernel
theorem dX7_least_29 : decode cX7_least 29 = .ok (.iload_n 1, 1) := by decide +kernel
theorem dX7_least_30 : decode cX7_least 30 = .ok (.invokevirtual 168, 3) := by decide +kernel
theorem dX7_least_33 : decode cX7_least 33 = .ok (.istore_n 3, 1) := by decide +kernel
theorem dX7_least_34 : decode cX7_least 34 = .ok (.iload_n 3, 1) := by decide +kernel
theorem dX7_least_35 : decode cX7_least 35 = .ok (.ifCond .ge 8, 3) := by decide +kernel
theorem dX7_least_38 : decode cX7_least 38 = .ok (.bipush (-9), 2) := by decide +kernel
theorem dX7_least_40 : decode cX7_least 40 = .ok (.goto 9, 3) := by decide +kernel
theorem dX7_least_43 : decode cX7_least 43 = .ok (.aload_n 0, 1) := by decide +kernel
theorem dX7_least_44 : decode cX7_least 44 = .ok (.iload_n 3, 1) := by decide +kernel
theorem dX7_least_45 : decode cX7_least 45 = .ok (.iload_n 2, 1) := by decide +kernel
theorem dX7_least_46 : decode cX7_least 46 = .ok (.invokevirtual 162, 3) := by decide +kernel
theorem dX7_least_49 : decode cX7_least 49 = .ok (.ireturn, 1) := by decide +kernel
theorem dX7_left_0 : decode cX7_left 0 = .ok (.aload_n 0, 1) := by decide +kernel
theorem dX7_left_1 : decode cX7_left 1 = .ok (.getfield 19, 3) := by decide +kernel
theorem dX7_left_4 : decode cX7_left 4 = .ok (.iload_n 1, 1) := by decide +kernel
theorem dX7_left_5 : decode cX7_left 5 = .ok (.invokevirtual 149, 3) := by decide +kernel
theorem dX7_left_8 : decode cX7_left 8 = .ok (.ifCond .ne 9, 3) := by decide +kernel
theorem dX7_left_11 : decode cX7_left 11 = .ok (.aload_n 0, 1) := by decide +kernel
theorem dX7_left_12 : decode cX7_left 12 = .ok (.iconst (-1), 1) := by decide +kernel
theorem dX7_left_13 : decode cX7_left 13 = .ok (.invokevirtual 66, 3) := by decide +kernel
theorem dX7_left_16 : decode cX7_left 16 = .ok (.ireturn, 1) := by decide +kernel
theorem dX7_left_17 : decode cX7_left 17 = .ok (.aload_n 0, 1) := by decide +kernel
theorem dX7_left_18 : decode cX7_left 18 = .ok (.getfield 48, 3) := by decide +kernel
theorem dX7_left_21 : decode cX7_left 21 = .ok (.aload_n 0, 1) := by decide +kernel
theorem dX7_left_22 : decode cX7_left 22 = .ok (.invokevirtual 122, 3) := by decide +kernel
theorem dX7_left_25 : decode cX7_left 25 = .ok (.aload_n 0, 1) := by decide +kernel
theorem dX7_left_26 : decode cX7_left 26 = .ok (.getfield 19, 3) := by decide +kernel
theorem dX7_left_29 : decode cX7_left 29 = .ok (.getfield 155, 3) := by decide +kernel
theorem dX7_left_32 : decode cX7_left 32 = .ok (.iload_n 1, 1) := by decide +kernel
theorem dX7_left_33 : decode cX7_left 33 = .ok (.iaload, 1) := by decide +kernel
theorem dX7_left_34 : decode cX7_left 34 = .ok (.invokevirtual 171, 3) := by decide +kernel
theorem dX7_left_37 : decode cX7_left 37 = .ok (.ireturn, 1) := by decide +kernel
theorem dX7_best_0 : decode cX7_best 0 = .ok (.aload_n 0, 1) := by decide +kernel
theorem dX7_best_1 : decode cX7_best 1 = .ok (.getfield 19, 3) := by decide +kernel
theorem dX7_best_4 : decode cX7_best 4 = .ok (.iload_n 1, 1) := by decide +kernel
theorem dX7_best_5 : decode cX7_best 5 = .ok (.invokevirtual 149, 3) := by decide +kernel
theorem dX7_best_8 : decode cX7_best 8 = .ok (.ifCond .ne 9, 3) := by decide +kernel
theorem dX7_best_11 : decode cX7_best 11 = .ok (.aload_n 0, 1) := by decide +kernel
theorem dX7_best_12 : decode cX7_best 12 = .ok (.iconst (-1), 1) := by decide +kernel
theorem dX7_best_13 : decode cX7_best 13 = .ok (.invokevirtual 66, 3) := by decide +kernel
theorem dX7_best_16 : decode cX7_best 16 = .ok (.ireturn, 1) := by decide +kernel
theorem dX7_best_17 : decode cX7_best 17 = .ok (.iload_n 2, 1) := by decide +kernel
theorem dX7_best_18 : decode cX7_best 18 = .ok (.iconst (-1), 1) := by decide +kernel
theorem dX7_best_19 : decode cX7_best 19 = .ok (.if_icmp .ge 10, 3) := by decide +kernel
theorem dX7_best_22 : decode cX7_best 22 = .ok (.aload_n 0, 1) := by decide +kernel
theorem dX7_best_23 : decode cX7_best 23 = .ok (.bipush (-4), 2) := by decide +kernel
theorem dX7_best_25 : decode cX7_best 25 = .ok (.invokevirtual 66, 3) := by decide +kernel
theorem dX7_best_28 : decode cX7_best 28 = .ok (.ireturn, 1) := by decide +kernel
theorem dX7_best_29 : decode cX7_best 29 = .ok (.aload_n 0, 1) := by decide +kernel
theorem dX7_best_30 : decode cX7_best 30 = .ok (.getfield 19, 3) := by decide +kernel
theorem dX7_best_33 : decode cX7_best 33 = .ok (.getfield 174, 3) := by decide +kernel
theorem dX7_best_36 : decode cX7_best 36 = .ok (.ifCond .ne 6, 3) := by decide +kernel
theorem dX7_best_39 : decode cX7_best 39 = .ok (.bipush (-9), 2) := by decide +kernel
theorem dX7_best_41 : decode cX7_best 41 = .ok (.ireturn, 1) := by decide +kernel
theorem dX7_best_42 : decode cX7_best 42 = .ok (.aload_n 0, 1) := by decide +kernel
theorem dX7_best_43 : decode cX7_best 43 = .ok (.getfield 19, 3) := by decide +kernel
theorem dX7_best_46 : decode cX7_best 46 = .ok (.getfield 155, 3) := by decide +kernel
theorem dX7_best_49 : decode cX7_best 49 = .ok (.iload_n 1, 1) := by decide +kernel
theorem dX7_best_50 : decode cX7_best 50 = .ok (.iaload, 1) := by decide +kernel
theorem dX7_best_51 : decode cX7_best 51 = .ok (.istore_n 3, 1) := by decide +kernel
theorem dX7_best_52 : decode cX7_best 52 = .ok (.iload_n 2, 1) := by decide +kernel
theorem dX7_best_53 : decode cX7_best 53 = .ok (.iconst (-1), 1) := by decide +kernel
theorem dX7_best_54 : decode cX7_best 54 = .ok (.if_icmp .ne 19, 3) := by decide +kernel
theorem dX7_best_57 : decode cX7_best 57 = .ok (.aload_n 0, 1) := by decide +kernel
theorem dX7_best_58 : decode cX7_best 58 = .ok (.getfield 48, 3) := by decide +kernel
theorem dX7_best_61 : decode cX7_best 61 = .ok (.iload_n 3, 1) := by decide +kernel
theorem dX7_best_62 : decode cX7_best 62 = .ok (.aload_n 0, 1) := by decide +kernel
theorem dX7_best_63 : decode cX7_best 63 = .ok (.getfield 19, 3) := by decide +kernel
theorem dX7_best_66 : decode cX7_best 66 = .ok (.getfield 115, 3) := by decide +kernel
theorem dX7_best_69 : decode cX7_best 69 = .ok (.invokevirtual 177, 3) := by decide +kernel
theorem dX7_best_72 : decode cX7_best 72 = .ok (.ireturn, 1) := by decide +kernel
theorem dX7_best_73 : decode cX7_best 73 = .ok (.aload_n 0, 1) := by decide +kernel
theorem dX7_best_74 : decode cX7_best 74 = .ok (.aload_n 0, 1) := by decide +kernel
theorem dX7_best_75 : decode cX7_best 75 = .ok (.getfield 48, 3) := by decide +kernel
theorem dX7_best_78 : decode cX7_best 78 = .ok (.iload_n 3, 1) := by decide +kernel
theorem dX7_best_79 : decode cX7_best 79 = .ok (.aload_n 0, 1) := by decide +kernel
theorem dX7_best_80 : decode cX7_best 80 = .ok (.getfield 19, 3) := by decide +kernel
theorem dX7_best_83 : decode cX7_best 83 = .ok (.getfield 115, 3) := by decide +kernel
theorem dX7_best_86 : decode cX7_best 86 = .ok (.invokevirtual 180, 3) := by decide +kernel
theorem dX7_best_89 : decode cX7_best 89 = .ok (.iload_n 2, 1) := by decide +kernel
theorem dX7_best_90 : decode cX7_best 90 = .ok (.iconst 1, 1) := by decide +kernel
theorem dX7_best_91 : decode cX7_best 91 = .ok (.isub, 1) := by decide +kernel
theorem dX7_best_92 : decode cX7_best 92 = .ok (.invokevirtual 162, 3) := by decide +kernel
theorem dX7_best_95 : decode cX7_best 95 = .ok (.ireturn, 1) := by decide +kernel
theorem dX7_force_0 : decode cX7_force 0 = .ok (.iload_n 1, 1) := by decide +kernel
theorem dX7_force_1 : decode cX7_force 1 = .ok (.invokestatic 142, 3) := by decide +kernel
theorem dX7_force_4 : decode cX7_force 4 = .ok (.ifCond .ne 9, 3) := by decide +kernel
theorem dX7_force_7 : decode cX7_force 7 = .ok (.aload_n 0, 1) := by decide +kernel
theorem dX7_force_8 : decode cX7_force 8 = .ok (.iconst (-1), 1) := by decide +kernel
theorem dX7_force_9 : decode cX7_force 9 = .ok (.invokevirtual 66, 3) := by decide +kernel
theorem dX7_force_12 : decode cX7_force 12 = .ok (.ireturn, 1) := by decide +kernel
theorem dX7_force_13 : decode cX7_force 13 = .ok (.iload_n 2, 1) := by decide +kernel
theorem dX7_force_14 : decode cX7_force 14 = .ok (.iconst (-1), 1) := by decide +kernel
theorem dX7_force_15 : decode cX7_force 15 = .ok (.if_icmp .ge 10, 3) := by decide +kernel
theorem dX7_force_18 : decode cX7_force 18 = .ok (.aload_n 0, 1) := by decide +kernel
theorem dX7_force_19 : decode cX7_force 19 = .ok (.bipush (-4), 2) := by decide +kernel
theorem dX7_force_21 : decode cX7_force 21 = .ok (.invokevirtual 66, 3) := by decide +kernel
theorem dX7_force_24 : decode cX7_force 24 = .ok (.ireturn, 1) := by decide +kernel
theorem dX7_force_25 : decode cX7_force 25 = .ok (.aload_n 0, 1) := by decide +kernel
theorem dX7_force_26 : decode cX7_force 26 = .ok (.getfield 48, 3) := by decide +kernel
theorem dX7_force_29 : decode cX7_force 29 = .ok (.iload_n 1, 1) := by decide +kernel
theorem dX7_force_30 : decode cX7_force 30 = .ok (.invokevirtual 183, 3) := by decide +kernel
theorem dX7_force_33 : decode cX7_force 33 = .ok (.istore_n 3, 1) := by decide +kernel
theorem dX7_force_34 : decode cX7_force 34 = .ok (.iload_n 3, 1) := by decide +kernel
theorem dX7_force_35 : decode cX7_force 35 = .ok (.ifCond .ge 8, 3) := by decide +kernel
theorem dX7_force_38 : decode cX7_force 38 = .ok (.bipush (-9), 2) := by decide +kernel
theorem dX7_force_40 : decode cX7_force 40 = .ok (.goto 9, 3) := by decide +kernel
theorem dX7_force_43 : decode cX7_force 43 = .ok (.aload_n 0, 1) := by decide +kernel
theorem dX7_force_44 : decode cX7_force 44 = .ok (.iload_n 3, 1) := by decide +kernel
theorem dX7_force_45 : decode cX7_force 45 = .ok (.iload_n 2, 1) := by decide +kernel
theorem dX7_force_46 : decode cX7_force 46 = .ok (.invokevirtual 162, 3) := by decide +kernel
theorem dX7_force_49 : decode cX7_force 49 = .ok (.ireturn, 1) := by decide +kernel
theorem dX7_told_0 : decode cX7_told 0 = .ok (.aload_n 0, 1) := by decide +kernel
theorem dX7_told_1 : decode cX7_told 1 = .ok (.aload_n 0, 1) := by decide +kernel
theorem dX7_told_2 : decode cX7_told 2 = .ok (.getfield 33, 3) := by decide +kernel
theorem dX7_told_5 : decode cX7_told 5 = .ok (.iload_n 1, 1) := by decide +kernel
theorem dX7_told_6 : decode cX7_told 6 = .ok (.invokevirtual 118, 3) := by decide +kernel
theorem dX7_told_9 : decode cX7_told 9 = .ok (.ireturn, 1) := by decide +kernel
theorem dX7_meant_0 : decode cX7_meant 0 = .ok (.aload_n 0, 1) := by decide +kernel
theorem dX7_meant_1 : decode cX7_meant 1 = .ok (.getfield 19, 3) := by decide +kernel
theorem dX7_meant_4 : decode cX7_meant 4 = .ok (.iload_n 1, 1) := by decide +kernel
theorem dX7_meant_5 : decode cX7_meant 5 = .ok (.invokevirtual 149, 3) := by decide +kernel
theorem dX7_meant_8 : decode cX7_meant 8 = .ok (.ifCond .ne 9, 3) := by decide +kernel
theorem dX7_meant_11 : decode cX7_meant 11 = .ok (.aload_n 0, 1) := by decide +kernel
theorem dX7_meant_12 : decode cX7_meant 12 = .ok (.iconst (-1), 1) := by decide +kernel
theorem dX7_meant_13 : decode cX7_meant 13 = .ok (.invokevirtual 66, 3) := by decide +kernel
theorem dX7_meant_16 : decode cX7_meant 16 = .ok (.ireturn, 1) := by decide +kernel
theorem dX7_meant_17 : decode cX7_meant 17 = .ok (.aload_n 0, 1) := by decide +kernel
theorem dX7_meant_18 : decode cX7_meant 18 = .ok (.getfield 48, 3) := by decide +kernel
theorem dX7_meant_21 : decode cX7_meant 21 = .ok (.aload_n 0, 1) := by decide +kernel
theorem dX7_meant_22 : decode cX7_meant 22 = .ok (.getfield 33, 3) := by decide +kernel
theorem dX7_meant_25 : decode cX7_meant 25 = .ok (.invokevirtual 186, 3) := by decide +kernel
theorem dX7_meant_28 : decode cX7_meant 28 = .ok (.istore_n 2, 1) := by decide +kernel
theorem dX7_meant_29 : decode cX7_meant 29 = .ok (.aload_n 0, 1) := by decide +kernel
theorem dX7_meant_30 : decode cX7_meant 30 = .ok (.getfield 33, 3) := by decide +kernel
theorem dX7_meant_33 : decode cX7_meant 33 = .ok (.iconst 0, 1) := by decide +kernel
theorem dX7_meant_34 : decode cX7_meant 34 = .ok (.putfield 190, 3) := by decide +kernel
theorem dX7_meant_37 : decode cX7_meant 37 = .ok (.aload_n 0, 1) := by decide +kernel
theorem dX7_meant_38 : decode cX7_meant 38 = .ok (.aload_n 0, 1) := by decide +kernel
theorem dX7_meant_39 : decode cX7_meant 39 = .ok (.getfield 48, 3) := by decide +kernel
theorem dX7_meant_42 : decode cX7_meant 42 = .ok (.iload_n 2, 1) := by decide +kernel
theorem dX7_meant_43 : decode cX7_meant 43 = .ok (.aload_n 0, 1) := by decide +kernel
theorem dX7_meant_44 : decode cX7_meant 44 = .ok (.invokevirtual 122, 3) := by decide +kernel
theorem dX7_meant_47 : decode cX7_meant 47 = .ok (.aload_n 0, 1) := by decide +kernel
theorem dX7_meant_48 : decode cX7_meant 48 = .ok (.getfield 19, 3) := by decide +kernel
theorem dX7_meant_51 : decode cX7_meant 51 = .ok (.getfield 155, 3) := by decide +kernel
theorem dX7_meant_54 : decode cX7_meant 54 = .ok (.iload_n 1, 1) := by decide +kernel
theorem dX7_meant_55 : decode cX7_meant 55 = .ok (.iaload, 1) := by decide +kernel
theorem dX7_meant_56 : decode cX7_meant 56 = .ok (.invokevirtual 191, 3) := by decide +kernel
theorem dX7_meant_59 : decode cX7_meant 59 = .ok (.putfield 194, 3) := by decide +kernel
theorem dX7_meant_62 : decode cX7_meant 62 = .ok (.aload_n 0, 1) := by decide +kernel
theorem dX7_meant_63 : decode cX7_meant 63 = .ok (.getfield 194, 3) := by decide +kernel
theorem dX7_meant_66 : decode cX7_meant 66 = .ok (.ireturn, 1) := by decide +kernel
theorem dX7_chance_0 : decode cX7_chance 0 = .ok (.iload_n 1, 1) := by decide +kernel
theorem dX7_chance_1 : decode cX7_chance 1 = .ok (.invokestatic 103, 3) := by decide +kernel
theorem dX7_chance_4 : decode cX7_chance 4 = .ok (.ifCond .ne 9, 3) := by decide +kernel
theorem dX7_chance_7 : decode cX7_chance 7 = .ok (.aload_n 0, 1) := by decide +kernel
theorem dX7_chance_8 : decode cX7_chance 8 = .ok (.iconst (-1), 1) := by decide +kernel
theorem dX7_chance_9 : decode cX7_chance 9 = .ok (.invokevirtual 66, 3) := by decide +kernel
theorem dX7_chance_12 : decode cX7_chance 12 = .ok (.ireturn, 1) := by decide +kernel
theorem dX7_chance_13 : decode cX7_chance 13 = .ok (.iload_n 2, 1) := by decide +kernel
theorem dX7_chance_14 : decode cX7_chance 14 = .ok (.ifCond .eq 15, 3) := by decide +kernel
theorem dX7_chance_17 : decode cX7_chance 17 = .ok (.iload_n 2, 1) := by decide +kernel
theorem dX7_chance_18 : decode cX7_chance 18 = .ok (.iconst 1, 1) := by decide +kernel
theorem dX7_chance_19 : decode cX7_chance 19 = .ok (.if_icmp .eq 10, 3) := by decide +kernel
theorem dX7_chance_22 : decode cX7_chance 22 = .ok (.aload_n 0, 1) := by decide +kernel
theorem dX7_chance_23 : decode cX7_chance 23 = .ok (.bipush (-2), 2) := by decide +kernel
theorem dX7_chance_25 : decode cX7_chance 25 = .ok (.invokevirtual 66, 3) := by decide +kernel
theorem dX7_chance_28 : decode cX7_chance 28 = .ok (.ireturn, 1) := by decide +kernel
theorem dX7_chance_29 : decode cX7_chance 29 = .ok (.aload_n 0, 1) := by decide +kernel
theorem dX7_chance_30 : decode cX7_chance 30 = .ok (.getfield 194, 3) := by decide +kernel
theorem dX7_chance_33 : decode cX7_chance 33 = .ok (.iload_n 1, 1) := by decide +kernel
theorem dX7_chance_34 : decode cX7_chance 34 = .ok (.ishr, 1) := by decide +kernel
theorem dX7_chance_35 : decode cX7_chance 35 = .ok (.iconst 1, 1) := by decide +kernel
theorem dX7_chance_36 : decode cX7_chance 36 = .ok (.iand, 1) := by decide +kernel
theorem dX7_chance_37 : decode cX7_chance 37 = .ok (.ifCond .ne 7, 3) := by decide +kernel
theorem dX7_chance_40 : decode cX7_chance 40 = .ok (.iconst 0, 1) := by decide +kernel
theorem dX7_chance_41 : decode cX7_chance 41 = .ok (.goto 12, 3) := by decide +kernel
theorem dX7_chance_44 : decode cX7_chance 44 = .ok (.aload_n 0, 1) := by decide +kernel
theorem dX7_chance_45 : decode cX7_chance 45 = .ok (.getfield 19, 3) := by decide +kernel
theorem dX7_chance_48 : decode cX7_chance 48 = .ok (.getfield 106, 3) := by decide +kernel
theorem dX7_chance_51 : decode cX7_chance 51 = .ok (.iload_n 1, 1) := by decide +kernel
theorem dX7_chance_52 : decode cX7_chance 52 = .ok (.iaload, 1) := by decide +kernel
theorem dX7_chance_53 : decode cX7_chance 53 = .ok (.istore_n 3, 1) := by decide +kernel
theorem dX7_chance_54 : decode cX7_chance 54 = .ok (.iload_n 3, 1) := by decide +kernel
theorem dX7_chance_55 : decode cX7_chance 55 = .ok (.ifCond .ne 5, 3) := by decide +kernel
theorem dX7_chance_58 : decode cX7_chance 58 = .ok (.iload_n 2, 1) := by decide +kernel
theorem dX7_chance_59 : decode cX7_chance 59 = .ok (.ireturn, 1) := by decide +kernel
theorem dX7_chance_60 : decode cX7_chance 60 = .ok (.aload_n 0, 1) := by decide +kernel
theorem dX7_chance_61 : decode cX7_chance 61 = .ok (.getfield 19, 3) := by decide +kernel
theorem dX7_chance_64 : decode cX7_chance 64 = .ok (.aload_n 0, 1) := by decide +kernel
theorem dX7_chance_65 : decode cX7_chance 65 = .ok (.getfield 194, 3) := by decide +kernel
theorem dX7_chance_68 : decode cX7_chance 68 = .ok (.invokevirtual 197, 3) := by decide +kernel
theorem dX7_chance_71 : decode cX7_chance 71 = .ok (.istore 4, 2) := by decide +kernel
theorem dX7_chance_73 : decode cX7_chance 73 = .ok (.iload 4, 2) := by decide +kernel
theorem dX7_chance_75 : decode cX7_chance 75 = .ok (.iload_n 3, 1) := by decide +kernel
theorem dX7_chance_76 : decode cX7_chance 76 = .ok (.invokestatic 200, 3) := by decide +kernel
theorem dX7_chance_79 : decode cX7_chance 79 = .ok (.istore 5, 2) := by decide +kernel
theorem dX7_chance_81 : decode cX7_chance 81 = .ok (.iload 5, 2) := by decide +kernel
theorem dX7_chance_83 : decode cX7_chance 83 = .ok (.ifCond .ne 5, 3) := by decide +kernel
theorem dX7_chance_86 : decode cX7_chance 86 = .ok (.iload_n 2, 1) := by decide +kernel
theorem dX7_chance_87 : decode cX7_chance 87 = .ok (.ireturn, 1) := by decide +kernel
theorem dX7_chance_88 : decode cX7_chance 88 = .ok (.iload_n 2, 1) := by decide +kernel
theorem dX7_chance_89 : decode cX7_chance 89 = .ok (.ifCond .ne 7, 3) := by decide +kernel
theorem dX7_chance_92 : decode cX7_chance 92 = .ok (.iload_n 3, 1) := by decide +kernel
theorem dX7_chance_93 : decode cX7_chance 93 = .ok (.goto 5, 3) := by decide +kernel
theorem dX7_chance_96 : decode cX7_chance 96 = .ok (.iload 4, 2) := by decide +kernel
theorem dX7_chance_98 : decode cX7_chance 98 = .ok (.iload 5, 2) := by decide +kernel
theorem dX7_chance_100 : decode cX7_chance 100 = .ok (.idiv, 1) := by decide +kernel
theorem dX7_chance_101 : decode cX7_chance 101 = .ok (.ireturn, 1) := by decide +kernel
theorem dX7_say_0 : decode cX7_say 0 = .ok (.aload_n 0, 1) := by decide +kernel
theorem dX7_say_1 : decode cX7_say 1 = .ok (.getfield 29, 3) := by decide +kernel
theorem dX7_say_4 : decode cX7_say 4 = .ok (.aload_n 0, 1) := by decide +kernel
theorem dX7_say_5 : decode cX7_say 5 = .ok (.getfield 19, 3) := by decide +kernel
theorem dX7_say_8 : decode cX7_say 8 = .ok (.invokevirtual 152, 3) := by decide +kernel
theorem dX7_say_11 : decode cX7_say 11 = .ok (.istore_n 1, 1) := by decide +kernel
theorem dX7_say_12 : decode cX7_say 12 = .ok (.aload_n 0, 1) := by decide +kernel
theorem dX7_say_13 : decode cX7_say 13 = .ok (.getfield 39, 3) := by decide +kernel
theorem dX7_say_16 : decode cX7_say 16 = .ok (.getfield 203, 3) := by decide +kernel
theorem dX7_say_19 : decode cX7_say 19 = .ok (.ifCond .le 31, 3) := by decide +kernel
theorem dX7_say_22 : decode cX7_say 22 = .ok (.aload_n 0, 1) := by decide +kernel
theorem dX7_say_23 : decode cX7_say 23 = .ok (.getfield 19, 3) := by decide +kernel
theorem dX7_say_26 : decode cX7_say 26 = .ok (.getfield 115, 3) := by decide +kernel
theorem dX7_say_29 : decode cX7_say 29 = .ok (.iload_n 1, 1) := by decide +kernel
theorem dX7_say_30 : decode cX7_say 30 = .ok (.aload_n 0, 1) := by decide +kernel
theorem dX7_say_31 : decode cX7_say 31 = .ok (.getfield 39, 3) := by decide +kernel
theorem dX7_say_34 : decode cX7_say 34 = .ok (.invokevirtual 204, 3) := by decide +kernel
theorem dX7_say_37 : decode cX7_say 37 = .ok (.invokestatic 134, 3) := by decide +kernel
theorem dX7_say_40 : decode cX7_say 40 = .ok (.ifCond .ne 10, 3) := by decide +kernel
theorem dX7_say_43 : decode cX7_say 43 = .ok (.aload_n 0, 1) := by decide +kernel
theorem dX7_say_44 : decode cX7_say 44 = .ok (.bipush (-3), 2) := by decide +kernel
theorem dX7_say_46 : decode cX7_say 46 = .ok (.invokevirtual 66, 3) := by decide +kernel
theorem dX7_say_49 : decode cX7_say 49 = .ok (.ireturn, 1) := by decide +kernel
theorem dX7_say_50 : decode cX7_say 50 = .ok (.aload_n 0, 1) := by decide +kernel
theorem dX7_say_51 : decode cX7_say 51 = .ok (.getfield 39, 3) := by decide +kernel
theorem dX7_say_54 : decode cX7_say 54 = .ok (.getfield 203, 3) := by decide +kernel
theorem dX7_say_57 : decode cX7_say 57 = .ok (.bipush 12, 2) := by decide +kernel
theorem dX7_say_59 : decode cX7_say 59 = .ok (.if_icmp .lt 10, 3) := by decide +kernel
theorem dX7_say_62 : decode cX7_say 62 = .ok (.aload_n 0, 1) := by decide +kernel
theorem dX7_say_63 : decode cX7_say 63 = .ok (.bipush (-6), 2) := by decide +kernel
theorem dX7_say_65 : decode cX7_say 65 = .ok (.invokevirtual 66, 3) := by decide +kernel
theorem dX7_say_68 : decode cX7_say 68 = .ok (.ireturn, 1) := by decide +kernel
theorem dX7_say_69 : decode cX7_say 69 = .ok (.aload_n 0, 1) := by decide +kernel
theorem dX7_say_70 : decode cX7_say 70 = .ok (.getfield 29, 3) := by decide +kernel
theorem dX7_say_73 : decode cX7_say 73 = .ok (.iconst 0, 1) := by decide +kernel
theorem dX7_say_74 : decode cX7_say 74 = .ok (.putfield 190, 3) := by decide +kernel
theorem dX7_say_77 : decode cX7_say 77 = .ok (.aload_n 0, 1) := by decide +kernel
theorem dX7_say_78 : decode cX7_say 78 = .ok (.getfield 39, 3) := by decide +kernel
theorem dX7_say_81 : decode cX7_say 81 = .ok (.iload_n 1, 1) := by decide +kernel
theorem dX7_say_82 : decode cX7_say 82 = .ok (.invokevirtual 207, 3) := by decide +kernel
theorem dX7_say_85 : decode cX7_say 85 = .ok (.aload_n 0, 1) := by decide +kernel
theorem dX7_say_86 : decode cX7_say 86 = .ok (.getfield 39, 3) := by decide +kernel
theorem dX7_say_89 : decode cX7_say 89 = .ok (.getfield 203, 3) := by decide +kernel
theorem dX7_say_92 : decode cX7_say 92 = .ok (.ireturn, 1) := by decide +kernel
theorem dX7_saying_0 : decode cX7_saying 0 = .ok (.iload_n 1, 1) := by decide +kernel
theorem dX7_saying_1 : decode cX7_saying 1 = .ok (.ifCond .lt 14, 3) := by decide +kernel
theorem dX7_saying_4 : decode cX7_saying 4 = .ok (.iload_n 1, 1) := by decide +kernel
theorem dX7_saying_5 : decode cX7_saying 5 = .ok (.aload_n 0, 1) := by decide +kernel
theorem dX7_saying_6 : decode cX7_saying 6 = .ok (.getfield 39, 3) := by decide +kernel
theorem dX7_saying_9 : decode cX7_saying 9 = .ok (.getfield 203, 3) := by decide +kernel
theorem dX7_saying_12 : decode cX7_saying 12 = .ok (.if_icmp .lt 9, 3) := by decide +kernel
theorem dX7_saying_15 : decode cX7_saying 15 = .ok (.aload_n 0, 1) := by decide +kernel
theorem dX7_saying_16 : decode cX7_saying 16 = .ok (.iconst (-1), 1) := by decide +kernel
theorem dX7_saying_17 : decode cX7_saying 17 = .ok (.invokevirtual 66, 3) := by decide +kernel
theorem dX7_saying_20 : decode cX7_saying 20 = .ok (.ireturn, 1) := by decide +kernel
theorem dX7_saying_21 : decode cX7_saying 21 = .ok (.aload_n 0, 1) := by decide +kernel
theorem dX7_saying_22 : decode cX7_saying 22 = .ok (.getfield 39, 3) := by decide +kernel
theorem dX7_saying_25 : decode cX7_saying 25 = .ok (.getfield 208, 3) := by decide +kernel
theorem dX7_saying_28 : decode cX7_saying 28 = .ok (.iload_n 1, 1) := by decide +kernel
theorem dX7_saying_29 : decode cX7_saying 29 = .ok (.iaload, 1) := by decide +kernel
theorem dX7_saying_30 : decode cX7_saying 30 = .ok (.istore_n 3, 1) := by decide +kernel
theorem dX7_saying_31 : decode cX7_saying 31 = .ok (.iload_n 2, 1) := by decide +kernel
theorem dX7_saying_32 : decode cX7_saying 32 = .ok (.tableswitch 43 0 2 #[28, 33, 38], 28) := by decide +kernel
theorem dX7_saying_60 : decode cX7_saying 60 = .ok (.iload_n 3, 1) := by decide +kernel
theorem dX7_saying_61 : decode cX7_saying 61 = .ok (.invokestatic 211, 3) := by decide +kernel
theorem dX7_saying_64 : decode cX7_saying 64 = .ok (.ireturn, 1) := by decide +kernel
theorem dX7_saying_65 : decode cX7_saying 65 = .ok (.iload_n 3, 1) := by decide +kernel
theorem dX7_saying_66 : decode cX7_saying 66 = .ok (.invokestatic 125, 3) := by decide +kernel
theorem dX7_saying_69 : decode cX7_saying 69 = .ok (.ireturn, 1) := by decide +kernel
theorem dX7_saying_70 : decode cX7_saying 70 = .ok (.iload_n 3, 1) := by decide +kernel
theorem dX7_saying_71 : decode cX7_saying 71 = .ok (.invokestatic 214, 3) := by decide +kernel
theorem dX7_saying_74 : decode cX7_saying 74 = .ok (.ireturn, 1) := by decide +kernel
theorem dX7_saying_75 : decode cX7_saying 75 = .ok (.aload_n 0, 1) := by decide +kernel
theorem dX7_saying_76 : decode cX7_saying 76 = .ok (.bipush (-2), 2) := by decide +kernel
theorem dX7_saying_78 : decode cX7_saying 78 = .ok (.invokevirtual 66, 3) := by decide +kernel
theorem dX7_saying_81 : decode cX7_saying 81 = .ok (.ireturn, 1) := by decide +kernel
theorem dX7_known_0 : decode cX7_known 0 = .ok (.aload_n 0, 1) := by decide +kernel
theorem dX7_known_1 : decode cX7_known 1 = .ok (.getfield 39, 3) := by decide +kernel
theorem dX7_known_4 : decode cX7_known 4 = .ok (.invokevirtual 217, 3) := by decide +kernel
theorem dX7_known_7 : decode cX7_known 7 = .ok (.ireturn, 1) := by decide +kernel
theorem dX7_silence_0 : decode cX7_silence 0 = .ok (.aload_n 0, 1) := by decide +kernel
theorem dX7_silence_1 : decode cX7_silence 1 = .ok (.getfield 39, 3) := by decide +kernel
theorem dX7_silence_4 : decode cX7_silence 4 = .ok (.getfield 203, 3) := by decide +kernel
theorem dX7_silence_7 : decode cX7_silence 7 = .ok (.istore_n 1, 1) := by decide +kernel
theorem dX7_silence_8 : decode cX7_silence 8 = .ok (.aload_n 0, 1) := by decide +kernel
theorem dX7_silence_9 : decode cX7_silence 9 = .ok (.getfield 39, 3) := by decide +kernel
theorem dX7_silence_12 : decode cX7_silence 12 = .ok (.iconst 0, 1) := by decide +kernel
theorem dX7_silence_13 : decode cX7_silence 13 = .ok (.putfield 203, 3) := by decide +kernel
theorem dX7_silence_16 : decode cX7_silence 16 = .ok (.iload_n 1, 1) := by decide +kernel
theorem dX7_silence_17 : decode cX7_silence 17 = .ok (.ireturn, 1) := by decide +kernel
theorem dX7_longest_0 : decode cX7_longest 0 = .ok (.iload_n 1, 1) := by decide +kernel
theorem dX7_longest_1 : decode cX7_longest 1 = .ok (.iconst 1, 1) := by decide +kernel
theorem dX7_longest_2 : decode cX7_longest 2 = .ok (.if_icmp .ge 10, 3) := by decide +kernel
theorem dX7_longest_5 : decode cX7_longest 5 = .ok (.aload_n 0, 1) := by decide +kernel
theorem dX7_longest_6 : decode cX7_longest 6 = .ok (.bipush (-4), 2) := by decide +kernel
theorem dX7_longest_8 : decode cX7_longest 8 = .ok (.invokevirtual 66, 3) := by decide +kernel
theorem dX7_longest_11 : decode cX7_longest 11 = .ok (.ireturn, 1) := by decide +kernel
theorem dX7_longest_12 : decode cX7_longest 12 = .ok (.iload_n 1, 1) := by decide +kernel
theorem dX7_longest_13 : decode cX7_longest 13 = .ok (.bipush 6, 2) := by decide +kernel
theorem dX7_longest_15 : decode cX7_longest 15 = .ok (.if_icmp .le 10, 3) := by decide +kernel
theorem dX7_longest_18 : decode cX7_longest 18 = .ok (.aload_n 0, 1) := by decide +kernel
theorem dX7_longest_19 : decode cX7_longest 19 = .ok (.bipush (-6), 2) := by decide +kernel
theorem dX7_longest_21 : decode cX7_longest 21 = .ok (.invokevirtual 66, 3) := by decide +kernel
theorem dX7_longest_24 : decode cX7_longest 24 = .ok (.ireturn, 1) := by decide +kernel
theorem dX7_longest_25 : decode cX7_longest 25 = .ok (.aload_n 0, 1) := by decide +kernel
theorem dX7_longest_26 : decode cX7_longest 26 = .ok (.getfield 19, 3) := by decide +kernel
theorem dX7_longest_29 : decode cX7_longest 29 = .ok (.getfield 115, 3) := by decide +kernel
theorem dX7_longest_32 : decode cX7_longest 32 = .ok (.iload_n 1, 1) := by decide +kernel
theorem dX7_longest_33 : decode cX7_longest 33 = .ok (.iconst 1, 1) := by decide +kernel
theorem dX7_longest_34 : decode cX7_longest 34 = .ok (.invokestatic 220, 3) := by decide +kernel
theorem dX7_longest_37 : decode cX7_longest 37 = .ok (.ireturn, 1) := by decide +kernel
theorem dX7_last_0 : decode cX7_last 0 = .ok (.iload_n 1, 1) := by decide +kernel
theorem dX7_last_1 : decode cX7_last 1 = .ok (.iconst 1, 1) := by decide +kernel
theorem dX7_last_2 : decode cX7_last 2 = .ok (.if_icmp .ge 10, 3) := by decide +kernel
theorem dX7_last_5 : decode cX7_last 5 = .ok (.aload_n 0, 1) := by decide +kernel
theorem dX7_last_6 : decode cX7_last 6 = .ok (.bipush (-4), 2) := by decide +kernel
theorem dX7_last_8 : decode cX7_last 8 = .ok (.invokevirtual 66, 3) := by decide +kernel
theorem dX7_last_11 : decode cX7_last 11 = .ok (.ireturn, 1) := by decide +kernel
theorem dX7_last_12 : decode cX7_last 12 = .ok (.iload_n 1, 1) := by decide +kernel
theorem dX7_last_13 : decode cX7_last 13 = .ok (.bipush 6, 2) := by decide +kernel
theorem dX7_last_15 : decode cX7_last 15 = .ok (.if_icmp .le 10, 3) := by decide +kernel
theorem dX7_last_18 : decode cX7_last 18 = .ok (.aload_n 0, 1) := by decide +kernel
theorem dX7_last_19 : decode cX7_last 19 = .ok (.bipush (-6), 2) := by decide +kernel
theorem dX7_last_21 : decode cX7_last 21 = .ok (.invokevirtual 66, 3) := by decide +kernel
theorem dX7_last_24 : decode cX7_last 24 = .ok (.ireturn, 1) := by decide +kernel
theorem dX7_last_25 : decode cX7_last 25 = .ok (.aload_n 0, 1) := by decide +kernel
theorem dX7_last_26 : decode cX7_last 26 = .ok (.getfield 19, 3) := by decide +kernel
theorem dX7_last_29 : decode cX7_last 29 = .ok (.getfield 115, 3) := by decide +kernel
theorem dX7_last_32 : decode cX7_last 32 = .ok (.iload_n 1, 1) := by decide +kernel
theorem dX7_last_33 : decode cX7_last 33 = .ok (.iconst 1, 1) := by decide +kernel
theorem dX7_last_34 : decode cX7_last 34 = .ok (.invokestatic 220, 3) := by decide +kernel
theorem dX7_last_37 : decode cX7_last 37 = .ok (.ifCond .ge 6, 3) := by decide +kernel
theorem dX7_last_40 : decode cX7_last 40 = .ok (.bipush (-9), 2) := by decide +kernel
theorem dX7_last_42 : decode cX7_last 42 = .ok (.ireturn, 1) := by decide +kernel
theorem dX7_last_43 : decode cX7_last 43 = .ok (.aload_n 0, 1) := by decide +kernel
theorem dX7_last_44 : decode cX7_last 44 = .ok (.getfield 19, 3) := by decide +kernel
theorem dX7_last_47 : decode cX7_last 47 = .ok (.getfield 115, 3) := by decide +kernel
theorem dX7_last_50 : decode cX7_last 50 = .ok (.iload_n 1, 1) := by decide +kernel
theorem dX7_last_51 : decode cX7_last 51 = .ok (.iconst 1, 1) := by decide +kernel
theorem dX7_last_52 : decode cX7_last 52 = .ok (.invokestatic 223, 3) := by decide +kernel
theorem dX7_last_55 : decode cX7_last 55 = .ok (.invokestatic 138, 3) := by decide +kernel
theorem dX7_last_58 : decode cX7_last 58 = .ok (.ireturn, 1) := by decide +kernel
theorem dX7_idle_0 : decode cX7_idle 0 = .ok (.aload_n 0, 1) := by decide +kernel
theorem dX7_idle_1 : decode cX7_idle 1 = .ok (.getfield 19, 3) := by decide +kernel
theorem dX7_idle_4 : decode cX7_idle 4 = .ok (.iload_n 1, 1) := by decide +kernel
theorem dX7_idle_5 : decode cX7_idle 5 = .ok (.invokevirtual 149, 3) := by decide +kernel
theorem dX7_idle_8 : decode cX7_idle 8 = .ok (.ifCond .ne 12, 3) := by decide +kernel
theorem dX7_idle_11 : decode cX7_idle 11 = .ok (.ldc 226, 2) := by decide +kernel
theorem dX7_idle_13 : decode cX7_idle 13 = .ok (.aload_n 0, 1) := by decide +kernel
theorem dX7_idle_14 : decode cX7_idle 14 = .ok (.iconst (-1), 1) := by decide +kernel
theorem dX7_idle_15 : decode cX7_idle 15 = .ok (.invokevirtual 66, 3) := by decide +kernel
theorem dX7_idle_18 : decode cX7_idle 18 = .ok (.isub, 1) := by decide +kernel
theorem dX7_idle_19 : decode cX7_idle 19 = .ok (.ireturn, 1) := by decide +kernel
theorem dX7_idle_20 : decode cX7_idle 20 = .ok (.aload_n 0, 1) := by decide +kernel
theorem dX7_idle_21 : decode cX7_idle 21 = .ok (.getfield 19, 3) := by decide +kernel
theorem dX7_idle_24 : decode cX7_idle 24 = .ok (.getfield 174, 3) := by decide +kernel
theorem dX7_idle_27 : decode cX7_idle 27 = .ok (.ifCond .eq 15, 3) := by decide +kernel
theorem dX7_idle_30 : decode cX7_idle 30 = .ok (.aload_n 0, 1) := by decide +kernel
theorem dX7_idle_31 : decode cX7_idle 31 = .ok (.getfield 19, 3) := by decide +kernel
theorem dX7_idle_34 : decode cX7_idle 34 = .ok (.getfield 174, 3) := by decide +kernel
theorem dX7_idle_37 : decode cX7_idle 37 = .ok (.bipush 8, 2) := by decide +kernel
theorem dX7_idle_39 : decode cX7_idle 39 = .ok (.if_icmp .lt 13, 3) := by decide +kernel
theorem dX7_idle_42 : decode cX7_idle 42 = .ok (.ldc 226, 2) := by decide +kernel
theorem dX7_idle_44 : decode cX7_idle 44 = .ok (.aload_n 0, 1) := by decide +kernel
theorem dX7_idle_45 : decode cX7_idle 45 = .ok (.bipush (-3), 2) := by decide +kernel
theorem dX7_idle_47 : decode cX7_idle 47 = .ok (.invokevirtual 66, 3) := by decide +kernel
theorem dX7_idle_50 : decode cX7_idle 50 = .ok (.isub, 1) := by decide +kernel
theorem dX7_idle_51 : decode cX7_idle 51 = .ok (.ireturn, 1) := by decide +kernel
theorem dX7_idle_52 : decode cX7_idle 52 = .ok (.aload_n 0, 1) := by decide +kernel
theorem dX7_idle_53 : decode cX7_idle 53 = .ok (.getfield 19, 3) := by decide +kernel
theorem dX7_idle_56 : decode cX7_idle 56 = .ok (.getfield 155, 3) := by decide +kernel
theorem dX7_idle_59 : decode cX7_idle 59 = .ok (.iload_n 1, 1) := by decide +kernel
theorem dX7_idle_60 : decode cX7_idle 60 = .ok (.iaload, 1) := by decide +kernel
theorem dX7_idle_61 : decode cX7_idle 61 = .ok (.istore_n 2, 1) := by decide +kernel
theorem dX7_idle_62 : decode cX7_idle 62 = .ok (.aload_n 0, 1) := by decide +kernel
theorem dX7_idle_63 : decode cX7_idle 63 = .ok (.getfield 48, 3) := by decide +kernel
theorem dX7_idle_66 : decode cX7_idle 66 = .ok (.iload_n 2, 1) := by decide +kernel
theorem dX7_idle_67 : decode cX7_idle 67 = .ok (.aload_n 0, 1) := by decide +kernel
theorem dX7_idle_68 : decode cX7_idle 68 = .ok (.getfield 19, 3) := by decide +kernel
theorem dX7_idle_71 : decode cX7_idle 71 = .ok (.getfield 115, 3) := by decide +kernel
theorem dX7_idle_74 : decode cX7_idle 74 = .ok (.invokevirtual 177, 3) := by decide +kernel
theorem dX7_idle_77 : decode cX7_idle 77 = .ok (.aload_n 0, 1) := by decide +kernel
theorem dX7_idle_78 : decode cX7_idle 78 = .ok (.getfield 52, 3) := by decide +kernel
theorem dX7_idle_81 : decode cX7_idle 81 = .ok (.iload_n 2, 1) := by decide +kernel
theorem dX7_idle_82 : decode cX7_idle 82 = .ok (.aload_n 0, 1) := by decide +kernel
theorem dX7_idle_83 : decode cX7_idle 83 = .ok (.getfield 19, 3) := by decide +kernel
theorem dX7_idle_86 : decode cX7_idle 86 = .ok (.getfield 115, 3) := by decide +kernel
theorem dX7_idle_89 : decode cX7_idle 89 = .ok (.invokevirtual 177, 3) := by decide +kernel
theorem dX7_idle_92 : decode cX7_idle 92 = .ok (.isub, 1) := by decide +kernel
theorem dX7_idle_93 : decode cX7_idle 93 = .ok (.ireturn, 1) := by decide +kernel
theorem dX7_under_0 : decode cX7_under 0 = .ok (.aload_n 0, 1) := by decide +kernel
theorem dX7_under_1 : decode cX7_under 1 = .ok (.getfield 19, 3) := by decide +kernel
theorem dX7_under_4 : decode cX7_under 4 = .ok (.iload_n 1, 1) := by decide +kernel
theorem dX7_under_5 : decode cX7_under 5 = .ok (.invokevirtual 149, 3) := by decide +kernel
theorem dX7_under_8 : decode cX7_under 8 = .ok (.ifCond .ne 9, 3) := by decide +kernel
theorem dX7_under_11 : decode cX7_under 11 = .ok (.aload_n 0, 1) := by decide +kernel
theorem dX7_under_12 : decode cX7_under 12 = .ok (.iconst (-1), 1) := by decide +kernel
theorem dX7_under_13 : decode cX7_under 13 = .ok (.invokevirtual 66, 3) := by decide +kernel
theorem dX7_under_16 : decode cX7_under 16 = .ok (.ireturn, 1) := by decide +kernel
theorem dX7_under_17 : decode cX7_under 17 = .ok (.iload_n 2, 1) := by decide +kernel
theorem dX7_under_18 : decode cX7_under 18 = .ok (.invokestatic 112, 3) := by decide +kernel
theorem dX7_under_21 : decode cX7_under 21 = .ok (.ifCond .ne 10, 3) := by decide +kernel
theorem dX7_under_24 : decode cX7_under 24 = .ok (.aload_n 0, 1) := by decide +kernel
theorem dX7_under_25 : decode cX7_under 25 = .ok (.bipush (-2), 2) := by decide +kernel
theorem dX7_under_27 : decode cX7_under 27 = .ok (.invokevirtual 66, 3) := by decide +kernel
theorem dX7_under_30 : decode cX7_under 30 = .ok (.ireturn, 1) := by decide +kernel
theorem dX7_under_31 : decode cX7_under 31 = .ok (.aload_n 0, 1) := by decide +kernel
theorem dX7_under_32 : decode cX7_under 32 = .ok (.getfield 19, 3) := by decide +kernel
theorem dX7_under_35 : decode cX7_under 35 = .ok (.getfield 174, 3) := by decide +kernel
theorem dX7_under_38 : decode cX7_under 38 = .ok (.ifCond .ne 8, 3) := by decide +kernel
theorem dX7_under_41 : decode cX7_under 41 = .ok (.bipush (-9), 2) := by decide +kernel
theorem dX7_under_43 : decode cX7_under 43 = .ok (.goto 20, 3) := by decide +kernel
theorem dX7_under_46 : decode cX7_under 46 = .ok (.aload_n 0, 1) := by decide +kernel
theorem dX7_under_47 : decode cX7_under 47 = .ok (.getfield 48, 3) := by decide +kernel
theorem dX7_under_50 : decode cX7_under 50 = .ok (.aload_n 0, 1) := by decide +kernel
theorem dX7_under_51 : decode cX7_under 51 = .ok (.getfield 19, 3) := by decide +kernel
theorem dX7_under_54 : decode cX7_under 54 = .ok (.getfield 155, 3) := by decide +kernel
theorem dX7_under_57 : decode cX7_under 57 = .ok (.iload_n 1, 1) := by decide +kernel
theorem dX7_under_58 : decode cX7_under 58 = .ok (.iaload, 1) := by decide +kernel
theorem dX7_under_59 : decode cX7_under 59 = .ok (.iload_n 2, 1) := by decide +kernel
theorem dX7_under_60 : decode cX7_under 60 = .ok (.invokevirtual 177, 3) := by decide +kernel
theorem dX7_under_63 : decode cX7_under 63 = .ok (.ireturn, 1) := by decide +kernel
theorem dX7_lots_0 : decode cX7_lots 0 = .ok (.aload_n 0, 1) := by decide +kernel
theorem dX7_lots_1 : decode cX7_lots 1 = .ok (.getfield 19, 3) := by decide +kernel
theorem dX7_lots_4 : decode cX7_lots 4 = .ok (.iload_n 1, 1) := by decide +kernel
theorem dX7_lots_5 : decode cX7_lots 5 = .ok (.invokevirtual 149, 3) := by decide +kernel
theorem dX7_lots_8 : decode cX7_lots 8 = .ok (.ifCond .ne 9, 3) := by decide +kernel
theorem dX7_lots_11 : decode cX7_lots 11 = .ok (.aload_n 0, 1) := by decide +kernel
theorem dX7_lots_12 : decode cX7_lots 12 = .ok (.iconst (-1), 1) := by decide +kernel
theorem dX7_lots_13 : decode cX7_lots 13 = .ok (.invokevirtual 66, 3) := by decide +kernel
theorem dX7_lots_16 : decode cX7_lots 16 = .ok (.ireturn, 1) := by decide +kernel
theorem dX7_lots_17 : decode cX7_lots 17 = .ok (.iload_n 2, 1) := by decide +kernel
theorem dX7_lots_18 : decode cX7_lots 18 = .ok (.iconst 1, 1) := by decide +kernel
theorem dX7_lots_19 : decode cX7_lots 19 = .ok (.if_icmp .ge 10, 3) := by decide +kernel
theorem dX7_lots_22 : decode cX7_lots 22 = .ok (.aload_n 0, 1) := by decide +kernel
theorem dX7_lots_23 : decode cX7_lots 23 = .ok (.bipush (-4), 2) := by decide +kernel
theorem dX7_lots_25 : decode cX7_lots 25 = .ok (.invokevirtual 66, 3) := by decide +kernel
theorem dX7_lots_28 : decode cX7_lots 28 = .ok (.ireturn, 1) := by decide +kernel
theorem dX7_lots_29 : decode cX7_lots 29 = .ok (.iload_n 2, 1) := by decide +kernel
theorem dX7_lots_30 : decode cX7_lots 30 = .ok (.bipush 30, 2) := by decide +kernel
theorem dX7_lots_32 : decode cX7_lots 32 = .ok (.if_icmp .le 10, 3) := by decide +kernel
theorem dX7_lots_35 : decode cX7_lots 35 = .ok (.aload_n 0, 1) := by decide +kernel
theorem dX7_lots_36 : decode cX7_lots 36 = .ok (.bipush (-6), 2) := by decide +kernel
theorem dX7_lots_38 : decode cX7_lots 38 = .ok (.invokevirtual 66, 3) := by decide +kernel
theorem dX7_lots_41 : decode cX7_lots 41 = .ok (.ireturn, 1) := by decide +kernel
theorem dX7_lots_42 : decode cX7_lots 42 = .ok (.aload_n 0, 1) := by decide +kernel
theorem dX7_lots_43 : decode cX7_lots 43 = .ok (.getfield 19, 3) := by decide +kernel
theorem dX7_lots_46 : decode cX7_lots 46 = .ok (.getfield 174, 3) := by decide +kernel
theorem dX7_lots_49 : decode cX7_lots 49 = .ok (.ifCond .ne 10, 3) := by decide +kernel
theorem dX7_lots_52 : decode cX7_lots 52 = .ok (.aload_n 0, 1) := by decide +kernel
theorem dX7_lots_53 : decode cX7_lots 53 = .ok (.bipush (-3), 2) := by decide +kernel
theorem dX7_lots_55 : decode cX7_lots 55 = .ok (.invokevirtual 66, 3) := by decide +kernel
theorem dX7_lots_58 : decode cX7_lots 58 = .ok (.ireturn, 1) := by decide +kernel
theorem dX7_lots_59 : decode cX7_lots 59 = .ok (.aload_n 0, 1) := by decide +kernel
theorem dX7_lots_60 : decode cX7_lots 60 = .ok (.getfield 19, 3) := by decide +kernel
theorem dX7_lots_63 : decode cX7_lots 63 = .ok (.aload_n 0, 1) := by decide +kernel
theorem dX7_lots_64 : decode cX7_lots 64 = .ok (.aload_n 0, 1) := by decide +kernel
theorem dX7_lots_65 : decode cX7_lots 65 = .ok (.getfield 19, 3) := by decide +kernel
theorem dX7_lots_68 : decode cX7_lots 68 = .ok (.getfield 155, 3) := by decide +kernel
theorem dX7_lots_71 : decode cX7_lots 71 = .ok (.iload_n 1, 1) := by decide +kernel
theorem dX7_lots_72 : decode cX7_lots 72 = .ok (.iaload, 1) := by decide +kernel
theorem dX7_lots_73 : decode cX7_lots 73 = .ok (.iload_n 2, 1) := by decide +kernel
theorem dX7_lots_74 : decode cX7_lots 74 = .ok (.iload_n 3, 1) := by decide +kernel
theorem dX7_lots_75 : decode cX7_lots 75 = .ok (.invokevirtual 227, 3) := by decide +kernel
theorem dX7_lots_78 : decode cX7_lots 78 = .ok (.invokevirtual 197, 3) := by decide +kernel
theorem dX7_lots_81 : decode cX7_lots 81 = .ok (.ireturn, 1) := by decide +kernel
theorem dX7_image_0 : decode cX7_image 0 = .ok (.aload_n 0, 1) := by decide +kernel
theorem dX7_image_1 : decode cX7_image 1 = .ok (.getfield 58, 3) := by decide +kernel
theorem dX7_image_4 : decode cX7_image 4 = .ok (.getfield 230, 3) := by decide +kernel
theorem dX7_image_7 : decode cX7_image 7 = .ok (.aload_n 0, 1) := by decide +kernel
theorem dX7_image_8 : decode cX7_image 8 = .ok (.getfield 19, 3) := by decide +kernel
theorem dX7_image_11 : decode cX7_image 11 = .ok (.invokevirtual 82, 3) := by decide +kernel
theorem dX7_image_14 : decode cX7_image 14 = .ok (.aload_n 0, 1) := by decide +kernel
theorem dX7_image_15 : decode cX7_image 15 = .ok (.getfield 58, 3) := by decide +kernel
theorem dX7_image_18 : decode cX7_image 18 = .ok (.getfield 233, 3) := by decide +kernel
theorem dX7_image_21 : decode cX7_image 21 = .ok (.aload_n 0, 1) := by decide +kernel
theorem dX7_image_22 : decode cX7_image 22 = .ok (.getfield 39, 3) := by decide +kernel
theorem dX7_image_25 : decode cX7_image 25 = .ok (.invokevirtual 236, 3) := by decide +kernel
theorem dX7_image_28 : decode cX7_image 28 = .ok (.aload_n 0, 1) := by decide +kernel
theorem dX7_image_29 : decode cX7_image 29 = .ok (.getfield 58, 3) := by decide +kernel
theorem dX7_image_32 : decode cX7_image 32 = .ok (.aload_n 0, 1) := by decide +kernel
theorem dX7_image_33 : decode cX7_image 33 = .ok (.getfield 194, 3) := by decide +kernel
theorem dX7_image_36 : decode cX7_image 36 = .ok (.putfield 239, 3) := by decide +kernel
theorem dX7_image_39 : decode cX7_image 39 = .ok (.aload_n 0, 1) := by decide +kernel
theorem dX7_image_40 : decode cX7_image 40 = .ok (.getfield 58, 3) := by decide +kernel
theorem dX7_image_43 : decode cX7_image 43 = .ok (.iconst 1, 1) := by decide +kernel
theorem dX7_image_44 : decode cX7_image 44 = .ok (.putfield 242, 3) := by decide +kernel
theorem dX7_image_47 : decode cX7_image 47 = .ok (.aload_n 0, 1) := by decide +kernel
theorem dX7_image_48 : decode cX7_image 48 = .ok (.getfield 19, 3) := by decide +kernel
theorem dX7_image_51 : decode cX7_image 51 = .ok (.getfield 174, 3) := by decide +kernel
theorem dX7_image_54 : decode cX7_image 54 = .ok (.ireturn, 1) := by decide +kernel
theorem dX7_on_0 : decode cX7_on 0 = .ok (.aload_n 0, 1) := by decide +kernel
theorem dX7_on_1 : decode cX7_on 1 = .ok (.getfield 58, 3) := by decide +kernel
theorem dX7_on_4 : decode cX7_on 4 = .ok (.getfield 242, 3) := by decide +kernel
theorem dX7_on_7 : decode cX7_on 7 = .ok (.ifCond .ne 10, 3) := by decide +kernel
theorem dX7_on_10 : decode cX7_on 10 = .ok (.aload_n 0, 1) := by decide +kernel
theorem dX7_on_11 : decode cX7_on 11 = .ok (.bipush (-3), 2) := by decide +kernel
theorem dX7_on_13 : decode cX7_on 13 = .ok (.invokevirtual 66, 3) := by decide +kernel
theorem dX7_on_16 : decode cX7_on 16 = .ok (.ireturn, 1) := by decide +kernel
theorem dX7_on_17 : decode cX7_on 17 = .ok (.aload_n 0, 1) := by decide +kernel
theorem dX7_on_18 : decode cX7_on 18 = .ok (.getfield 19, 3) := by decide +kernel
theorem dX7_on_21 : decode cX7_on 21 = .ok (.aload_n 0, 1) := by decide +kernel
theorem dX7_on_22 : decode cX7_on 22 = .ok (.getfield 58, 3) := by decide +kernel
theorem dX7_on_25 : decode cX7_on 25 = .ok (.getfield 230, 3) := by decide +kernel
theorem dX7_on_28 : decode cX7_on 28 = .ok (.invokevirtual 82, 3) := by decide +kernel
theorem dX7_on_31 : decode cX7_on 31 = .ok (.aload_n 0, 1) := by decide +kernel
theorem dX7_on_32 : decode cX7_on 32 = .ok (.getfield 39, 3) := by decide +kernel
theorem dX7_on_35 : decode cX7_on 35 = .ok (.aload_n 0, 1) := by decide +kernel
theorem dX7_on_36 : decode cX7_on 36 = .ok (.getfield 58, 3) := by decide +kernel
theorem dX7_on_39 : decode cX7_on 39 = .ok (.getfield 233, 3) := by decide +kernel
theorem dX7_on_42 : decode cX7_on 42 = .ok (.invokevirtual 236, 3) := by decide +kernel
theorem dX7_on_45 : decode cX7_on 45 = .ok (.aload_n 0, 1) := by decide +kernel
theorem dX7_on_46 : decode cX7_on 46 = .ok (.aload_n 0, 1) := by decide +kernel
theorem dX7_on_47 : decode cX7_on 47 = .ok (.getfield 58, 3) := by decide +kernel
theorem dX7_on_50 : decode cX7_on 50 = .ok (.getfield 239, 3) := by decide +kernel
theorem dX7_on_53 : decode cX7_on 53 = .ok (.putfield 194, 3) := by decide +kernel
theorem dX7_on_56 : decode cX7_on 56 = .ok (.aload_n 0, 1) := by decide +kernel
theorem dX7_on_57 : decode cX7_on 57 = .ok (.getfield 29, 3) := by decide +kernel
theorem dX7_on_60 : decode cX7_on 60 = .ok (.iconst 0, 1) := by decide +kernel
theorem dX7_on_61 : decode cX7_on 61 = .ok (.putfield 190, 3) := by decide +kernel
theorem dX7_on_64 : decode cX7_on 64 = .ok (.aload_n 0, 1) := by decide +kernel
theorem dX7_on_65 : decode cX7_on 65 = .ok (.getfield 33, 3) := by decide +kernel
theorem dX7_on_68 : decode cX7_on 68 = .ok (.iconst 0, 1) := by decide +kernel
theorem dX7_on_69 : decode cX7_on 69 = .ok (.putfield 190, 3) := by decide +kernel
theorem dX7_on_72 : decode cX7_on 72 = .ok (.aload_n 0, 1) := by decide +kernel
theorem dX7_on_73 : decode cX7_on 73 = .ok (.invokevirtual 90, 3) := by decide +kernel
theorem dX7_on_76 : decode cX7_on 76 = .ok (.aload_n 0, 1) := by decide +kernel
theorem dX7_on_77 : decode cX7_on 77 = .ok (.getfield 19, 3) := by decide +kernel
theorem dX7_on_80 : decode cX7_on 80 = .ok (.getfield 174, 3) := by decide +kernel
theorem dX7_on_83 : decode cX7_on 83 = .ok (.ireturn, 1) := by decide +kernel
theorem dX7_count_0 : decode cX7_count 0 = .ok (.iload_n 1, 1) := by decide +kernel
theorem dX7_count_1 : decode cX7_count 1 = .ok (.bipush 11, 2) := by decide +kernel
theorem dX7_count_3 : decode cX7_count 3 = .ok (.if_icmp .lt 19, 3) := by decide +kernel
theorem dX7_count_6 : decode cX7_count 6 = .ok (.iload_n 1, 1) := by decide +kernel
theorem dX7_count_7 : decode cX7_count 7 = .ok (.bipush 16, 2) := by decide +kernel
theorem dX7_count_9 : decode cX7_count 9 = .ok (.if_icmp .gt 13, 3) := by decide +kernel
theorem dX7_count_12 : decode cX7_count 12 = .ok (.aload_n 0, 1) := by decide +kernel
theorem dX7_count_13 : decode cX7_count 13 = .ok (.getfield 62, 3) := by decide +kernel
theorem dX7_count_16 : decode cX7_count 16 = .ok (.iload_n 1, 1) := by decide +kernel
theorem dX7_count_17 : decode cX7_count 17 = .ok (.bipush 10, 2) := by decide +kernel
theorem dX7_count_19 : decode cX7_count 19 = .ok (.isub, 1) := by decide +kernel
theorem dX7_count_20 : decode cX7_count 20 = .ok (.iaload, 1) := by decide +kernel
theorem dX7_count_21 : decode cX7_count 21 = .ok (.ireturn, 1) := by decide +kernel
theorem dX7_count_22 : decode cX7_count 22 = .ok (.iload_n 1, 1) := by decide +kernel
theorem dX7_count_23 : decode cX7_count 23 = .ok (.tableswitch 124 0 8 #[49, 57, 65, 73, 81, 89, 97, 105, 116], 49) := by decide +kernel
theorem dX7_count_72 : decode cX7_count 72 = .ok (.aload_n 0, 1) := by decide +kernel
theorem dX7_count_73 : decode cX7_count 73 = .ok (.getfield 19, 3) := by decide +kernel
theorem dX7_count_76 : decode cX7_count 76 = .ok (.getfield 174, 3) := by decide +kernel
theorem dX7_count_79 : decode cX7_count 79 = .ok (.ireturn, 1) := by decide +kernel
theorem dX7_count_80 : decode cX7_count 80 = .ok (.aload_n 0, 1) := by decide +kernel
theorem dX7_count_81 : decode cX7_count 81 = .ok (.getfield 19, 3) := by decide +kernel
theorem dX7_count_84 : decode cX7_count 84 = .ok (.getfield 246, 3) := by decide +kernel
theorem dX7_count_87 : decode cX7_count 87 = .ok (.ireturn, 1) := by decide +kernel
theorem dX7_count_88 : decode cX7_count 88 = .ok (.aload_n 0, 1) := by decide +kernel
theorem dX7_count_89 : decode cX7_count 89 = .ok (.getfield 39, 3) := by decide +kernel
theorem dX7_count_92 : decode cX7_count 92 = .ok (.getfield 203, 3) := by decide +kernel
theorem dX7_count_95 : decode cX7_count 95 = .ok (.ireturn, 1) := by decide +kernel
theorem dX7_count_96 : decode cX7_count 96 = .ok (.aload_n 0, 1) := by decide +kernel
theorem dX7_count_97 : decode cX7_count 97 = .ok (.getfield 29, 3) := by decide +kernel
theorem dX7_count_100 : decode cX7_count 100 = .ok (.getfield 190, 3) := by decide +kernel
theorem dX7_count_103 : decode cX7_count 103 = .ok (.ireturn, 1) := by decide +kernel
theorem dX7_count_104 : decode cX7_count 104 = .ok (.aload_n 0, 1) := by decide +kernel
theorem dX7_count_105 : decode cX7_count 105 = .ok (.getfield 10, 3) := by decide +kernel
theorem dX7_count_108 : decode cX7_count 108 = .ok (.getfield 70, 3) := by decide +kernel
theorem dX7_count_111 : decode cX7_count 111 = .ok (.ireturn, 1) := by decide +kernel
theorem dX7_count_112 : decode cX7_count 112 = .ok (.aload_n 0, 1) := by decide +kernel
theorem dX7_count_113 : decode cX7_count 113 = .ok (.getfield 19, 3) := by decide +kernel
theorem dX7_count_116 : decode cX7_count 116 = .ok (.getfield 115, 3) := by decide +kernel
theorem dX7_count_119 : decode cX7_count 119 = .ok (.ireturn, 1) := by decide +kernel
theorem dX7_count_120 : decode cX7_count 120 = .ok (.aload_n 0, 1) := by decide +kernel
theorem dX7_count_121 : decode cX7_count 121 = .ok (.getfield 19, 3) := by decide +kernel
theorem dX7_count_124 : decode cX7_count 124 = .ok (.getfield 109, 3) := by decide +kernel
theorem dX7_count_127 : decode cX7_count 127 = .ok (.ireturn, 1) := by decide +kernel
theorem dX7_count_128 : decode cX7_count 128 = .ok (.aload_n 0, 1) := by decide +kernel
theorem dX7_count_129 : decode cX7_count 129 = .ok (.getfield 19, 3) := by decide +kernel
theorem dX7_count_132 : decode cX7_count 132 = .ok (.sipush 255, 3) := by decide +kernel
theorem dX7_count_135 : decode cX7_count 135 = .ok (.invokevirtual 197, 3) := by decide +kernel
theorem dX7_count_138 : decode cX7_count 138 = .ok (.ireturn, 1) := by decide +kernel
theorem dX7_count_139 : decode cX7_count 139 = .ok (.aload_n 0, 1) := by decide +kernel
theorem dX7_count_140 : decode cX7_count 140 = .ok (.getfield 33, 3) := by decide +kernel
theorem dX7_count_143 : decode cX7_count 143 = .ok (.getfield 190, 3) := by decide +kernel
theorem dX7_count_146 : decode cX7_count 146 = .ok (.ireturn, 1) := by decide +kernel
theorem dX7_count_147 : decode cX7_count 147 = .ok (.bipush (-9), 2) := by decide +kernel
theorem dX7_count_149 : decode cX7_count 149 = .ok (.ireturn, 1) := by decide +kernel
theorem dX7_refuse_0 : decode cX7_refuse 0 = .ok (.iload_n 1, 1) := by decide +kernel
theorem dX7_refuse_1 : decode cX7_refuse 1 = .ok (.ifCond .ge 24, 3) := by decide +kernel
theorem dX7_refuse_4 : decode cX7_refuse 4 = .ok (.iload_n 1, 1) := by decide +kernel
theorem dX7_refuse_5 : decode cX7_refuse 5 = .ok (.ineg, 1) := by decide +kernel
theorem dX7_refuse_6 : decode cX7_refuse 6 = .ok (.aload_n 0, 1) := by decide +kernel
theorem dX7_refuse_7 : decode cX7_refuse 7 = .ok (.getfield 62, 3) := by decide +kernel
theorem dX7_refuse_10 : decode cX7_refuse 10 = .ok (.arraylength, 1) := by decide +kernel
theorem dX7_refuse_11 : decode cX7_refuse 11 = .ok (.if_icmp .ge 14, 3) := by decide +kernel
theorem dX7_refuse_14 : decode cX7_refuse 14 = .ok (.aload_n 0, 1) := by decide +kernel
theorem dX7_refuse_15 : decode cX7_refuse 15 = .ok (.getfield 62, 3) := by decide +kernel
theorem dX7_refuse_18 : decode cX7_refuse 18 = .ok (.iload_n 1, 1) := by decide +kernel
theorem dX7_refuse_19 : decode cX7_refuse 19 = .ok (.ineg, 1) := by decide +kernel
theorem dX7_refuse_20 : decode cX7_refuse 20 = .ok (.dup2, 1) := by decide +kernel
theorem dX7_refuse_21 : decode cX7_refuse 21 = .ok (.iaload, 1) := by decide +kernel
theorem dX7_refuse_22 : decode cX7_refuse 22 = .ok (.iconst 1, 1) := by decide +kernel
theorem dX7_refuse_23 : decode cX7_refuse 23 = .ok (.iadd, 1) := by decide +kernel
theorem dX7_refuse_24 : decode cX7_refuse 24 = .ok (.iastore, 1) := by decide +kernel
theorem dX7_refuse_25 : decode cX7_refuse 25 = .ok (.iload_n 1, 1) := by decide +kernel
theorem dX7_refuse_26 : decode cX7_refuse 26 = .ok (.ireturn, 1) := by decide +kernel
theorem dX7_addTo_0 : decode cX7_addTo 0 = .ok (.aload_n 0, 1) := by decide +kernel
theorem dX7_addTo_1 : decode cX7_addTo 1 = .ok (.getfield 19, 3) := by decide +kernel
theorem dX7_addTo_4 : decode cX7_addTo 4 = .ok (.iload_n 2, 1) := by decide +kernel
theorem dX7_addTo_5 : decode cX7_addTo 5 = .ok (.invokevirtual 93, 3) := by decide +kernel
theorem dX7_addTo_8 : decode cX7_addTo 8 = .ok (.ifCond .ne 9, 3) := by decide +kernel
theorem dX7_addTo_11 : decode cX7_addTo 11 = .ok (.aload_n 0, 1) := by decide +kernel
theorem dX7_addTo_12 : decode cX7_addTo 12 = .ok (.iconst (-1), 1) := by decide +kernel
theorem dX7_addTo_13 : decode cX7_addTo 13 = .ok (.invokevirtual 66, 3) := by decide +kernel
theorem dX7_addTo_16 : decode cX7_addTo 16 = .ok (.ireturn, 1) := by decide +kernel
theorem dX7_addTo_17 : decode cX7_addTo 17 = .ok (.aload_n 1, 1) := by decide +kernel
theorem dX7_addTo_18 : decode cX7_addTo 18 = .ok (.getfield 190, 3) := by decide +kernel
theorem dX7_addTo_21 : decode cX7_addTo 21 = .ok (.bipush 6, 2) := by decide +kernel
theorem dX7_addTo_23 : decode cX7_addTo 23 = .ok (.if_icmp .lt 10, 3) := by decide +kernel
theorem dX7_addTo_26 : decode cX7_addTo 26 = .ok (.aload_n 0, 1) := by decide +kernel
theorem dX7_addTo_27 : decode cX7_addTo 27 = .ok (.bipush (-6), 2) := by decide +kernel
theorem dX7_addTo_29 : decode cX7_addTo 29 = .ok (.invokevirtual 66, 3) := by decide +kernel
theorem dX7_addTo_32 : decode cX7_addTo 32 = .ok (.ireturn, 1) := by decide +kernel
theorem dX7_addTo_33 : decode cX7_addTo 33 = .ok (.aload_n 1, 1) := by decide +kernel
theorem dX7_addTo_34 : decode cX7_addTo 34 = .ok (.iload_n 2, 1) := by decide +kernel
theorem dX7_addTo_35 : decode cX7_addTo 35 = .ok (.invokevirtual 249, 3) := by decide +kernel
theorem dX7_addTo_38 : decode cX7_addTo 38 = .ok (.aload_n 1, 1) := by decide +kernel
theorem dX7_addTo_39 : decode cX7_addTo 39 = .ok (.getfield 190, 3) := by decide +kernel
theorem dX7_addTo_42 : decode cX7_addTo 42 = .ok (.ireturn, 1) := by decide +kernel
theorem dX7_takeRow_0 : decode cX7_takeRow 0 = .ok (.aload_n 0, 1) := by decide +kernel
theorem dX7_takeRow_1 : decode cX7_takeRow 1 = .ok (.getfield 29, 3) := by decide +kernel
theorem dX7_takeRow_4 : decode cX7_takeRow 4 = .ok (.aload_n 0, 1) := by decide +kernel
theorem dX7_takeRow_5 : decode cX7_takeRow 5 = .ok (.getfield 19, 3) := by decide +kernel
theorem dX7_takeRow_8 : decode cX7_takeRow 8 = .ok (.invokevirtual 152, 3) := by decide +kernel
theorem dX7_takeRow_11 : decode cX7_takeRow 11 = .ok (.istore_n 1, 1) := by decide +kernel
theorem dX7_takeRow_12 : decode cX7_takeRow 12 = .ok (.aload_n 0, 1) := by decide +kernel
theorem dX7_takeRow_13 : decode cX7_takeRow 13 = .ok (.getfield 29, 3) := by decide +kernel
theorem dX7_takeRow_16 : decode cX7_takeRow 16 = .ok (.iconst 0, 1) := by decide +kernel
theorem dX7_takeRow_17 : decode cX7_takeRow 17 = .ok (.putfield 190, 3) := by decide +kernel
theorem dX7_takeRow_20 : decode cX7_takeRow 20 = .ok (.iload_n 1, 1) := by decide +kernel
theorem dX7_takeRow_21 : decode cX7_takeRow 21 = .ok (.ireturn, 1) := by decide +kernel
theorem dX7_lengthOrWord_0 : decode cX7_lengthOrWord 0 = .ok (.iload_n 2, 1) := by decide +kernel
theorem dX7_lengthOrWord_1 : decode cX7_lengthOrWord 1 = .ok (.iconst (-1), 1) := by decide +kernel
theorem dX7_lengthOrWord_2 : decode cX7_lengthOrWord 2 = .ok (.if_icmp .ne 12, 3) := by decide +kernel
theorem dX7_lengthOrWord_5 : decode cX7_lengthOrWord 5 = .ok (.aload_n 0, 1) := by decide +kernel
theorem dX7_lengthOrWord_6 : decode cX7_lengthOrWord 6 = .ok (.getfield 48, 3) := by decide +kernel
theorem dX7_lengthOrWord_9 : decode cX7_lengthOrWord 9 = .ok (.iload_n 1, 1) := by decide +kernel
theorem dX7_lengthOrWord_10 : decode cX7_lengthOrWord 10 = .ok (.invokevirtual 250, 3) := by decide +kernel
theorem dX7_lengthOrWord_13 : decode cX7_lengthOrWord 13 = .ok (.ireturn, 1) := by decide +kernel
theorem dX7_lengthOrWord_14 : decode cX7_lengthOrWord 14 = .ok (.aload_n 0, 1) := by decide +kernel
theorem dX7_lengthOrWord_15 : decode cX7_lengthOrWord 15 = .ok (.getfield 48, 3) := by decide +kernel
theorem dX7_lengthOrWord_18 : decode cX7_lengthOrWord 18 = .ok (.iload_n 1, 1) := by decide +kernel
theorem dX7_lengthOrWord_19 : decode cX7_lengthOrWord 19 = .ok (.iload_n 2, 1) := by decide +kernel
theorem dX7_lengthOrWord_20 : decode cX7_lengthOrWord 20 = .ok (.invokevirtual 253, 3) := by decide +kernel
theorem dX7_lengthOrWord_23 : decode cX7_lengthOrWord 23 = .ok (.ireturn, 1) := by decide +kernel
theorem dX7_forgetSayings_0 : decode cX7_forgetSayings 0 = .ok (.aload_n 0, 1) := by decide +kernel
theorem dX7_forgetSayings_1 : decode cX7_forgetSayings 1 = .ok (.getfield 48, 3) := by decide +kernel
theorem dX7_forgetSayings_4 : decode cX7_forgetSayings 4 = .ok (.iconst 0, 1) := by decide +kernel
theorem dX7_forgetSayings_5 : decode cX7_forgetSayings 5 = .ok (.putfield 256, 3) := by decide +kernel
theorem dX7_forgetSayings_8 : decode cX7_forgetSayings 8 = .ok (.aload_n 0, 1) := by decide +kernel
theorem dX7_forgetSayings_9 : decode cX7_forgetSayings 9 = .ok (.getfield 52, 3) := by decide +kernel
theorem dX7_forgetSayings_12 : decode cX7_forgetSayings 12 = .ok (.iconst 0, 1) := by decide +kernel
theorem dX7_forgetSayings_13 : decode cX7_forgetSayings 13 = .ok (.putfield 256, 3) := by decide +kernel
theorem dX7_forgetSayings_16 : decode cX7_forgetSayings 16 = .ok (.return_, 1) := by decide +kernel
theorem dX7_leftByLots_0 : decode cX7_leftByLots 0 = .ok (.iload_n 3, 1) := by decide +kernel
theorem dX7_leftByLots_1 : decode cX7_leftByLots 1 = .ok (.istore 4, 2) := by decide +kernel
theorem dX7_leftByLots_3 : decode cX7_leftByLots 3 = .ok (.sipush 255, 3) := by decide +kernel
theorem dX7_leftByLots_6 : decode cX7_leftByLots 6 = .ok (.istore 5, 2) := by decide +kernel
theorem dX7_leftByLots_8 : decode cX7_leftByLots 8 = .ok (.iconst 0, 1) := by decide +kernel
theorem dX7_leftByLots_9 : decode cX7_leftByLots 9 = .ok (.istore 6, 2) := by decide +kernel
theorem dX7_leftByLots_11 : decode cX7_leftByLots 11 = .ok (.iload 6, 2) := by decide +kernel
theorem dX7_leftByLots_13 : decode cX7_leftByLots 13 = .ok (.iload_n 2, 1) := by decide +kernel
theorem dX7_leftByLots_14 : decode cX7_leftByLots 14 = .ok (.if_icmp .ge 99, 3) := by decide +kernel
theorem dX7_leftByLots_17 : decode cX7_leftByLots 17 = .ok (.iload 4, 2) := by decide +kernel
theorem dX7_leftByLots_19 : decode cX7_leftByLots 19 = .ok (.invokestatic 259, 3) := by decide +kernel
theorem dX7_leftByLots_22 : decode cX7_leftByLots 22 = .ok (.istore 4, 2) := by decide +kernel
theorem dX7_leftByLots_24 : decode cX7_leftByLots 24 = .ok (.iconst 1, 1) := by decide +kernel
theorem dX7_leftByLots_25 : decode cX7_leftByLots 25 = .ok (.iload 4, 2) := by decide +kernel
theorem dX7_leftByLots_27 : decode cX7_leftByLots 27 = .ok (.iconst 3, 1) := by decide +kernel
theorem dX7_leftByLots_28 : decode cX7_leftByLots 28 = .ok (.invokestatic 262, 3) := by decide +kernel
theorem dX7_leftByLots_31 : decode cX7_leftByLots 31 = .ok (.iadd, 1) := by decide +kernel
theorem dX7_leftByLots_32 : decode cX7_leftByLots 32 = .ok (.istore 7, 2) := by decide +kernel
theorem dX7_leftByLots_34 : decode cX7_leftByLots 34 = .ok (.sipush 255, 3) := by decide +kernel
theorem dX7_leftByLots_37 : decode cX7_leftByLots 37 = .ok (.istore 8, 2) := by decide +kernel
theorem dX7_leftByLots_39 : decode cX7_leftByLots 39 = .ok (.iconst 0, 1) := by decide +kernel
theorem dX7_leftByLots_40 : decode cX7_leftByLots 40 = .ok (.istore 9, 2) := by decide +kernel
theorem dX7_leftByLots_42 : decode cX7_leftByLots 42 = .ok (.iload 9, 2) := by decide +kernel
theorem dX7_leftByLots_44 : decode cX7_leftByLots 44 = .ok (.iload 7, 2) := by decide +kernel
theorem dX7_leftByLots_46 : decode cX7_leftByLots 46 = .ok (.if_icmp .ge 39, 3) := by decide +kernel
theorem dX7_leftByLots_49 : decode cX7_leftByLots 49 = .ok (.iload 4, 2) := by decide +kernel
theorem dX7_leftByLots_51 : decode cX7_leftByLots 51 = .ok (.invokestatic 259, 3) := by decide +kernel
theorem dX7_leftByLots_54 : decode cX7_leftByLots 54 = .ok (.istore 4, 2) := by decide +kernel
theorem dX7_leftByLots_56 : decode cX7_leftByLots 56 = .ok (.aload_n 0, 1) := by decide +kernel
theorem dX7_leftByLots_57 : decode cX7_leftByLots 57 = .ok (.getfield 19, 3) := by decide +kernel
theorem dX7_leftByLots_60 : decode cX7_leftByLots 60 = .ok (.iload 8, 2) := by decide +kernel
theorem dX7_leftByLots_62 : decode cX7_leftByLots 62 = .ok (.iload 4, 2) := by decide +kernel
theorem dX7_leftByLots_64 : decode cX7_leftByLots 64 = .ok (.aload_n 0, 1) := by decide +kernel
theorem dX7_leftByLots_65 : decode cX7_leftByLots 65 = .ok (.getfield 19, 3) := by decide +kernel
theorem dX7_leftByLots_68 : decode cX7_leftByLots 68 = .ok (.getfield 174, 3) := by decide +kernel
theorem dX7_leftByLots_71 : decode cX7_leftByLots 71 = .ok (.invokestatic 262, 3) := by decide +kernel
theorem dX7_leftByLots_74 : decode cX7_leftByLots 74 = .ok (.invokevirtual 265, 3) := by decide +kernel
theorem dX7_leftByLots_77 : decode cX7_leftByLots 77 = .ok (.istore 8, 2) := by decide +kernel
theorem dX7_leftByLots_79 : decode cX7_leftByLots 79 = .ok (.iinc 9 1, 3) := by decide +kernel
theorem dX7_leftByLots_82 : decode cX7_leftByLots 82 = .ok (.goto (-40), 3) := by decide +kernel
theorem dX7_leftByLots_85 : decode cX7_leftByLots 85 = .ok (.iload 5, 2) := by decide +kernel
theorem dX7_leftByLots_87 : decode cX7_leftByLots 87 = .ok (.aload_n 0, 1) := by decide +kernel
theorem dX7_leftByLots_88 : decode cX7_leftByLots 88 = .ok (.getfield 48, 3) := by decide +kernel
theorem dX7_leftByLots_91 : decode cX7_leftByLots 91 = .ok (.iload 8, 2) := by decide +kernel
theorem dX7_leftByLots_93 : decode cX7_leftByLots 93 = .ok (.iload_n 1, 1) := by decide +kernel
theorem dX7_leftByLots_94 : decode cX7_leftByLots 94 = .ok (.aload_n 0, 1) := by decide +kernel
theorem dX7_leftByLots_95 : decode cX7_leftByLots 95 = .ok (.getfield 19, 3) := by decide +kernel
theorem dX7_leftByLots_98 : decode cX7_leftByLots 98 = .ok (.getfield 109, 3) := by decide +kernel
theorem dX7_leftByLots_101 : decode cX7_leftByLots 101 = .ok (.invokevirtual 268, 3) := by decide +kernel
theorem dX7_leftByLots_104 : decode cX7_leftByLots 104 = .ok (.iand, 1) := by decide +kernel
theorem dX7_leftByLots_105 : decode cX7_leftByLots 105 = .ok (.istore 5, 2) := by decide +kernel
theorem dX7_leftByLots_107 : decode cX7_leftByLots 107 = .ok (.iinc 6 1, 3) := by decide +kernel
theorem dX7_leftByLots_110 : decode cX7_leftByLots 110 = .ok (.goto (-99), 3) := by decide +kernel
theorem dX7_leftByLots_113 : decode cX7_leftByLots 113 = .ok (.iload 5, 2) := by decide +kernel
theorem dX7_leftByLots_115 : decode cX7_leftByLots 115 = .ok (.ireturn, 1) := by decide +kernel
theorem dX7_stirred_0 : decode cX7_stirred 0 = .ok (.iload_n 0, 1) := by decide +kernel
theorem dX7_stirred_1 : decode cX7_stirred 1 = .ok (.ldc_w 271, 3) := by decide +kernel
theorem dX7_stirred_4 : decode cX7_stirred 4 = .ok (.imul, 1) := by decide +kernel
theorem dX7_stirred_5 : decode cX7_stirred 5 = .ok (.ldc_w 272, 3) := by decide +kernel
theorem dX7_stirred_8 : decode cX7_stirred 8 = .ok (.iadd, 1) := by decide +kernel
theorem dX7_stirred_9 : decode cX7_stirred 9 = .ok (.ireturn, 1) := by decide +kernel
theorem dX7_drawn_0 : decode cX7_drawn 0 = .ok (.iload_n 1, 1) := by decide +kernel
theorem dX7_drawn_1 : decode cX7_drawn 1 = .ok (.ifCond .gt 7, 3) := by decide +kernel
theorem dX7_drawn_4 : decode cX7_drawn 4 = .ok (.iconst 0, 1) := by decide +kernel
theorem dX7_drawn_5 : decode cX7_drawn 5 = .ok (.goto 14, 3) := by decide +kernel
theorem dX7_drawn_8 : decode cX7_drawn 8 = .ok (.iload_n 0, 1) := by decide +kernel
theorem dX7_drawn_9 : decode cX7_drawn 9 = .ok (.ldc_w 273, 3) := by decide +kernel
theorem dX7_drawn_12 : decode cX7_drawn 12 = .ok (.iand, 1) := by decide +kernel
theorem dX7_drawn_13 : decode cX7_drawn 13 = .ok (.sipush 256, 3) := by decide +kernel
theorem dX7_drawn_16 : decode cX7_drawn 16 = .ok (.idiv, 1) := by decide +kernel
theorem dX7_drawn_17 : decode cX7_drawn 17 = .ok (.iload_n 1, 1) := by decide +kernel
theorem dX7_drawn_18 : decode cX7_drawn 18 = .ok (.irem, 1) := by decide +kernel
theorem dX7_drawn_19 : decode cX7_drawn 19 = .ok (.ireturn, 1) := by decide +kernel
theorem dX7_isCase_0 : decode cX7_isCase 0 = .ok (.iload_n 0, 1) := by decide +kernel
theorem dX7_isCase_1 : decode cX7_isCase 1 = .ok (.ifCond .lt 13, 3) := by decide +kernel
theorem dX7_isCase_4 : decode cX7_isCase 4 = .ok (.iload_n 0, 1) := by decide +kernel
theorem dX7_isCase_5 : decode cX7_isCase 5 = .ok (.bipush 8, 2) := by decide +kernel
theorem dX7_isCase_7 : decode cX7_isCase 7 = .ok (.if_icmp .ge 7, 3) := by decide +kernel
theorem dX7_isCase_10 : decode cX7_isCase 10 = .ok (.iconst 1, 1) := by decide +kernel
theorem dX7_isCase_11 : decode cX7_isCase 11 = .ok (.goto 4, 3) := by decide +kernel
theorem dX7_isCase_14 : decode cX7_isCase 14 = .ok (.iconst 0, 1) := by decide +kernel
theorem dX7_isCase_15 : decode cX7_isCase 15 = .ok (.ireturn, 1) := by decide +kernel
theorem dX7_isSet_0 : decode cX7_isSet 0 = .ok (.iload_n 0, 1) := by decide +kernel
theorem dX7_isSet_1 : decode cX7_isSet 1 = .ok (.ifCond .lt 14, 3) := by decide +kernel
theorem dX7_isSet_4 : decode cX7_isSet 4 = .ok (.iload_n 0, 1) := by decide +kernel
theorem dX7_isSet_5 : decode cX7_isSet 5 = .ok (.sipush 255, 3) := by decide +kernel
theorem dX7_isSet_8 : decode cX7_isSet 8 = .ok (.if_icmp .gt 7, 3) := by decide +kernel
theorem dX7_isSet_11 : decode cX7_isSet 11 = .ok (.iconst 1, 1) := by decide +kernel
theorem dX7_isSet_12 : decode cX7_isSet 12 = .ok (.goto 4, 3) := by decide +kernel
theorem dX7_isSet_15 : decode cX7_isSet 15 = .ok (.iconst 0, 1) := by decide +kernel
theorem dX7_isSet_16 : decode cX7_isSet 16 = .ok (.ireturn, 1) := by decide +kernel
theorem dX7_isLaw_0 : decode cX7_isLaw 0 = .ok (.iload_n 0, 1) := by decide +kernel
theorem dX7_isLaw_1 : decode cX7_isLaw 1 = .ok (.ifCond .lt 12, 3) := by decide +kernel
theorem dX7_isLaw_4 : decode cX7_isLaw 4 = .ok (.iload_n 0, 1) := by decide +kernel
theorem dX7_isLaw_5 : decode cX7_isLaw 5 = .ok (.iconst 5, 1) := by decide +kernel
theorem dX7_isLaw_6 : decode cX7_isLaw 6 = .ok (.if_icmp .ge 7, 3) := by decide +kernel
theorem dX7_isLaw_9 : decode cX7_isLaw 9 = .ok (.iconst 1, 1) := by decide +kernel
theorem dX7_isLaw_10 : decode cX7_isLaw 10 = .ok (.goto 4, 3) := by decide +kernel
theorem dX7_isLaw_13 : decode cX7_isLaw 13 = .ok (.iconst 0, 1) := by decide +kernel
theorem dX7_isLaw_14 : decode cX7_isLaw 14 = .ok (.ireturn, 1) := by decide +kernel
theorem dX7_asBit_0 : decode cX7_asBit 0 = .ok (.iload_n 0, 1) := by decide +kernel
theorem dX7_asBit_1 : decode cX7_asBit 1 = .ok (.ifCond .eq 7, 3) := by decide +kernel
theorem dX7_asBit_4 : decode cX7_asBit 4 = .ok (.iconst 1, 1) := by decide +kernel
theorem dX7_asBit_5 : decode cX7_asBit 5 = .ok (.goto 4, 3) := by decide +kernel
theorem dX7_asBit_8 : decode cX7_asBit 8 = .ok (.iconst 0, 1) := by decide +kernel
theorem dX7_asBit_9 : decode cX7_asBit 9 = .ok (.ireturn, 1) := by decide +kernel
theorem dX7_commonDivisor_0 : decode cX7_commonDivisor 0 = .ok (.iload_n 0, 1) := by decide +kernel
theorem dX7_commonDivisor_1 : decode cX7_commonDivisor 1 = .ok (.istore_n 2, 1) := by decide +kernel
theorem dX7_commonDivisor_2 : decode cX7_commonDivisor 2 = .ok (.iload_n 1, 1) := by decide +kernel
theorem dX7_commonDivisor_3 : decode cX7_commonDivisor 3 = .ok (.istore_n 3, 1) := by decide +kernel
theorem dX7_commonDivisor_4 : decode cX7_commonDivisor 4 = .ok (.iconst 0, 1) := by decide +kernel
theorem dX7_commonDivisor_5 : decode cX7_commonDivisor 5 = .ok (.istore 4, 2) := by decide +kernel
theorem dX7_commonDivisor_7 : decode cX7_commonDivisor 7 = .ok (.iload_n 3, 1) := by decide +kernel
theorem dX7_commonDivisor_8 : decode cX7_commonDivisor 8 = .ok (.ifCond .eq 26, 3) := by decide +kernel
theorem dX7_commonDivisor_11 : decode cX7_commonDivisor 11 = .ok (.iload 4, 2) := by decide +kernel
theorem dX7_commonDivisor_13 : decode cX7_commonDivisor 13 = .ok (.bipush 100, 2) := by decide +kernel
theorem dX7_commonDivisor_15 : decode cX7_commonDivisor 15 = .ok (.if_icmp .ge 19, 3) := by decide +kernel
theorem dX7_commonDivisor_18 : decode cX7_commonDivisor 18 = .ok (.iload_n 2, 1) := by decide +kernel
theorem dX7_commonDivisor_19 : decode cX7_commonDivisor 19 = .ok (.iload_n 3, 1) := by decide +kernel
theorem dX7_commonDivisor_20 : decode cX7_commonDivisor 20 = .ok (.irem, 1) := by decide +kernel
theorem dX7_commonDivisor_21 : decode cX7_commonDivisor 21 = .ok (.istore 5, 2) := by decide +kernel
theorem dX7_commonDivisor_23 : decode cX7_commonDivisor 23 = .ok (.iload_n 3, 1) := by decide +kernel
theorem dX7_commonDivisor_24 : decode cX7_commonDivisor 24 = .ok (.istore_n 2, 1) := by decide +kernel
theorem dX7_commonDivisor_25 : decode cX7_commonDivisor 25 = .ok (.iload 5, 2) := by decide +kernel
theorem dX7_commonDivisor_27 : decode cX7_commonDivisor 27 = .ok (.istore_n 3, 1) := by decide +kernel
theorem dX7_commonDivisor_28 : decode cX7_commonDivisor 28 = .ok (.iinc 4 1, 3) := by decide +kernel
theorem dX7_commonDivisor_31 : decode cX7_commonDivisor 31 = .ok (.goto (-24), 3) := by decide +kernel
theorem dX7_commonDivisor_34 : decode cX7_commonDivisor 34 = .ok (.iload_n 2, 1) := by decide +kernel
theorem dX7_commonDivisor_35 : decode cX7_commonDivisor 35 = .ok (.ireturn, 1) := by decide +kernel
theorem dX7_mayFollow_0 : decode cX7_mayFollow 0 = .ok (.iload_n 1, 1) := by decide +kernel
theorem dX7_mayFollow_1 : decode cX7_mayFollow 1 = .ok (.invokestatic 211, 3) := by decide +kernel
theorem dX7_mayFollow_4 : decode cX7_mayFollow 4 = .ok (.istore_n 3, 1) := by decide +kernel
theorem dX7_mayFollow_5 : decode cX7_mayFollow 5 = .ok (.iload_n 2, 1) := by decide +kernel
theorem dX7_mayFollow_6 : decode cX7_mayFollow 6 = .ok (.invokestatic 211, 3) := by decide +kernel
theorem dX7_mayFollow_9 : decode cX7_mayFollow 9 = .ok (.istore 4, 2) := by decide +kernel
theorem dX7_mayFollow_11 : decode cX7_mayFollow 11 = .ok (.iload_n 0, 1) := by decide +kernel
theorem dX7_mayFollow_12 : decode cX7_mayFollow 12 = .ok (.tableswitch 92 0 3 #[32, 44, 56, 78], 32) := by decide +kernel
theorem dX7_mayFollow_44 : decode cX7_mayFollow 44 = .ok (.iload_n 3, 1) := by decide +kernel
theorem dX7_mayFollow_45 : decode cX7_mayFollow 45 = .ok (.iload 4, 2) := by decide +kernel
theorem dX7_mayFollow_47 : decode cX7_mayFollow 47 = .ok (.if_icmp .ge 7, 3) := by decide +kernel
theorem dX7_mayFollow_50 : decode cX7_mayFollow 50 = .ok (.iconst 1, 1) := by decide +kernel
theorem dX7_mayFollow_51 : decode cX7_mayFollow 51 = .ok (.goto 4, 3) := by decide +kernel
theorem dX7_mayFollow_54 : decode cX7_mayFollow 54 = .ok (.iconst 0, 1) := by decide +kernel
theorem dX7_mayFollow_55 : decode cX7_mayFollow 55 = .ok (.ireturn, 1) := by decide +kernel
theorem dX7_mayFollow_56 : decode cX7_mayFollow 56 = .ok (.iload_n 3, 1) := by decide +kernel
theorem dX7_mayFollow_57 : decode cX7_mayFollow 57 = .ok (.iload 4, 2) := by decide +kernel
theorem dX7_mayFollow_59 : decode cX7_mayFollow 59 = .ok (.if_icmp .gt 7, 3) := by decide +kernel
theorem dX7_mayFollow_62 : decode cX7_mayFollow 62 = .ok (.iconst 1, 1) := by decide +kernel
theorem dX7_mayFollow_63 : decode cX7_mayFollow 63 = .ok (.goto 4, 3) := by decide +kernel
theorem dX7_mayFollow_66 : decode cX7_mayFollow 66 = .ok (.iconst 0, 1) := by decide +kernel
theorem dX7_mayFollow_67 : decode cX7_mayFollow 67 = .ok (.ireturn, 1) := by decide +kernel
theorem dX7_mayFollow_68 : decode cX7_mayFollow 68 = .ok (.iload_n 3, 1) := by decide +kernel
theorem dX7_mayFollow_69 : decode cX7_mayFollow 69 = .ok (.iload_n 1, 1) := by decide +kernel
theorem dX7_mayFollow_70 : decode cX7_mayFollow 70 = .ok (.invokestatic 214, 3) := by decide +kernel
theorem dX7_mayFollow_73 : decode cX7_mayFollow 73 = .ok (.isub, 1) := by decide +kernel
theorem dX7_mayFollow_74 : decode cX7_mayFollow 74 = .ok (.iload 4, 2) := by decide +kernel
theorem dX7_mayFollow_76 : decode cX7_mayFollow 76 = .ok (.iload_n 2, 1) := by decide +kernel
theorem dX7_mayFollow_77 : decode cX7_mayFollow 77 = .ok (.invokestatic 214, 3) := by decide +kernel
theorem dX7_mayFollow_80 : decode cX7_mayFollow 80 = .ok (.isub, 1) := by decide +kernel
theorem dX7_mayFollow_81 : decode cX7_mayFollow 81 = .ok (.if_icmp .ge 7, 3) := by decide +kernel
theorem dX7_mayFollow_84 : decode cX7_mayFollow 84 = .ok (.iconst 1, 1) := by decide +kernel
theorem dX7_mayFollow_85 : decode cX7_mayFollow 85 = .ok (.goto 4, 3) := by decide +kernel
theorem dX7_mayFollow_88 : decode cX7_mayFollow 88 = .ok (.iconst 0, 1) := by decide +kernel
theorem dX7_mayFollow_89 : decode cX7_mayFollow 89 = .ok (.ireturn, 1) := by decide +kernel
theorem dX7_mayFollow_90 : decode cX7_mayFollow 90 = .ok (.iload_n 3, 1) := by decide +kernel
theorem dX7_mayFollow_91 : decode cX7_mayFollow 91 = .ok (.iload 4, 2) := by decide +kernel
theorem dX7_mayFollow_93 : decode cX7_mayFollow 93 = .ok (.iconst 1, 1) := by decide +kernel
theorem dX7_mayFollow_94 : decode cX7_mayFollow 94 = .ok (.iadd, 1) := by decide +kernel
theorem dX7_mayFollow_95 : decode cX7_mayFollow 95 = .ok (.if_icmp .ne 7, 3) := by decide +kernel
theorem dX7_mayFollow_98 : decode cX7_mayFollow 98 = .ok (.iconst 1, 1) := by decide +kernel
theorem dX7_mayFollow_99 : decode cX7_mayFollow 99 = .ok (.goto 4, 3) := by decide +kernel
theorem dX7_mayFollow_102 : decode cX7_mayFollow 102 = .ok (.iconst 0, 1) := by decide +kernel
theorem dX7_mayFollow_103 : decode cX7_mayFollow 103 = .ok (.ireturn, 1) := by decide +kernel
theorem dX7_mayFollow_104 : decode cX7_mayFollow 104 = .ok (.iconst 1, 1) := by decide +kernel
theorem dX7_mayFollow_105 : decode cX7_mayFollow 105 = .ok (.ireturn, 1) := by decide +kernel
theorem dX7_isSettled_0 : decode cX7_isSettled 0 = .ok (.iload_n 1, 1) := by decide +kernel
theorem dX7_isSettled_1 : decode cX7_isSettled 1 = .ok (.ifCond .eq 15, 3) := by decide +kernel
theorem dX7_isSettled_4 : decode cX7_isSettled 4 = .ok (.iload_n 1, 1) := by decide +kernel
theorem dX7_isSettled_5 : decode cX7_isSettled 5 = .ok (.iload_n 0, 1) := by decide +kernel
theorem dX7_isSettled_6 : decode cX7_isSettled 6 = .ok (.invokestatic 274, 3) := by decide +kernel
theorem dX7_isSettled_9 : decode cX7_isSettled 9 = .ok (.ifCond .eq 7, 3) := by decide +kernel
theorem dX7_isSettled_12 : decode cX7_isSettled 12 = .ok (.iconst 1, 1) := by decide +kernel
theorem dX7_isSettled_13 : decode cX7_isSettled 13 = .ok (.goto 4, 3) := by decide +kernel
theorem dX7_isSettled_16 : decode cX7_isSettled 16 = .ok (.iconst 0, 1) := by decide +kernel
theorem dX7_isSettled_17 : decode cX7_isSettled 17 = .ok (.ireturn, 1) := by decide +kernel
theorem dX7_isOnOneSide_0 : decode cX7_isOnOneSide 0 = .ok (.iload_n 0, 1) := by decide +kernel
theorem dX7_isOnOneSide_1 : decode cX7_isOnOneSide 1 = .ok (.iload_n 1, 1) := by decide +kernel
theorem dX7_isOnOneSide_2 : decode cX7_isOnOneSide 2 = .ok (.iconst (-1), 1) := by decide +kernel
theorem dX7_isOnOneSide_3 : decode cX7_isOnOneSide 3 = .ok (.ixor, 1) := by decide +kernel
theorem dX7_isOnOneSide_4 : decode cX7_isOnOneSide 4 = .ok (.iand, 1) := by decide +kernel
theorem dX7_isOnOneSide_5 : decode cX7_isOnOneSide 5 = .ok (.ifCond .eq 9, 3) := by decide +kernel
theorem dX7_isOnOneSide_8 : decode cX7_isOnOneSide 8 = .ok (.iload_n 0, 1) := by decide +kernel
theorem dX7_isOnOneSide_9 : decode cX7_isOnOneSide 9 = .ok (.iload_n 1, 1) := by decide +kernel
theorem dX7_isOnOneSide_10 : decode cX7_isOnOneSide 10 = .ok (.iand, 1) := by decide +kernel
theorem dX7_isOnOneSide_11 : decode cX7_isOnOneSide 11 = .ok (.ifCond .ne 7, 3) := by decide +kernel
theorem dX7_isOnOneSide_14 : decode cX7_isOnOneSide 14 = .ok (.iconst 1, 1) := by decide +kernel
theorem dX7_isOnOneSide_15 : decode cX7_isOnOneSide 15 = .ok (.goto 4, 3) := by decide +kernel
theorem dX7_isOnOneSide_18 : decode cX7_isOnOneSide 18 = .ok (.iconst 0, 1) := by decide +kernel
theorem dX7_isOnOneSide_19 : decode cX7_isOnOneSide 19 = .ok (.ireturn, 1) := by decide +kernel
theorem dX7_longestFrom_0 : decode cX7_longestFrom 0 = .ok (.iload_n 2, 1) := by decide +kernel
theorem dX7_longestFrom_1 : decode cX7_longestFrom 1 = .ok (.bipush 6, 2) := by decide +kernel
theorem dX7_longestFrom_3 : decode cX7_longestFrom 3 = .ok (.if_icmp .le 6, 3) := by decide +kernel
theorem dX7_longestFrom_6 : decode cX7_longestFrom 6 = .ok (.bipush (-9), 2) := by decide +kernel
theorem dX7_longestFrom_8 : decode cX7_longestFrom 8 = .ok (.ireturn, 1) := by decide +kernel
theorem dX7_longestFrom_9 : decode cX7_longestFrom 9 = .ok (.iconst 0, 1) := by decide +kernel
theorem dX7_longestFrom_10 : decode cX7_longestFrom 10 = .ok (.istore_n 3, 1) := by decide +kernel
theorem dX7_longestFrom_11 : decode cX7_longestFrom 11 = .ok (.iconst 1, 1) := by decide +kernel
theorem dX7_longestFrom_12 : decode cX7_longestFrom 12 = .ok (.istore 4, 2) := by decide +kernel
theorem dX7_longestFrom_14 : decode cX7_longestFrom 14 = .ok (.iload 4, 2) := by decide +kernel
theorem dX7_longestFrom_16 : decode cX7_longestFrom 16 = .ok (.bipush 6, 2) := by decide +kernel
theorem dX7_longestFrom_18 : decode cX7_longestFrom 18 = .ok (.if_icmp .gt 53, 3) := by decide +kernel
theorem dX7_longestFrom_21 : decode cX7_longestFrom 21 = .ok (.iload_n 0, 1) := by decide +kernel
theorem dX7_longestFrom_22 : decode cX7_longestFrom 22 = .ok (.iload 4, 2) := by decide +kernel
theorem dX7_longestFrom_24 : decode cX7_longestFrom 24 = .ok (.iconst 0, 1) := by decide +kernel
theorem dX7_longestFrom_25 : decode cX7_longestFrom 25 = .ok (.invokestatic 130, 3) := by decide +kernel
theorem dX7_longestFrom_28 : decode cX7_longestFrom 28 = .ok (.iload_n 1, 1) := by decide +kernel
theorem dX7_longestFrom_29 : decode cX7_longestFrom 29 = .ok (.iconst 0, 1) := by decide +kernel
theorem dX7_longestFrom_30 : decode cX7_longestFrom 30 = .ok (.invokestatic 130, 3) := by decide +kernel
theorem dX7_longestFrom_33 : decode cX7_longestFrom 33 = .ok (.invokestatic 134, 3) := by decide +kernel
theorem dX7_longestFrom_36 : decode cX7_longestFrom 36 = .ok (.ifCond .eq 29, 3) := by decide +kernel
theorem dX7_longestFrom_39 : decode cX7_longestFrom 39 = .ok (.iload_n 0, 1) := by decide +kernel
theorem dX7_longestFrom_40 : decode cX7_longestFrom 40 = .ok (.iload 4, 2) := by decide +kernel
theorem dX7_longestFrom_42 : decode cX7_longestFrom 42 = .ok (.iload_n 2, 1) := by decide +kernel
theorem dX7_longestFrom_43 : decode cX7_longestFrom 43 = .ok (.iconst 1, 1) := by decide +kernel
theorem dX7_longestFrom_44 : decode cX7_longestFrom 44 = .ok (.iadd, 1) := by decide +kernel
theorem dX7_longestFrom_45 : decode cX7_longestFrom 45 = .ok (.invokestatic 220, 3) := by decide +kernel
theorem dX7_longestFrom_48 : decode cX7_longestFrom 48 = .ok (.istore 5, 2) := by decide +kernel
theorem dX7_longestFrom_50 : decode cX7_longestFrom 50 = .ok (.iload 5, 2) := by decide +kernel
theorem dX7_longestFrom_52 : decode cX7_longestFrom 52 = .ok (.ifCond .ge 6, 3) := by decide +kernel
theorem dX7_longestFrom_55 : decode cX7_longestFrom 55 = .ok (.bipush (-9), 2) := by decide +kernel
theorem dX7_longestFrom_57 : decode cX7_longestFrom 57 = .ok (.ireturn, 1) := by decide +kernel
theorem dX7_longestFrom_58 : decode cX7_longestFrom 58 = .ok (.iload_n 3, 1) := by decide +kernel
theorem dX7_longestFrom_59 : decode cX7_longestFrom 59 = .ok (.iload 5, 2) := by decide +kernel
theorem dX7_longestFrom_61 : decode cX7_longestFrom 61 = .ok (.invokestatic 277, 3) := by decide +kernel
theorem dX7_longestFrom_64 : decode cX7_longestFrom 64 = .ok (.istore_n 3, 1) := by decide +kernel
theorem dX7_longestFrom_65 : decode cX7_longestFrom 65 = .ok (.iinc 4 1, 3) := by decide +kernel
theorem dX7_longestFrom_68 : decode cX7_longestFrom 68 = .ok (.goto (-54), 3) := by decide +kernel
theorem dX7_longestFrom_71 : decode cX7_longestFrom 71 = .ok (.iload_n 3, 1) := by decide +kernel
theorem dX7_longestFrom_72 : decode cX7_longestFrom 72 = .ok (.iconst 1, 1) := by decide +kernel
theorem dX7_longestFrom_73 : decode cX7_longestFrom 73 = .ok (.iadd, 1) := by decide +kernel
theorem dX7_longestFrom_74 : decode cX7_longestFrom 74 = .ok (.ireturn, 1) := by decide +kernel
theorem dX7_speaksLast_0 : decode cX7_speaksLast 0 = .ok (.iload_n 2, 1) := by decide +kernel
theorem dX7_speaksLast_1 : decode cX7_speaksLast 1 = .ok (.bipush 6, 2) := by decide +kernel
theorem dX7_speaksLast_3 : decode cX7_speaksLast 3 = .ok (.if_icmp .le 5, 3) := by decide +kernel
theorem dX7_speaksLast_6 : decode cX7_speaksLast 6 = .ok (.iconst 1, 1) := by decide +kernel
theorem dX7_speaksLast_7 : decode cX7_speaksLast 7 = .ok (.ireturn, 1) := by decide +kernel
theorem dX7_speaksLast_8 : decode cX7_speaksLast 8 = .ok (.iconst 1, 1) := by decide +kernel
theorem dX7_speaksLast_9 : decode cX7_speaksLast 9 = .ok (.istore_n 3, 1) := by decide +kernel
theorem dX7_speaksLast_10 : decode cX7_speaksLast 10 = .ok (.iload_n 3, 1) := by decide +kernel
theorem dX7_speaksLast_11 : decode cX7_speaksLast 11 = .ok (.bipush 6, 2) := by decide +kernel
theorem dX7_speaksLast_13 : decode cX7_speaksLast 13 = .ok (.if_icmp .gt 39, 3) := by decide +kernel
theorem dX7_speaksLast_16 : decode cX7_speaksLast 16 = .ok (.iload_n 0, 1) := by decide +kernel
theorem dX7_speaksLast_17 : decode cX7_speaksLast 17 = .ok (.iload_n 3, 1) := by decide +kernel
theorem dX7_speaksLast_18 : decode cX7_speaksLast 18 = .ok (.iconst 0, 1) := by decide +kernel
theorem dX7_speaksLast_19 : decode cX7_speaksLast 19 = .ok (.invokestatic 130, 3) := by decide +kernel
theorem dX7_speaksLast_22 : decode cX7_speaksLast 22 = .ok (.iload_n 1, 1) := by decide +kernel
theorem dX7_speaksLast_23 : decode cX7_speaksLast 23 = .ok (.iconst 0, 1) := by decide +kernel
theorem dX7_speaksLast_24 : decode cX7_speaksLast 24 = .ok (.invokestatic 130, 3) := by decide +kernel
theorem dX7_speaksLast_27 : decode cX7_speaksLast 27 = .ok (.invokestatic 134, 3) := by decide +kernel
theorem dX7_speaksLast_30 : decode cX7_speaksLast 30 = .ok (.ifCond .eq 16, 3) := by decide +kernel
theorem dX7_speaksLast_33 : decode cX7_speaksLast 33 = .ok (.iload_n 0, 1) := by decide +kernel
theorem dX7_speaksLast_34 : decode cX7_speaksLast 34 = .ok (.iload_n 3, 1) := by decide +kernel
theorem dX7_speaksLast_35 : decode cX7_speaksLast 35 = .ok (.iload_n 2, 1) := by decide +kernel
theorem dX7_speaksLast_36 : decode cX7_speaksLast 36 = .ok (.iconst 1, 1) := by decide +kernel
theorem dX7_speaksLast_37 : decode cX7_speaksLast 37 = .ok (.iadd, 1) := by decide +kernel
theorem dX7_speaksLast_38 : decode cX7_speaksLast 38 = .ok (.invokestatic 223, 3) := by decide +kernel
theorem dX7_speaksLast_41 : decode cX7_speaksLast 41 = .ok (.ifCond .eq 5, 3) := by decide +kernel
theorem dX7_speaksLast_44 : decode cX7_speaksLast 44 = .ok (.iconst 0, 1) := by decide +kernel
theorem dX7_speaksLast_45 : decode cX7_speaksLast 45 = .ok (.ireturn, 1) := by decide +kernel
theorem dX7_speaksLast_46 : decode cX7_speaksLast 46 = .ok (.iinc 3 1, 3) := by decide +kernel
theorem dX7_speaksLast_49 : decode cX7_speaksLast 49 = .ok (.goto (-39), 3) := by decide +kernel
theorem dX7_speaksLast_52 : decode cX7_speaksLast 52 = .ok (.iconst 1, 1) := by decide +kernel
theorem dX7_speaksLast_53 : decode cX7_speaksLast 53 = .ok (.ireturn, 1) := by decide +kernel
