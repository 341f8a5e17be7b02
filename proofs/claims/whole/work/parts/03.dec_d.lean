theorem dX8_refuse_0 : decode cX8_refuse 0 = .ok (.aload_n 0, 1) := by decide +kernel
theorem dX8_refuse_1 : decode cX8_refuse 1 = .ok (.getfield 19, 3) := by decide +kernel
theorem dX8_refuse_4 : decode cX8_refuse 4 = .ok (.iload_n 1, 1) := by decide +kernel
theorem dX8_refuse_5 : decode cX8_refuse 5 = .ok (.ineg, 1) := by decide +kernel
theorem dX8_refuse_6 : decode cX8_refuse 6 = .ok (.dup2, 1) := by decide +kernel
theorem dX8_refuse_7 : decode cX8_refuse 7 = .ok (.iaload, 1) := by decide +kernel
theorem dX8_refuse_8 : decode cX8_refuse 8 = .ok (.iconst 1, 1) := by decide +kernel
theorem dX8_refuse_9 : decode cX8_refuse 9 = .ok (.iadd, 1) := by decide +kernel
theorem dX8_refuse_10 : decode cX8_refuse 10 = .ok (.iastore, 1) := by decide +kernel
theorem dX8_refuse_11 : decode cX8_refuse 11 = .ok (.iload_n 1, 1) := by decide +kernel
theorem dX8_refuse_12 : decode cX8_refuse 12 = .ok (.ireturn, 1) := by decide +kernel
theorem dX8_weightOf_0 : decode cX8_weightOf 0 = .ok (.iconst 0, 1) := by decide +kernel
theorem dX8_weightOf_1 : decode cX8_weightOf 1 = .ok (.istore_n 2, 1) := by decide +kernel
theorem dX8_weightOf_2 : decode cX8_weightOf 2 = .ok (.iconst 0, 1) := by decide +kernel
theorem dX8_weightOf_3 : decode cX8_weightOf 3 = .ok (.istore_n 3, 1) := by decide +kernel
theorem dX8_weightOf_4 : decode cX8_weightOf 4 = .ok (.iload_n 3, 1) := by decide +kernel
theorem dX8_weightOf_5 : decode cX8_weightOf 5 = .ok (.bipush 8, 2) := by decide +kernel
theorem dX8_weightOf_7 : decode cX8_weightOf 7 = .ok (.if_icmp .ge 30, 3) := by decide +kernel
theorem dX8_weightOf_10 : decode cX8_weightOf 10 = .ok (.iload_n 2, 1) := by decide +kernel
theorem dX8_weightOf_11 : decode cX8_weightOf 11 = .ok (.iload_n 1, 1) := by decide +kernel
theorem dX8_weightOf_12 : decode cX8_weightOf 12 = .ok (.iload_n 3, 1) := by decide +kernel
theorem dX8_weightOf_13 : decode cX8_weightOf 13 = .ok (.ishr, 1) := by decide +kernel
theorem dX8_weightOf_14 : decode cX8_weightOf 14 = .ok (.iconst 1, 1) := by decide +kernel
theorem dX8_weightOf_15 : decode cX8_weightOf 15 = .ok (.iand, 1) := by decide +kernel
theorem dX8_weightOf_16 : decode cX8_weightOf 16 = .ok (.ifCond .eq 12, 3) := by decide +kernel
theorem dX8_weightOf_19 : decode cX8_weightOf 19 = .ok (.aload_n 0, 1) := by decide +kernel
theorem dX8_weightOf_20 : decode cX8_weightOf 20 = .ok (.getfield 28, 3) := by decide +kernel
theorem dX8_weightOf_23 : decode cX8_weightOf 23 = .ok (.iload_n 3, 1) := by decide +kernel
theorem dX8_weightOf_24 : decode cX8_weightOf 24 = .ok (.iaload, 1) := by decide +kernel
theorem dX8_weightOf_25 : decode cX8_weightOf 25 = .ok (.goto 4, 3) := by decide +kernel
theorem dX8_weightOf_28 : decode cX8_weightOf 28 = .ok (.iconst 0, 1) := by decide +kernel
theorem dX8_weightOf_29 : decode cX8_weightOf 29 = .ok (.iadd, 1) := by decide +kernel
theorem dX8_weightOf_30 : decode cX8_weightOf 30 = .ok (.istore_n 2, 1) := by decide +kernel
theorem dX8_weightOf_31 : decode cX8_weightOf 31 = .ok (.iinc 3 1, 3) := by decide +kernel
theorem dX8_weightOf_34 : decode cX8_weightOf 34 = .ok (.goto (-30), 3) := by decide +kernel
theorem dX8_weightOf_37 : decode cX8_weightOf 37 = .ok (.iload_n 2, 1) := by decide +kernel
theorem dX8_weightOf_38 : decode cX8_weightOf 38 = .ok (.ireturn, 1) := by decide +kernel
theorem dX8_letter_0 : decode cX8_letter 0 = .ok (.iload_n 1, 1) := by decide +kernel
theorem dX8_letter_1 : decode cX8_letter 1 = .ok (.ifCond .ge 10, 3) := by decide +kernel
theorem dX8_letter_4 : decode cX8_letter 4 = .ok (.aload_n 0, 1) := by decide +kernel
theorem dX8_letter_5 : decode cX8_letter 5 = .ok (.bipush (-4), 2) := by decide +kernel
theorem dX8_letter_7 : decode cX8_letter 7 = .ok (.invokevirtual 74, 3) := by decide +kernel
theorem dX8_letter_10 : decode cX8_letter 10 = .ok (.ireturn, 1) := by decide +kernel
theorem dX8_letter_11 : decode cX8_letter 11 = .ok (.iload_n 1, 1) := by decide +kernel
theorem dX8_letter_12 : decode cX8_letter 12 = .ok (.sipush 255, 3) := by decide +kernel
theorem dX8_letter_15 : decode cX8_letter 15 = .ok (.if_icmp .gt 12, 3) := by decide +kernel
theorem dX8_letter_18 : decode cX8_letter 18 = .ok (.aload_n 0, 1) := by decide +kernel
theorem dX8_letter_19 : decode cX8_letter 19 = .ok (.getfield 78, 3) := by decide +kernel
theorem dX8_letter_22 : decode cX8_letter 22 = .ok (.bipush 64, 2) := by decide +kernel
theorem dX8_letter_24 : decode cX8_letter 24 = .ok (.if_icmp .ne 10, 3) := by decide +kernel
theorem dX8_letter_27 : decode cX8_letter 27 = .ok (.aload_n 0, 1) := by decide +kernel
theorem dX8_letter_28 : decode cX8_letter 28 = .ok (.bipush (-6), 2) := by decide +kernel
theorem dX8_letter_30 : decode cX8_letter 30 = .ok (.invokevirtual 74, 3) := by decide +kernel
theorem dX8_letter_33 : decode cX8_letter 33 = .ok (.ireturn, 1) := by decide +kernel
theorem dX8_letter_34 : decode cX8_letter 34 = .ok (.aload_n 0, 1) := by decide +kernel
theorem dX8_letter_35 : decode cX8_letter 35 = .ok (.getfield 9, 3) := by decide +kernel
theorem dX8_letter_38 : decode cX8_letter 38 = .ok (.aload_n 0, 1) := by decide +kernel
theorem dX8_letter_39 : decode cX8_letter 39 = .ok (.dup, 1) := by decide +kernel
theorem dX8_letter_40 : decode cX8_letter 40 = .ok (.getfield 78, 3) := by decide +kernel
theorem dX8_letter_43 : decode cX8_letter 43 = .ok (.dup_x1, 1) := by decide +kernel
theorem dX8_letter_44 : decode cX8_letter 44 = .ok (.iconst 1, 1) := by decide +kernel
theorem dX8_letter_45 : decode cX8_letter 45 = .ok (.iadd, 1) := by decide +kernel
theorem dX8_letter_46 : decode cX8_letter 46 = .ok (.putfield 78, 3) := by decide +kernel
theorem dX8_letter_49 : decode cX8_letter 49 = .ok (.iload_n 1, 1) := by decide +kernel
theorem dX8_letter_50 : decode cX8_letter 50 = .ok (.iastore, 1) := by decide +kernel
theorem dX8_letter_51 : decode cX8_letter 51 = .ok (.aload_n 0, 1) := by decide +kernel
theorem dX8_letter_52 : decode cX8_letter 52 = .ok (.getfield 78, 3) := by decide +kernel
theorem dX8_letter_55 : decode cX8_letter 55 = .ok (.ireturn, 1) := by decide +kernel
theorem dX8_sees_0 : decode cX8_sees 0 = .ok (.aload_n 0, 1) := by decide +kernel
theorem dX8_sees_1 : decode cX8_sees 1 = .ok (.getfield 81, 3) := by decide +kernel
theorem dX8_sees_4 : decode cX8_sees 4 = .ok (.aload_n 0, 1) := by decide +kernel
theorem dX8_sees_5 : decode cX8_sees 5 = .ok (.getfield 78, 3) := by decide +kernel
theorem dX8_sees_8 : decode cX8_sees 8 = .ok (.if_icmp .ge 20, 3) := by decide +kernel
theorem dX8_sees_11 : decode cX8_sees 11 = .ok (.aload_n 0, 1) := by decide +kernel
theorem dX8_sees_12 : decode cX8_sees 12 = .ok (.getfield 9, 3) := by decide +kernel
theorem dX8_sees_15 : decode cX8_sees 15 = .ok (.aload_n 0, 1) := by decide +kernel
theorem dX8_sees_16 : decode cX8_sees 16 = .ok (.getfield 81, 3) := by decide +kernel
theorem dX8_sees_19 : decode cX8_sees 19 = .ok (.iaload, 1) := by decide +kernel
theorem dX8_sees_20 : decode cX8_sees 20 = .ok (.iload_n 1, 1) := by decide +kernel
theorem dX8_sees_21 : decode cX8_sees 21 = .ok (.if_icmp .ne 7, 3) := by decide +kernel
theorem dX8_sees_24 : decode cX8_sees 24 = .ok (.iconst 1, 1) := by decide +kernel
theorem dX8_sees_25 : decode cX8_sees 25 = .ok (.goto 4, 3) := by decide +kernel
theorem dX8_sees_28 : decode cX8_sees 28 = .ok (.iconst 0, 1) := by decide +kernel
theorem dX8_sees_29 : decode cX8_sees 29 = .ok (.ireturn, 1) := by decide +kernel
theorem dX8_seesDigit_0 : decode cX8_seesDigit 0 = .ok (.aload_n 0, 1) := by decide +kernel
theorem dX8_seesDigit_1 : decode cX8_seesDigit 1 = .ok (.getfield 81, 3) := by decide +kernel
theorem dX8_seesDigit_4 : decode cX8_seesDigit 4 = .ok (.aload_n 0, 1) := by decide +kernel
theorem dX8_seesDigit_5 : decode cX8_seesDigit 5 = .ok (.getfield 78, 3) := by decide +kernel
theorem dX8_seesDigit_8 : decode cX8_seesDigit 8 = .ok (.if_icmp .ge 35, 3) := by decide +kernel
theorem dX8_seesDigit_11 : decode cX8_seesDigit 11 = .ok (.aload_n 0, 1) := by decide +kernel
theorem dX8_seesDigit_12 : decode cX8_seesDigit 12 = .ok (.getfield 9, 3) := by decide +kernel
theorem dX8_seesDigit_15 : decode cX8_seesDigit 15 = .ok (.aload_n 0, 1) := by decide +kernel
theorem dX8_seesDigit_16 : decode cX8_seesDigit 16 = .ok (.getfield 81, 3) := by decide +kernel
theorem dX8_seesDigit_19 : decode cX8_seesDigit 19 = .ok (.iaload, 1) := by decide +kernel
theorem dX8_seesDigit_20 : decode cX8_seesDigit 20 = .ok (.bipush 48, 2) := by decide +kernel
theorem dX8_seesDigit_22 : decode cX8_seesDigit 22 = .ok (.if_icmp .lt 21, 3) := by decide +kernel
theorem dX8_seesDigit_25 : decode cX8_seesDigit 25 = .ok (.aload_n 0, 1) := by decide +kernel
theorem dX8_seesDigit_26 : decode cX8_seesDigit 26 = .ok (.getfield 9, 3) := by decide +kernel
theorem dX8_seesDigit_29 : decode cX8_seesDigit 29 = .ok (.aload_n 0, 1) := by decide +kernel
theorem dX8_seesDigit_30 : decode cX8_seesDigit 30 = .ok (.getfield 81, 3) := by decide +kernel
theorem dX8_seesDigit_33 : decode cX8_seesDigit 33 = .ok (.iaload, 1) := by decide +kernel
theorem dX8_seesDigit_34 : decode cX8_seesDigit 34 = .ok (.bipush 57, 2) := by decide +kernel
theorem dX8_seesDigit_36 : decode cX8_seesDigit 36 = .ok (.if_icmp .gt 7, 3) := by decide +kernel
theorem dX8_seesDigit_39 : decode cX8_seesDigit 39 = .ok (.iconst 1, 1) := by decide +kernel
theorem dX8_seesDigit_40 : decode cX8_seesDigit 40 = .ok (.goto 4, 3) := by decide +kernel
theorem dX8_seesDigit_43 : decode cX8_seesDigit 43 = .ok (.iconst 0, 1) := by decide +kernel
theorem dX8_seesDigit_44 : decode cX8_seesDigit 44 = .ok (.ireturn, 1) := by decide +kernel
theorem dX8_must_0 : decode cX8_must 0 = .ok (.aload_n 0, 1) := by decide +kernel
theorem dX8_must_1 : decode cX8_must 1 = .ok (.iload_n 1, 1) := by decide +kernel
theorem dX8_must_2 : decode cX8_must 2 = .ok (.invokevirtual 88, 3) := by decide +kernel
theorem dX8_must_5 : decode cX8_must 5 = .ok (.istore_n 2, 1) := by decide +kernel
theorem dX8_must_6 : decode cX8_must 6 = .ok (.aload_n 0, 1) := by decide +kernel
theorem dX8_must_7 : decode cX8_must 7 = .ok (.dup, 1) := by decide +kernel
theorem dX8_must_8 : decode cX8_must 8 = .ok (.getfield 81, 3) := by decide +kernel
theorem dX8_must_11 : decode cX8_must 11 = .ok (.iload_n 2, 1) := by decide +kernel
theorem dX8_must_12 : decode cX8_must 12 = .ok (.ifCond .eq 7, 3) := by decide +kernel
theorem dX8_must_15 : decode cX8_must 15 = .ok (.iconst 1, 1) := by decide +kernel
theorem dX8_must_16 : decode cX8_must 16 = .ok (.goto 4, 3) := by decide +kernel
theorem dX8_must_19 : decode cX8_must 19 = .ok (.iconst 0, 1) := by decide +kernel
theorem dX8_must_20 : decode cX8_must 20 = .ok (.iadd, 1) := by decide +kernel
theorem dX8_must_21 : decode cX8_must 21 = .ok (.putfield 81, 3) := by decide +kernel
theorem dX8_must_24 : decode cX8_must 24 = .ok (.iload_n 2, 1) := by decide +kernel
theorem dX8_must_25 : decode cX8_must 25 = .ok (.ireturn, 1) := by decide +kernel
theorem dX8_seesTalker_0 : decode cX8_seesTalker 0 = .ok (.aload_n 0, 1) := by decide +kernel
theorem dX8_seesTalker_1 : decode cX8_seesTalker 1 = .ok (.bipush 104, 2) := by decide +kernel
theorem dX8_seesTalker_3 : decode cX8_seesTalker 3 = .ok (.invokevirtual 88, 3) := by decide +kernel
theorem dX8_seesTalker_6 : decode cX8_seesTalker 6 = .ok (.ifCond .ne 39, 3) := by decide +kernel
theorem dX8_seesTalker_9 : decode cX8_seesTalker 9 = .ok (.aload_n 0, 1) := by decide +kernel
theorem dX8_seesTalker_10 : decode cX8_seesTalker 10 = .ok (.bipush 111, 2) := by decide +kernel
theorem dX8_seesTalker_12 : decode cX8_seesTalker 12 = .ok (.invokevirtual 88, 3) := by decide +kernel
theorem dX8_seesTalker_15 : decode cX8_seesTalker 15 = .ok (.ifCond .ne 30, 3) := by decide +kernel
theorem dX8_seesTalker_18 : decode cX8_seesTalker 18 = .ok (.aload_n 0, 1) := by decide +kernel
theorem dX8_seesTalker_19 : decode cX8_seesTalker 19 = .ok (.bipush 98, 2) := by decide +kernel
theorem dX8_seesTalker_21 : decode cX8_seesTalker 21 = .ok (.invokevirtual 88, 3) := by decide +kernel
theorem dX8_seesTalker_24 : decode cX8_seesTalker 24 = .ok (.ifCond .ne 21, 3) := by decide +kernel
theorem dX8_seesTalker_27 : decode cX8_seesTalker 27 = .ok (.aload_n 0, 1) := by decide +kernel
theorem dX8_seesTalker_28 : decode cX8_seesTalker 28 = .ok (.bipush 103, 2) := by decide +kernel
theorem dX8_seesTalker_30 : decode cX8_seesTalker 30 = .ok (.invokevirtual 88, 3) := by decide +kernel
theorem dX8_seesTalker_33 : decode cX8_seesTalker 33 = .ok (.ifCond .ne 12, 3) := by decide +kernel
theorem dX8_seesTalker_36 : decode cX8_seesTalker 36 = .ok (.aload_n 0, 1) := by decide +kernel
theorem dX8_seesTalker_37 : decode cX8_seesTalker 37 = .ok (.bipush 102, 2) := by decide +kernel
theorem dX8_seesTalker_39 : decode cX8_seesTalker 39 = .ok (.invokevirtual 88, 3) := by decide +kernel
theorem dX8_seesTalker_42 : decode cX8_seesTalker 42 = .ok (.ifCond .eq 7, 3) := by decide +kernel
theorem dX8_seesTalker_45 : decode cX8_seesTalker 45 = .ok (.iconst 1, 1) := by decide +kernel
theorem dX8_seesTalker_46 : decode cX8_seesTalker 46 = .ok (.goto 4, 3) := by decide +kernel
theorem dX8_seesTalker_49 : decode cX8_seesTalker 49 = .ok (.iconst 0, 1) := by decide +kernel
theorem dX8_seesTalker_50 : decode cX8_seesTalker 50 = .ok (.ireturn, 1) := by decide +kernel
theorem dX8_tellingComes_0 : decode cX8_tellingComes 0 = .ok (.iconst 0, 1) := by decide +kernel
theorem dX8_tellingComes_1 : decode cX8_tellingComes 1 = .ok (.istore_n 1, 1) := by decide +kernel
theorem dX8_tellingComes_2 : decode cX8_tellingComes 2 = .ok (.iconst (-1), 1) := by decide +kernel
theorem dX8_tellingComes_3 : decode cX8_tellingComes 3 = .ok (.istore_n 2, 1) := by decide +kernel
theorem dX8_tellingComes_4 : decode cX8_tellingComes 4 = .ok (.aload_n 0, 1) := by decide +kernel
theorem dX8_tellingComes_5 : decode cX8_tellingComes 5 = .ok (.invokevirtual 84, 3) := by decide +kernel
theorem dX8_tellingComes_8 : decode cX8_tellingComes 8 = .ok (.ifCond .eq 50, 3) := by decide +kernel
theorem dX8_tellingComes_11 : decode cX8_tellingComes 11 = .ok (.aload_n 0, 1) := by decide +kernel
theorem dX8_tellingComes_12 : decode cX8_tellingComes 12 = .ok (.getfield 9, 3) := by decide +kernel
theorem dX8_tellingComes_15 : decode cX8_tellingComes 15 = .ok (.aload_n 0, 1) := by decide +kernel
theorem dX8_tellingComes_16 : decode cX8_tellingComes 16 = .ok (.getfield 81, 3) := by decide +kernel
theorem dX8_tellingComes_19 : decode cX8_tellingComes 19 = .ok (.iaload, 1) := by decide +kernel
theorem dX8_tellingComes_20 : decode cX8_tellingComes 20 = .ok (.bipush 48, 2) := by decide +kernel
theorem dX8_tellingComes_22 : decode cX8_tellingComes 22 = .ok (.isub, 1) := by decide +kernel
theorem dX8_tellingComes_23 : decode cX8_tellingComes 23 = .ok (.istore_n 3, 1) := by decide +kernel
theorem dX8_tellingComes_24 : decode cX8_tellingComes 24 = .ok (.iload_n 3, 1) := by decide +kernel
theorem dX8_tellingComes_25 : decode cX8_tellingComes 25 = .ok (.bipush 7, 2) := by decide +kernel
theorem dX8_tellingComes_27 : decode cX8_tellingComes 27 = .ok (.if_icmp .gt 8, 3) := by decide +kernel
theorem dX8_tellingComes_30 : decode cX8_tellingComes 30 = .ok (.iload_n 3, 1) := by decide +kernel
theorem dX8_tellingComes_31 : decode cX8_tellingComes 31 = .ok (.iload_n 2, 1) := by decide +kernel
theorem dX8_tellingComes_32 : decode cX8_tellingComes 32 = .ok (.if_icmp .gt 5, 3) := by decide +kernel
theorem dX8_tellingComes_35 : decode cX8_tellingComes 35 = .ok (.iconst 0, 1) := by decide +kernel
theorem dX8_tellingComes_36 : decode cX8_tellingComes 36 = .ok (.ireturn, 1) := by decide +kernel
theorem dX8_tellingComes_37 : decode cX8_tellingComes 37 = .ok (.iload_n 1, 1) := by decide +kernel
theorem dX8_tellingComes_38 : decode cX8_tellingComes 38 = .ok (.iconst 1, 1) := by decide +kernel
theorem dX8_tellingComes_39 : decode cX8_tellingComes 39 = .ok (.iload_n 3, 1) := by decide +kernel
theorem dX8_tellingComes_40 : decode cX8_tellingComes 40 = .ok (.ishl, 1) := by decide +kernel
theorem dX8_tellingComes_41 : decode cX8_tellingComes 41 = .ok (.ior, 1) := by decide +kernel
theorem dX8_tellingComes_42 : decode cX8_tellingComes 42 = .ok (.istore_n 1, 1) := by decide +kernel
theorem dX8_tellingComes_43 : decode cX8_tellingComes 43 = .ok (.iload_n 3, 1) := by decide +kernel
theorem dX8_tellingComes_44 : decode cX8_tellingComes 44 = .ok (.istore_n 2, 1) := by decide +kernel
theorem dX8_tellingComes_45 : decode cX8_tellingComes 45 = .ok (.aload_n 0, 1) := by decide +kernel
theorem dX8_tellingComes_46 : decode cX8_tellingComes 46 = .ok (.dup, 1) := by decide +kernel
theorem dX8_tellingComes_47 : decode cX8_tellingComes 47 = .ok (.getfield 81, 3) := by decide +kernel
theorem dX8_tellingComes_50 : decode cX8_tellingComes 50 = .ok (.iconst 1, 1) := by decide +kernel
theorem dX8_tellingComes_51 : decode cX8_tellingComes 51 = .ok (.iadd, 1) := by decide +kernel
theorem dX8_tellingComes_52 : decode cX8_tellingComes 52 = .ok (.putfield 81, 3) := by decide +kernel
theorem dX8_tellingComes_55 : decode cX8_tellingComes 55 = .ok (.goto (-51), 3) := by decide +kernel
theorem dX8_tellingComes_58 : decode cX8_tellingComes 58 = .ok (.aload_n 0, 1) := by decide +kernel
theorem dX8_tellingComes_59 : decode cX8_tellingComes 59 = .ok (.iconst 0, 1) := by decide +kernel
theorem dX8_tellingComes_60 : decode cX8_tellingComes 60 = .ok (.iload_n 1, 1) := by decide +kernel
theorem dX8_tellingComes_61 : decode cX8_tellingComes 61 = .ok (.invokevirtual 104, 3) := by decide +kernel
theorem dX8_tellingComes_64 : decode cX8_tellingComes 64 = .ok (.ireturn, 1) := by decide +kernel
theorem dX8_tongue_0 : decode cX8_tongue 0 = .ok (.aload_n 0, 1) := by decide +kernel
theorem dX8_tongue_1 : decode cX8_tongue 1 = .ok (.invokevirtual 114, 3) := by decide +kernel
theorem dX8_tongue_4 : decode cX8_tongue 4 = .ok (.istore_n 1, 1) := by decide +kernel
theorem dX8_tongue_5 : decode cX8_tongue 5 = .ok (.iload_n 1, 1) := by decide +kernel
theorem dX8_tongue_6 : decode cX8_tongue 6 = .ok (.bipush (-9), 2) := by decide +kernel
theorem dX8_tongue_8 : decode cX8_tongue 8 = .ok (.if_icmp .eq 14, 3) := by decide +kernel
theorem dX8_tongue_11 : decode cX8_tongue 11 = .ok (.aload_n 0, 1) := by decide +kernel
theorem dX8_tongue_12 : decode cX8_tongue 12 = .ok (.iconst 0, 1) := by decide +kernel
theorem dX8_tongue_13 : decode cX8_tongue 13 = .ok (.putfield 78, 3) := by decide +kernel
theorem dX8_tongue_16 : decode cX8_tongue 16 = .ok (.sipush (-1000), 3) := by decide +kernel
theorem dX8_tongue_19 : decode cX8_tongue 19 = .ok (.iload_n 1, 1) := by decide +kernel
theorem dX8_tongue_20 : decode cX8_tongue 20 = .ok (.isub, 1) := by decide +kernel
theorem dX8_tongue_21 : decode cX8_tongue 21 = .ok (.ireturn, 1) := by decide +kernel
theorem dX8_tongue_22 : decode cX8_tongue 22 = .ok (.aload_n 0, 1) := by decide +kernel
theorem dX8_tongue_23 : decode cX8_tongue 23 = .ok (.getfield 118, 3) := by decide +kernel
theorem dX8_tongue_26 : decode cX8_tongue 26 = .ok (.ifnonnull 14, 3) := by decide +kernel
theorem dX8_tongue_29 : decode cX8_tongue 29 = .ok (.aload_n 0, 1) := by decide +kernel
theorem dX8_tongue_30 : decode cX8_tongue 30 = .ok (.new 7, 3) := by decide +kernel
theorem dX8_tongue_33 : decode cX8_tongue 33 = .ok (.dup, 1) := by decide +kernel
theorem dX8_tongue_34 : decode cX8_tongue 34 = .ok (.invokespecial 122, 3) := by decide +kernel
theorem dX8_tongue_37 : decode cX8_tongue 37 = .ok (.putfield 118, 3) := by decide +kernel
theorem dX8_tongue_40 : decode cX8_tongue 40 = .ok (.aload_n 0, 1) := by decide +kernel
theorem dX8_tongue_41 : decode cX8_tongue 41 = .ok (.getfield 118, 3) := by decide +kernel
theorem dX8_tongue_44 : decode cX8_tongue 44 = .ok (.aload_n 0, 1) := by decide +kernel
theorem dX8_tongue_45 : decode cX8_tongue 45 = .ok (.invokevirtual 123, 3) := by decide +kernel
theorem dX8_tongue_48 : decode cX8_tongue 48 = .ok (.iconst 0, 1) := by decide +kernel
theorem dX8_tongue_49 : decode cX8_tongue 49 = .ok (.istore_n 2, 1) := by decide +kernel
theorem dX8_tongue_50 : decode cX8_tongue 50 = .ok (.aload_n 0, 1) := by decide +kernel
theorem dX8_tongue_51 : decode cX8_tongue 51 = .ok (.iconst 0, 1) := by decide +kernel
theorem dX8_tongue_52 : decode cX8_tongue 52 = .ok (.putfield 81, 3) := by decide +kernel
theorem dX8_tongue_55 : decode cX8_tongue 55 = .ok (.aload_n 0, 1) := by decide +kernel
theorem dX8_tongue_56 : decode cX8_tongue 56 = .ok (.getfield 81, 3) := by decide +kernel
theorem dX8_tongue_59 : decode cX8_tongue 59 = .ok (.aload_n 0, 1) := by decide +kernel
theorem dX8_tongue_60 : decode cX8_tongue 60 = .ok (.getfield 78, 3) := by decide +kernel
theorem dX8_tongue_63 : decode cX8_tongue 63 = .ok (.if_icmp .ge 77, 3) := by decide +kernel
theorem dX8_tongue_66 : decode cX8_tongue 66 = .ok (.aload_n 0, 1) := by decide +kernel
theorem dX8_tongue_67 : decode cX8_tongue 67 = .ok (.getfield 81, 3) := by decide +kernel
theorem dX8_tongue_70 : decode cX8_tongue 70 = .ok (.istore_n 3, 1) := by decide +kernel
theorem dX8_tongue_71 : decode cX8_tongue 71 = .ok (.aload_n 0, 1) := by decide +kernel
theorem dX8_tongue_72 : decode cX8_tongue 72 = .ok (.invokevirtual 127, 3) := by decide +kernel
theorem dX8_tongue_75 : decode cX8_tongue 75 = .ok (.ifCond .ne 22, 3) := by decide +kernel
theorem dX8_tongue_78 : decode cX8_tongue 78 = .ok (.aload_n 0, 1) := by decide +kernel
theorem dX8_tongue_79 : decode cX8_tongue 79 = .ok (.aload_n 0, 1) := by decide +kernel
theorem dX8_tongue_80 : decode cX8_tongue 80 = .ok (.getfield 118, 3) := by decide +kernel
theorem dX8_tongue_83 : decode cX8_tongue 83 = .ok (.invokevirtual 123, 3) := by decide +kernel
theorem dX8_tongue_86 : decode cX8_tongue 86 = .ok (.aload_n 0, 1) := by decide +kernel
theorem dX8_tongue_87 : decode cX8_tongue 87 = .ok (.iconst 0, 1) := by decide +kernel
theorem dX8_tongue_88 : decode cX8_tongue 88 = .ok (.putfield 78, 3) := by decide +kernel
theorem dX8_tongue_91 : decode cX8_tongue 91 = .ok (.sipush (-2000), 3) := by decide +kernel
theorem dX8_tongue_94 : decode cX8_tongue 94 = .ok (.iload_n 3, 1) := by decide +kernel
theorem dX8_tongue_95 : decode cX8_tongue 95 = .ok (.isub, 1) := by decide +kernel
theorem dX8_tongue_96 : decode cX8_tongue 96 = .ok (.ireturn, 1) := by decide +kernel
theorem dX8_tongue_97 : decode cX8_tongue 97 = .ok (.aload_n 0, 1) := by decide +kernel
theorem dX8_tongue_98 : decode cX8_tongue 98 = .ok (.getfield 9, 3) := by decide +kernel
theorem dX8_tongue_101 : decode cX8_tongue 101 = .ok (.aload_n 0, 1) := by decide +kernel
theorem dX8_tongue_102 : decode cX8_tongue 102 = .ok (.getfield 81, 3) := by decide +kernel
theorem dX8_tongue_105 : decode cX8_tongue 105 = .ok (.iaload, 1) := by decide +kernel
theorem dX8_tongue_106 : decode cX8_tongue 106 = .ok (.bipush 59, 2) := by decide +kernel
theorem dX8_tongue_108 : decode cX8_tongue 108 = .ok (.if_icmp .eq 16, 3) := by decide +kernel
theorem dX8_tongue_111 : decode cX8_tongue 111 = .ok (.aload_n 0, 1) := by decide +kernel
theorem dX8_tongue_112 : decode cX8_tongue 112 = .ok (.dup, 1) := by decide +kernel
theorem dX8_tongue_113 : decode cX8_tongue 113 = .ok (.getfield 81, 3) := by decide +kernel
theorem dX8_tongue_116 : decode cX8_tongue 116 = .ok (.iconst 1, 1) := by decide +kernel
theorem dX8_tongue_117 : decode cX8_tongue 117 = .ok (.iadd, 1) := by decide +kernel
theorem dX8_tongue_118 : decode cX8_tongue 118 = .ok (.putfield 81, 3) := by decide +kernel
theorem dX8_tongue_121 : decode cX8_tongue 121 = .ok (.goto (-24), 3) := by decide +kernel
theorem dX8_tongue_124 : decode cX8_tongue 124 = .ok (.aload_n 0, 1) := by decide +kernel
theorem dX8_tongue_125 : decode cX8_tongue 125 = .ok (.dup, 1) := by decide +kernel
theorem dX8_tongue_126 : decode cX8_tongue 126 = .ok (.getfield 81, 3) := by decide +kernel
theorem dX8_tongue_129 : decode cX8_tongue 129 = .ok (.iconst 1, 1) := by decide +kernel
theorem dX8_tongue_130 : decode cX8_tongue 130 = .ok (.iadd, 1) := by decide +kernel
theorem dX8_tongue_131 : decode cX8_tongue 131 = .ok (.putfield 81, 3) := by decide +kernel
theorem dX8_tongue_134 : decode cX8_tongue 134 = .ok (.iinc 2 1, 3) := by decide +kernel
theorem dX8_tongue_137 : decode cX8_tongue 137 = .ok (.goto (-82), 3) := by decide +kernel
theorem dX8_tongue_140 : decode cX8_tongue 140 = .ok (.aload_n 0, 1) := by decide +kernel
theorem dX8_tongue_141 : decode cX8_tongue 141 = .ok (.iconst 0, 1) := by decide +kernel
theorem dX8_tongue_142 : decode cX8_tongue 142 = .ok (.putfield 78, 3) := by decide +kernel
theorem dX8_tongue_145 : decode cX8_tongue 145 = .ok (.iload_n 2, 1) := by decide +kernel
theorem dX8_tongue_146 : decode cX8_tongue 146 = .ok (.ireturn, 1) := by decide +kernel
theorem dX8_word_0 : decode cX8_word 0 = .ok (.aload_n 0, 1) := by decide +kernel
theorem dX8_word_1 : decode cX8_word 1 = .ok (.iload_n 1, 1) := by decide +kernel
theorem dX8_word_2 : decode cX8_word 2 = .ok (.invokevirtual 130, 3) := by decide +kernel
theorem dX8_word_5 : decode cX8_word 5 = .ok (.ifCond .ne 9, 3) := by decide +kernel
theorem dX8_word_8 : decode cX8_word 8 = .ok (.aload_n 0, 1) := by decide +kernel
theorem dX8_word_9 : decode cX8_word 9 = .ok (.iconst (-1), 1) := by decide +kernel
theorem dX8_word_10 : decode cX8_word 10 = .ok (.invokevirtual 74, 3) := by decide +kernel
theorem dX8_word_13 : decode cX8_word 13 = .ok (.ireturn, 1) := by decide +kernel
theorem dX8_word_14 : decode cX8_word 14 = .ok (.iload_n 2, 1) := by decide +kernel
theorem dX8_word_15 : decode cX8_word 15 = .ok (.iconst 0, 1) := by decide +kernel
theorem dX8_word_16 : decode cX8_word 16 = .ok (.iconst 1, 1) := by decide +kernel
theorem dX8_word_17 : decode cX8_word 17 = .ok (.invokestatic 63, 3) := by decide +kernel
theorem dX8_word_20 : decode cX8_word 20 = .ok (.ifCond .ne 10, 3) := by decide +kernel
theorem dX8_word_23 : decode cX8_word 23 = .ok (.aload_n 0, 1) := by decide +kernel
theorem dX8_word_24 : decode cX8_word 24 = .ok (.bipush (-2), 2) := by decide +kernel
theorem dX8_word_26 : decode cX8_word 26 = .ok (.invokevirtual 74, 3) := by decide +kernel
theorem dX8_word_29 : decode cX8_word 29 = .ok (.ireturn, 1) := by decide +kernel
theorem dX8_word_30 : decode cX8_word 30 = .ok (.iload_n 2, 1) := by decide +kernel
theorem dX8_word_31 : decode cX8_word 31 = .ok (.ifCond .ne 12, 3) := by decide +kernel
theorem dX8_word_34 : decode cX8_word 34 = .ok (.aload_n 0, 1) := by decide +kernel
theorem dX8_word_35 : decode cX8_word 35 = .ok (.getfield 22, 3) := by decide +kernel
theorem dX8_word_38 : decode cX8_word 38 = .ok (.iload_n 1, 1) := by decide +kernel
theorem dX8_word_39 : decode cX8_word 39 = .ok (.iaload, 1) := by decide +kernel
theorem dX8_word_40 : decode cX8_word 40 = .ok (.goto 9, 3) := by decide +kernel
theorem dX8_word_43 : decode cX8_word 43 = .ok (.aload_n 0, 1) := by decide +kernel
theorem dX8_word_44 : decode cX8_word 44 = .ok (.getfield 25, 3) := by decide +kernel
theorem dX8_word_47 : decode cX8_word 47 = .ok (.iload_n 1, 1) := by decide +kernel
theorem dX8_word_48 : decode cX8_word 48 = .ok (.iaload, 1) := by decide +kernel
theorem dX8_word_49 : decode cX8_word 49 = .ok (.ireturn, 1) := by decide +kernel
theorem dX8_weight_0 : decode cX8_weight 0 = .ok (.iload_n 1, 1) := by decide +kernel
theorem dX8_weight_1 : decode cX8_weight 1 = .ok (.invokestatic 133, 3) := by decide +kernel
theorem dX8_weight_4 : decode cX8_weight 4 = .ok (.ifCond .eq 12, 3) := by decide +kernel
theorem dX8_weight_7 : decode cX8_weight 7 = .ok (.aload_n 0, 1) := by decide +kernel
theorem dX8_weight_8 : decode cX8_weight 8 = .ok (.getfield 28, 3) := by decide +kernel
theorem dX8_weight_11 : decode cX8_weight 11 = .ok (.iload_n 1, 1) := by decide +kernel
theorem dX8_weight_12 : decode cX8_weight 12 = .ok (.iaload, 1) := by decide +kernel
theorem dX8_weight_13 : decode cX8_weight 13 = .ok (.goto 8, 3) := by decide +kernel
theorem dX8_weight_16 : decode cX8_weight 16 = .ok (.aload_n 0, 1) := by decide +kernel
theorem dX8_weight_17 : decode cX8_weight 17 = .ok (.iconst (-1), 1) := by decide +kernel
theorem dX8_weight_18 : decode cX8_weight 18 = .ok (.invokevirtual 74, 3) := by decide +kernel
theorem dX8_weight_21 : decode cX8_weight 21 = .ok (.ireturn, 1) := by decide +kernel
theorem dX8_truth_0 : decode cX8_truth 0 = .ok (.iload_n 1, 1) := by decide +kernel
theorem dX8_truth_1 : decode cX8_truth 1 = .ok (.invokestatic 133, 3) := by decide +kernel
theorem dX8_truth_4 : decode cX8_truth 4 = .ok (.ifCond .ne 9, 3) := by decide +kernel
theorem dX8_truth_7 : decode cX8_truth 7 = .ok (.aload_n 0, 1) := by decide +kernel
theorem dX8_truth_8 : decode cX8_truth 8 = .ok (.iconst (-1), 1) := by decide +kernel
theorem dX8_truth_9 : decode cX8_truth 9 = .ok (.invokevirtual 74, 3) := by decide +kernel
theorem dX8_truth_12 : decode cX8_truth 12 = .ok (.ireturn, 1) := by decide +kernel
theorem dX8_truth_13 : decode cX8_truth 13 = .ok (.aload_n 0, 1) := by decide +kernel
theorem dX8_truth_14 : decode cX8_truth 14 = .ok (.getfield 136, 3) := by decide +kernel
theorem dX8_truth_17 : decode cX8_truth 17 = .ok (.istore_n 2, 1) := by decide +kernel
theorem dX8_truth_18 : decode cX8_truth 18 = .ok (.aload_n 0, 1) := by decide +kernel
theorem dX8_truth_19 : decode cX8_truth 19 = .ok (.iload_n 1, 1) := by decide +kernel
theorem dX8_truth_20 : decode cX8_truth 20 = .ok (.putfield 136, 3) := by decide +kernel
theorem dX8_truth_23 : decode cX8_truth 23 = .ok (.iload_n 2, 1) := by decide +kernel
theorem dX8_truth_24 : decode cX8_truth 24 = .ok (.ireturn, 1) := by decide +kernel
theorem dX8_law_0 : decode cX8_law 0 = .ok (.iload_n 1, 1) := by decide +kernel
theorem dX8_law_1 : decode cX8_law 1 = .ok (.iconst 0, 1) := by decide +kernel
theorem dX8_law_2 : decode cX8_law 2 = .ok (.iconst 4, 1) := by decide +kernel
theorem dX8_law_3 : decode cX8_law 3 = .ok (.invokestatic 63, 3) := by decide +kernel
theorem dX8_law_6 : decode cX8_law 6 = .ok (.ifCond .ne 10, 3) := by decide +kernel
theorem dX8_law_9 : decode cX8_law 9 = .ok (.aload_n 0, 1) := by decide +kernel
theorem dX8_law_10 : decode cX8_law 10 = .ok (.bipush (-2), 2) := by decide +kernel
theorem dX8_law_12 : decode cX8_law 12 = .ok (.invokevirtual 74, 3) := by decide +kernel
theorem dX8_law_15 : decode cX8_law 15 = .ok (.ireturn, 1) := by decide +kernel
theorem dX8_law_16 : decode cX8_law 16 = .ok (.aload_n 0, 1) := by decide +kernel
theorem dX8_law_17 : decode cX8_law 17 = .ok (.getfield 111, 3) := by decide +kernel
theorem dX8_law_20 : decode cX8_law 20 = .ok (.istore_n 2, 1) := by decide +kernel
theorem dX8_law_21 : decode cX8_law 21 = .ok (.aload_n 0, 1) := by decide +kernel
theorem dX8_law_22 : decode cX8_law 22 = .ok (.iload_n 1, 1) := by decide +kernel
theorem dX8_law_23 : decode cX8_law 23 = .ok (.putfield 111, 3) := by decide +kernel
theorem dX8_law_26 : decode cX8_law 26 = .ok (.iload_n 2, 1) := by decide +kernel
theorem dX8_law_27 : decode cX8_law 27 = .ok (.ireturn, 1) := by decide +kernel
theorem dX8_row_0 : decode cX8_row 0 = .ok (.aload_n 0, 1) := by decide +kernel
theorem dX8_row_1 : decode cX8_row 1 = .ok (.iload_n 1, 1) := by decide +kernel
theorem dX8_row_2 : decode cX8_row 2 = .ok (.invokevirtual 130, 3) := by decide +kernel
theorem dX8_row_5 : decode cX8_row 5 = .ok (.ifCond .ne 9, 3) := by decide +kernel
theorem dX8_row_8 : decode cX8_row 8 = .ok (.aload_n 0, 1) := by decide +kernel
theorem dX8_row_9 : decode cX8_row 9 = .ok (.iconst (-1), 1) := by decide +kernel
theorem dX8_row_10 : decode cX8_row 10 = .ok (.invokevirtual 74, 3) := by decide +kernel
theorem dX8_row_13 : decode cX8_row 13 = .ok (.ireturn, 1) := by decide +kernel
theorem dX8_row_14 : decode cX8_row 14 = .ok (.aload_n 0, 1) := by decide +kernel
theorem dX8_row_15 : decode cX8_row 15 = .ok (.getfield 139, 3) := by decide +kernel
theorem dX8_row_18 : decode cX8_row 18 = .ok (.bipush 6, 2) := by decide +kernel
theorem dX8_row_20 : decode cX8_row 20 = .ok (.if_icmp .ne 10, 3) := by decide +kernel
theorem dX8_row_23 : decode cX8_row 23 = .ok (.aload_n 0, 1) := by decide +kernel
theorem dX8_row_24 : decode cX8_row 24 = .ok (.bipush (-6), 2) := by decide +kernel
theorem dX8_row_26 : decode cX8_row 26 = .ok (.invokevirtual 74, 3) := by decide +kernel
theorem dX8_row_29 : decode cX8_row 29 = .ok (.ireturn, 1) := by decide +kernel
theorem dX8_row_30 : decode cX8_row 30 = .ok (.aload_n 0, 1) := by decide +kernel
theorem dX8_row_31 : decode cX8_row 31 = .ok (.getfield 13, 3) := by decide +kernel
theorem dX8_row_34 : decode cX8_row 34 = .ok (.aload_n 0, 1) := by decide +kernel
theorem dX8_row_35 : decode cX8_row 35 = .ok (.dup, 1) := by decide +kernel
theorem dX8_row_36 : decode cX8_row 36 = .ok (.getfield 139, 3) := by decide +kernel
theorem dX8_row_39 : decode cX8_row 39 = .ok (.dup_x1, 1) := by decide +kernel
theorem dX8_row_40 : decode cX8_row 40 = .ok (.iconst 1, 1) := by decide +kernel
theorem dX8_row_41 : decode cX8_row 41 = .ok (.iadd, 1) := by decide +kernel
theorem dX8_row_42 : decode cX8_row 42 = .ok (.putfield 139, 3) := by decide +kernel
theorem dX8_row_45 : decode cX8_row 45 = .ok (.iload_n 1, 1) := by decide +kernel
theorem dX8_row_46 : decode cX8_row 46 = .ok (.iastore, 1) := by decide +kernel
theorem dX8_row_47 : decode cX8_row 47 = .ok (.aload_n 0, 1) := by decide +kernel
theorem dX8_row_48 : decode cX8_row 48 = .ok (.getfield 139, 3) := by decide +kernel
theorem dX8_row_51 : decode cX8_row 51 = .ok (.ireturn, 1) := by decide +kernel
theorem dX8_meaning_0 : decode cX8_meaning 0 = .ok (.sipush 255, 3) := by decide +kernel
theorem dX8_meaning_3 : decode cX8_meaning 3 = .ok (.istore_n 3, 1) := by decide +kernel
theorem dX8_meaning_4 : decode cX8_meaning 4 = .ok (.iconst 0, 1) := by decide +kernel
theorem dX8_meaning_5 : decode cX8_meaning 5 = .ok (.istore 4, 2) := by decide +kernel
theorem dX8_meaning_7 : decode cX8_meaning 7 = .ok (.iconst 0, 1) := by decide +kernel
theorem dX8_meaning_8 : decode cX8_meaning 8 = .ok (.istore 5, 2) := by decide +kernel
theorem dX8_meaning_10 : decode cX8_meaning 10 = .ok (.iconst 1, 1) := by decide +kernel
theorem dX8_meaning_11 : decode cX8_meaning 11 = .ok (.istore 6, 2) := by decide +kernel
theorem dX8_meaning_13 : decode cX8_meaning 13 = .ok (.iconst 0, 1) := by decide +kernel
theorem dX8_meaning_14 : decode cX8_meaning 14 = .ok (.istore 7, 2) := by decide +kernel
theorem dX8_meaning_16 : decode cX8_meaning 16 = .ok (.iload 7, 2) := by decide +kernel
theorem dX8_meaning_18 : decode cX8_meaning 18 = .ok (.iload_n 2, 1) := by decide +kernel
theorem dX8_meaning_19 : decode cX8_meaning 19 = .ok (.if_icmp .ge 128, 3) := by decide +kernel
theorem dX8_meaning_22 : decode cX8_meaning 22 = .ok (.aload_n 1, 1) := by decide +kernel
theorem dX8_meaning_23 : decode cX8_meaning 23 = .ok (.iload 7, 2) := by decide +kernel
theorem dX8_meaning_25 : decode cX8_meaning 25 = .ok (.iaload, 1) := by decide +kernel
theorem dX8_meaning_26 : decode cX8_meaning 26 = .ok (.istore 8, 2) := by decide +kernel
theorem dX8_meaning_28 : decode cX8_meaning 28 = .ok (.iload 4, 2) := by decide +kernel
theorem dX8_meaning_30 : decode cX8_meaning 30 = .ok (.aload_n 0, 1) := by decide +kernel
theorem dX8_meaning_31 : decode cX8_meaning 31 = .ok (.getfield 22, 3) := by decide +kernel
theorem dX8_meaning_34 : decode cX8_meaning 34 = .ok (.iload 8, 2) := by decide +kernel
theorem dX8_meaning_36 : decode cX8_meaning 36 = .ok (.iaload, 1) := by decide +kernel
theorem dX8_meaning_37 : decode cX8_meaning 37 = .ok (.iconst 1, 1) := by decide +kernel
theorem dX8_meaning_38 : decode cX8_meaning 38 = .ok (.if_icmp .ne 7, 3) := by decide +kernel
theorem dX8_meaning_41 : decode cX8_meaning 41 = .ok (.iconst 1, 1) := by decide +kernel
theorem dX8_meaning_42 : decode cX8_meaning 42 = .ok (.goto 4, 3) := by decide +kernel
theorem dX8_meaning_45 : decode cX8_meaning 45 = .ok (.iconst 0, 1) := by decide +kernel
theorem dX8_meaning_46 : decode cX8_meaning 46 = .ok (.ixor, 1) := by decide +kernel
theorem dX8_meaning_47 : decode cX8_meaning 47 = .ok (.istore 4, 2) := by decide +kernel
theorem dX8_meaning_49 : decode cX8_meaning 49 = .ok (.iload 5, 2) := by decide +kernel
theorem dX8_meaning_51 : decode cX8_meaning 51 = .ok (.aload_n 0, 1) := by decide +kernel
theorem dX8_meaning_52 : decode cX8_meaning 52 = .ok (.getfield 22, 3) := by decide +kernel
theorem dX8_meaning_55 : decode cX8_meaning 55 = .ok (.iload 8, 2) := by decide +kernel
theorem dX8_meaning_57 : decode cX8_meaning 57 = .ok (.iaload, 1) := by decide +kernel
theorem dX8_meaning_58 : decode cX8_meaning 58 = .ok (.iconst 2, 1) := by decide +kernel
theorem dX8_meaning_59 : decode cX8_meaning 59 = .ok (.if_icmp .ne 7, 3) := by decide +kernel
theorem dX8_meaning_62 : decode cX8_meaning 62 = .ok (.iconst 1, 1) := by decide +kernel
theorem dX8_meaning_63 : decode cX8_meaning 63 = .ok (.goto 4, 3) := by decide +kernel
theorem dX8_meaning_66 : decode cX8_meaning 66 = .ok (.iconst 0, 1) := by decide +kernel
theorem dX8_meaning_67 : decode cX8_meaning 67 = .ok (.ior, 1) := by decide +kernel
theorem dX8_meaning_68 : decode cX8_meaning 68 = .ok (.istore 5, 2) := by decide +kernel
theorem dX8_meaning_70 : decode cX8_meaning 70 = .ok (.aload_n 0, 1) := by decide +kernel
theorem dX8_meaning_71 : decode cX8_meaning 71 = .ok (.getfield 22, 3) := by decide +kernel
theorem dX8_meaning_74 : decode cX8_meaning 74 = .ok (.iload 8, 2) := by decide +kernel
theorem dX8_meaning_76 : decode cX8_meaning 76 = .ok (.iaload, 1) := by decide +kernel
theorem dX8_meaning_77 : decode cX8_meaning 77 = .ok (.ifCond .ne 64, 3) := by decide +kernel
theorem dX8_meaning_80 : decode cX8_meaning 80 = .ok (.iload 4, 2) := by decide +kernel
theorem dX8_meaning_82 : decode cX8_meaning 82 = .ok (.ifCond .eq 19, 3) := by decide +kernel
theorem dX8_meaning_85 : decode cX8_meaning 85 = .ok (.sipush 255, 3) := by decide +kernel
theorem dX8_meaning_88 : decode cX8_meaning 88 = .ok (.aload_n 0, 1) := by decide +kernel
theorem dX8_meaning_89 : decode cX8_meaning 89 = .ok (.getfield 25, 3) := by decide +kernel
theorem dX8_meaning_92 : decode cX8_meaning 92 = .ok (.iload 8, 2) := by decide +kernel
theorem dX8_meaning_94 : decode cX8_meaning 94 = .ok (.iaload, 1) := by decide +kernel
theorem dX8_meaning_95 : decode cX8_meaning 95 = .ok (.iconst (-1), 1) := by decide +kernel
theorem dX8_meaning_96 : decode cX8_meaning 96 = .ok (.ixor, 1) := by decide +kernel
theorem dX8_meaning_97 : decode cX8_meaning 97 = .ok (.iand, 1) := by decide +kernel
theorem dX8_meaning_98 : decode cX8_meaning 98 = .ok (.goto 10, 3) := by decide +kernel
theorem dX8_meaning_101 : decode cX8_meaning 101 = .ok (.aload_n 0, 1) := by decide +kernel
theorem dX8_meaning_102 : decode cX8_meaning 102 = .ok (.getfield 25, 3) := by decide +kernel
theorem dX8_meaning_105 : decode cX8_meaning 105 = .ok (.iload 8, 2) := by decide +kernel
theorem dX8_meaning_107 : decode cX8_meaning 107 = .ok (.iaload, 1) := by decide +kernel
theorem dX8_meaning_108 : decode cX8_meaning 108 = .ok (.istore 9, 2) := by decide +kernel
theorem dX8_meaning_110 : decode cX8_meaning 110 = .ok (.iload 5, 2) := by decide +kernel
theorem dX8_meaning_112 : decode cX8_meaning 112 = .ok (.ifCond .eq 15, 3) := by decide +kernel
theorem dX8_meaning_115 : decode cX8_meaning 115 = .ok (.iload 6, 2) := by decide +kernel
theorem dX8_meaning_117 : decode cX8_meaning 117 = .ok (.ifCond .ne 10, 3) := by decide +kernel
theorem dX8_meaning_120 : decode cX8_meaning 120 = .ok (.iload_n 3, 1) := by decide +kernel
theorem dX8_meaning_121 : decode cX8_meaning 121 = .ok (.iload 9, 2) := by decide +kernel
theorem dX8_meaning_123 : decode cX8_meaning 123 = .ok (.ior, 1) := by decide +kernel
theorem dX8_meaning_124 : decode cX8_meaning 124 = .ok (.goto 7, 3) := by decide +kernel
theorem dX8_meaning_127 : decode cX8_meaning 127 = .ok (.iload_n 3, 1) := by decide +kernel
theorem dX8_meaning_128 : decode cX8_meaning 128 = .ok (.iload 9, 2) := by decide +kernel
theorem dX8_meaning_130 : decode cX8_meaning 130 = .ok (.iand, 1) := by decide +kernel
theorem dX8_meaning_131 : decode cX8_meaning 131 = .ok (.istore_n 3, 1) := by decide +kernel
theorem dX8_meaning_132 : decode cX8_meaning 132 = .ok (.iconst 0, 1) := by decide +kernel
theorem dX8_meaning_133 : decode cX8_meaning 133 = .ok (.istore 4, 2) := by decide +kernel
theorem dX8_meaning_135 : decode cX8_meaning 135 = .ok (.iconst 0, 1) := by decide +kernel
theorem dX8_meaning_136 : decode cX8_meaning 136 = .ok (.istore 5, 2) := by decide +kernel
theorem dX8_meaning_138 : decode cX8_meaning 138 = .ok (.iconst 0, 1) := by decide +kernel
theorem dX8_meaning_139 : decode cX8_meaning 139 = .ok (.istore 6, 2) := by decide +kernel
theorem dX8_meaning_141 : decode cX8_meaning 141 = .ok (.iinc 7 1, 3) := by decide +kernel
theorem dX8_meaning_144 : decode cX8_meaning 144 = .ok (.goto (-128), 3) := by decide +kernel
theorem dX8_meaning_147 : decode cX8_meaning 147 = .ok (.iload_n 3, 1) := by decide +kernel
theorem dX8_meaning_148 : decode cX8_meaning 148 = .ok (.ireturn, 1) := by decide +kernel
theorem dX8_mayFollow_0 : decode cX8_mayFollow 0 = .ok (.iload_n 0, 1) := by decide +kernel
theorem dX8_mayFollow_1 : decode cX8_mayFollow 1 = .ok (.tableswitch 82 0 3 #[31, 42, 53, 69], 31) := by decide +kernel
theorem dX8_mayFollow_32 : decode cX8_mayFollow 32 = .ok (.iload_n 1, 1) := by decide +kernel
theorem dX8_mayFollow_33 : decode cX8_mayFollow 33 = .ok (.iload_n 3, 1) := by decide +kernel
theorem dX8_mayFollow_34 : decode cX8_mayFollow 34 = .ok (.if_icmp .ge 7, 3) := by decide +kernel
theorem dX8_mayFollow_37 : decode cX8_mayFollow 37 = .ok (.iconst 1, 1) := by decide +kernel
theorem dX8_mayFollow_38 : decode cX8_mayFollow 38 = .ok (.goto 4, 3) := by decide +kernel
theorem dX8_mayFollow_41 : decode cX8_mayFollow 41 = .ok (.iconst 0, 1) := by decide +kernel
theorem dX8_mayFollow_42 : decode cX8_mayFollow 42 = .ok (.ireturn, 1) := by decide +kernel
theorem dX8_mayFollow_43 : decode cX8_mayFollow 43 = .ok (.iload_n 1, 1) := by decide +kernel
theorem dX8_mayFollow_44 : decode cX8_mayFollow 44 = .ok (.iload_n 3, 1) := by decide +kernel
theorem dX8_mayFollow_45 : decode cX8_mayFollow 45 = .ok (.if_icmp .gt 7, 3) := by decide +kernel
theorem dX8_mayFollow_48 : decode cX8_mayFollow 48 = .ok (.iconst 1, 1) := by decide +kernel
theorem dX8_mayFollow_49 : decode cX8_mayFollow 49 = .ok (.goto 4, 3) := by decide +kernel
theorem dX8_mayFollow_52 : decode cX8_mayFollow 52 = .ok (.iconst 0, 1) := by decide +kernel
theorem dX8_mayFollow_53 : decode cX8_mayFollow 53 = .ok (.ireturn, 1) := by decide +kernel
theorem dX8_mayFollow_54 : decode cX8_mayFollow 54 = .ok (.iload_n 1, 1) := by decide +kernel
theorem dX8_mayFollow_55 : decode cX8_mayFollow 55 = .ok (.iload_n 2, 1) := by decide +kernel
theorem dX8_mayFollow_56 : decode cX8_mayFollow 56 = .ok (.isub, 1) := by decide +kernel
theorem dX8_mayFollow_57 : decode cX8_mayFollow 57 = .ok (.iload_n 3, 1) := by decide +kernel
theorem dX8_mayFollow_58 : decode cX8_mayFollow 58 = .ok (.iload 4, 2) := by decide +kernel
theorem dX8_mayFollow_60 : decode cX8_mayFollow 60 = .ok (.isub, 1) := by decide +kernel
theorem dX8_mayFollow_61 : decode cX8_mayFollow 61 = .ok (.if_icmp .ge 7, 3) := by decide +kernel
theorem dX8_mayFollow_64 : decode cX8_mayFollow 64 = .ok (.iconst 1, 1) := by decide +kernel
theorem dX8_mayFollow_65 : decode cX8_mayFollow 65 = .ok (.goto 4, 3) := by decide +kernel
theorem dX8_mayFollow_68 : decode cX8_mayFollow 68 = .ok (.iconst 0, 1) := by decide +kernel
theorem dX8_mayFollow_69 : decode cX8_mayFollow 69 = .ok (.ireturn, 1) := by decide +kernel
theorem dX8_mayFollow_70 : decode cX8_mayFollow 70 = .ok (.iload_n 1, 1) := by decide +kernel
theorem dX8_mayFollow_71 : decode cX8_mayFollow 71 = .ok (.iload_n 3, 1) := by decide +kernel
theorem dX8_mayFollow_72 : decode cX8_mayFollow 72 = .ok (.iconst 1, 1) := by decide +kernel
theorem dX8_mayFollow_73 : decode cX8_mayFollow 73 = .ok (.iadd, 1) := by decide +kernel
theorem dX8_mayFollow_74 : decode cX8_mayFollow 74 = .ok (.if_icmp .ne 7, 3) := by decide +kernel
theorem dX8_mayFollow_77 : decode cX8_mayFollow 77 = .ok (.iconst 1, 1) := by decide +kernel
theorem dX8_mayFollow_78 : decode cX8_mayFollow 78 = .ok (.goto 4, 3) := by decide +kernel
theorem dX8_mayFollow_81 : decode cX8_mayFollow 81 = .ok (.iconst 0, 1) := by decide +kernel
theorem dX8_mayFollow_82 : decode cX8_mayFollow 82 = .ok (.ireturn, 1) := by decide +kernel
theorem dX8_mayFollow_83 : decode cX8_mayFollow 83 = .ok (.iconst 1, 1) := by decide +kernel
theorem dX8_mayFollow_84 : decode cX8_mayFollow 84 = .ok (.ireturn, 1) := by decide +kernel
theorem dX8_means_0 : decode cX8_means 0 = .ok (.aload_n 0, 1) := by decide +kernel
theorem dX8_means_1 : decode cX8_means 1 = .ok (.aload_n 0, 1) := by decide +kernel
theorem dX8_means_2 : decode cX8_means 2 = .ok (.getfield 13, 3) := by decide +kernel
theorem dX8_means_5 : decode cX8_means 5 = .ok (.aload_n 0, 1) := by decide +kernel
theorem dX8_means_6 : decode cX8_means 6 = .ok (.getfield 139, 3) := by decide +kernel
theorem dX8_means_9 : decode cX8_means 9 = .ok (.invokevirtual 142, 3) := by decide +kernel
theorem dX8_means_12 : decode cX8_means 12 = .ok (.istore_n 1, 1) := by decide +kernel
theorem dX8_means_13 : decode cX8_means 13 = .ok (.aload_n 0, 1) := by decide +kernel
theorem dX8_means_14 : decode cX8_means 14 = .ok (.iconst 0, 1) := by decide +kernel
theorem dX8_means_15 : decode cX8_means 15 = .ok (.putfield 139, 3) := by decide +kernel
theorem dX8_means_18 : decode cX8_means 18 = .ok (.iload_n 1, 1) := by decide +kernel
theorem dX8_means_19 : decode cX8_means 19 = .ok (.ireturn, 1) := by decide +kernel
theorem dX8_settles_0 : decode cX8_settles 0 = .ok (.iload_n 1, 1) := by decide +kernel
theorem dX8_settles_1 : decode cX8_settles 1 = .ok (.invokestatic 153, 3) := by decide +kernel
theorem dX8_settles_4 : decode cX8_settles 4 = .ok (.ifCond .ne 9, 3) := by decide +kernel
theorem dX8_settles_7 : decode cX8_settles 7 = .ok (.aload_n 0, 1) := by decide +kernel
theorem dX8_settles_8 : decode cX8_settles 8 = .ok (.iconst (-1), 1) := by decide +kernel
theorem dX8_settles_9 : decode cX8_settles 9 = .ok (.invokevirtual 74, 3) := by decide +kernel
theorem dX8_settles_12 : decode cX8_settles 12 = .ok (.ireturn, 1) := by decide +kernel
theorem dX8_settles_13 : decode cX8_settles 13 = .ok (.iload_n 1, 1) := by decide +kernel
theorem dX8_settles_14 : decode cX8_settles 14 = .ok (.aload_n 0, 1) := by decide +kernel
theorem dX8_settles_15 : decode cX8_settles 15 = .ok (.aload_n 0, 1) := by decide +kernel
theorem dX8_settles_16 : decode cX8_settles 16 = .ok (.getfield 13, 3) := by decide +kernel
theorem dX8_settles_19 : decode cX8_settles 19 = .ok (.aload_n 0, 1) := by decide +kernel
theorem dX8_settles_20 : decode cX8_settles 20 = .ok (.getfield 139, 3) := by decide +kernel
theorem dX8_settles_23 : decode cX8_settles 23 = .ok (.invokevirtual 142, 3) := by decide +kernel
theorem dX8_settles_26 : decode cX8_settles 26 = .ok (.invokestatic 156, 3) := by decide +kernel
theorem dX8_settles_29 : decode cX8_settles 29 = .ok (.istore_n 2, 1) := by decide +kernel
theorem dX8_settles_30 : decode cX8_settles 30 = .ok (.aload_n 0, 1) := by decide +kernel
theorem dX8_settles_31 : decode cX8_settles 31 = .ok (.iconst 0, 1) := by decide +kernel
theorem dX8_settles_32 : decode cX8_settles 32 = .ok (.putfield 139, 3) := by decide +kernel
theorem dX8_settles_35 : decode cX8_settles 35 = .ok (.iload_n 2, 1) := by decide +kernel
theorem dX8_settles_36 : decode cX8_settles 36 = .ok (.ifCond .eq 7, 3) := by decide +kernel
theorem dX8_settles_39 : decode cX8_settles 39 = .ok (.iconst 1, 1) := by decide +kernel
theorem dX8_settles_40 : decode cX8_settles 40 = .ok (.goto 4, 3) := by decide +kernel
theorem dX8_settles_43 : decode cX8_settles 43 = .ok (.iconst 0, 1) := by decide +kernel
theorem dX8_settles_44 : decode cX8_settles 44 = .ok (.ireturn, 1) := by decide +kernel
theorem dX8_list_0 : decode cX8_list 0 = .ok (.aload_n 0, 1) := by decide +kernel
theorem dX8_list_1 : decode cX8_list 1 = .ok (.iconst 0, 1) := by decide +kernel
theorem dX8_list_2 : decode cX8_list 2 = .ok (.putfield 159, 3) := by decide +kernel
theorem dX8_list_5 : decode cX8_list 5 = .ok (.aload_n 0, 1) := by decide +kernel
theorem dX8_list_6 : decode cX8_list 6 = .ok (.iconst 0, 1) := by decide +kernel
theorem dX8_list_7 : decode cX8_list 7 = .ok (.iconst 0, 1) := by decide +kernel
theorem dX8_list_8 : decode cX8_list 8 = .ok (.iconst 0, 1) := by decide +kernel
theorem dX8_list_9 : decode cX8_list 9 = .ok (.iconst 0, 1) := by decide +kernel
theorem dX8_list_10 : decode cX8_list 10 = .ok (.invokevirtual 162, 3) := by decide +kernel
theorem dX8_list_13 : decode cX8_list 13 = .ok (.iconst 0, 1) := by decide +kernel
theorem dX8_list_14 : decode cX8_list 14 = .ok (.istore_n 1, 1) := by decide +kernel
theorem dX8_list_15 : decode cX8_list 15 = .ok (.iload_n 1, 1) := by decide +kernel
theorem dX8_list_16 : decode cX8_list 16 = .ok (.aload_n 0, 1) := by decide +kernel
theorem dX8_list_17 : decode cX8_list 17 = .ok (.getfield 67, 3) := by decide +kernel
theorem dX8_list_20 : decode cX8_list 20 = .ok (.if_icmp .ge 17, 3) := by decide +kernel
theorem dX8_list_23 : decode cX8_list 23 = .ok (.aload_n 0, 1) := by decide +kernel
theorem dX8_list_24 : decode cX8_list 24 = .ok (.iconst 1, 1) := by decide +kernel
theorem dX8_list_25 : decode cX8_list 25 = .ok (.iload_n 1, 1) := by decide +kernel
theorem dX8_list_26 : decode cX8_list 26 = .ok (.iconst 0, 1) := by decide +kernel
theorem dX8_list_27 : decode cX8_list 27 = .ok (.iconst 0, 1) := by decide +kernel
theorem dX8_list_28 : decode cX8_list 28 = .ok (.invokevirtual 162, 3) := by decide +kernel
theorem dX8_list_31 : decode cX8_list 31 = .ok (.iinc 1 1, 3) := by decide +kernel
theorem dX8_list_34 : decode cX8_list 34 = .ok (.goto (-19), 3) := by decide +kernel
theorem dX8_list_37 : decode cX8_list 37 = .ok (.iconst 0, 1) := by decide +kernel
theorem dX8_list_38 : decode cX8_list 38 = .ok (.istore_n 1, 1) := by decide +kernel
theorem dX8_list_39 : decode cX8_list 39 = .ok (.iload_n 1, 1) := by decide +kernel
theorem dX8_list_40 : decode cX8_list 40 = .ok (.aload_n 0, 1) := by decide +kernel
theorem dX8_list_41 : decode cX8_list 41 = .ok (.getfield 67, 3) := by decide +kernel
theorem dX8_list_44 : decode cX8_list 44 = .ok (.if_icmp .ge 33, 3) := by decide +kernel
theorem dX8_list_47 : decode cX8_list 47 = .ok (.iconst 0, 1) := by decide +kernel
theorem dX8_list_48 : decode cX8_list 48 = .ok (.istore_n 2, 1) := by decide +kernel
theorem dX8_list_49 : decode cX8_list 49 = .ok (.iload_n 2, 1) := by decide +kernel
theorem dX8_list_50 : decode cX8_list 50 = .ok (.aload_n 0, 1) := by decide +kernel
theorem dX8_list_51 : decode cX8_list 51 = .ok (.getfield 67, 3) := by decide +kernel
theorem dX8_list_54 : decode cX8_list 54 = .ok (.if_icmp .ge 17, 3) := by decide +kernel
theorem dX8_list_57 : decode cX8_list 57 = .ok (.aload_n 0, 1) := by decide +kernel
theorem dX8_list_58 : decode cX8_list 58 = .ok (.iconst 2, 1) := by decide +kernel
theorem dX8_list_59 : decode cX8_list 59 = .ok (.iload_n 1, 1) := by decide +kernel
theorem dX8_list_60 : decode cX8_list 60 = .ok (.iload_n 2, 1) := by decide +kernel
theorem dX8_list_61 : decode cX8_list 61 = .ok (.iconst 0, 1) := by decide +kernel
theorem dX8_list_62 : decode cX8_list 62 = .ok (.invokevirtual 162, 3) := by decide +kernel
theorem dX8_list_65 : decode cX8_list 65 = .ok (.iinc 2 1, 3) := by decide +kernel
theorem dX8_list_68 : decode cX8_list 68 = .ok (.goto (-19), 3) := by decide +kernel
theorem dX8_list_71 : decode cX8_list 71 = .ok (.iinc 1 1, 3) := by decide +kernel
theorem dX8_list_74 : decode cX8_list 74 = .ok (.goto (-35), 3) := by decide +kernel
theorem dX8_list_77 : decode cX8_list 77 = .ok (.iconst 0, 1) := by decide +kernel
theorem dX8_list_78 : decode cX8_list 78 = .ok (.istore_n 1, 1) := by decide +kernel
theorem dX8_list_79 : decode cX8_list 79 = .ok (.iload_n 1, 1) := by decide +kernel
theorem dX8_list_80 : decode cX8_list 80 = .ok (.aload_n 0, 1) := by decide +kernel
theorem dX8_list_81 : decode cX8_list 81 = .ok (.getfield 67, 3) := by decide +kernel
theorem dX8_list_84 : decode cX8_list 84 = .ok (.if_icmp .ge 49, 3) := by decide +kernel
theorem dX8_list_87 : decode cX8_list 87 = .ok (.iconst 0, 1) := by decide +kernel
theorem dX8_list_88 : decode cX8_list 88 = .ok (.istore_n 2, 1) := by decide +kernel
theorem dX8_list_89 : decode cX8_list 89 = .ok (.iload_n 2, 1) := by decide +kernel
theorem dX8_list_90 : decode cX8_list 90 = .ok (.aload_n 0, 1) := by decide +kernel
theorem dX8_list_91 : decode cX8_list 91 = .ok (.getfield 67, 3) := by decide +kernel
theorem dX8_list_94 : decode cX8_list 94 = .ok (.if_icmp .ge 33, 3) := by decide +kernel
theorem dX8_list_97 : decode cX8_list 97 = .ok (.iconst 0, 1) := by decide +kernel
theorem dX8_list_98 : decode cX8_list 98 = .ok (.istore_n 3, 1) := by decide +kernel
theorem dX8_list_99 : decode cX8_list 99 = .ok (.iload_n 3, 1) := by decide +kernel
theorem dX8_list_100 : decode cX8_list 100 = .ok (.aload_n 0, 1) := by decide +kernel
theorem dX8_list_101 : decode cX8_list 101 = .ok (.getfield 67, 3) := by decide +kernel
theorem dX8_list_104 : decode cX8_list 104 = .ok (.if_icmp .ge 17, 3) := by decide +kernel
theorem dX8_list_107 : decode cX8_list 107 = .ok (.aload_n 0, 1) := by decide +kernel
theorem dX8_list_108 : decode cX8_list 108 = .ok (.iconst 3, 1) := by decide +kernel
theorem dX8_list_109 : decode cX8_list 109 = .ok (.iload_n 1, 1) := by decide +kernel
theorem dX8_list_110 : decode cX8_list 110 = .ok (.iload_n 2, 1) := by decide +kernel
theorem dX8_list_111 : decode cX8_list 111 = .ok (.iload_n 3, 1) := by decide +kernel
theorem dX8_list_112 : decode cX8_list 112 = .ok (.invokevirtual 162, 3) := by decide +kernel
theorem dX8_list_115 : decode cX8_list 115 = .ok (.iinc 3 1, 3) := by decide +kernel
theorem dX8_list_118 : decode cX8_list 118 = .ok (.goto (-19), 3) := by decide +kernel
theorem dX8_list_121 : decode cX8_list 121 = .ok (.iinc 2 1, 3) := by decide +kernel
theorem dX8_list_124 : decode cX8_list 124 = .ok (.goto (-35), 3) := by decide +kernel
theorem dX8_list_127 : decode cX8_list 127 = .ok (.iinc 1 1, 3) := by decide +kernel
theorem dX8_list_130 : decode cX8_list 130 = .ok (.goto (-51), 3) := by decide +kernel
theorem dX8_list_133 : decode cX8_list 133 = .ok (.return_, 1) := by decide +kernel
theorem dX8_least_0 : decode cX8_least 0 = .ok (.iload_n 1, 1) := by decide +kernel
theorem dX8_least_1 : decode cX8_least 1 = .ok (.invokestatic 153, 3) := by decide +kernel
theorem dX8_least_4 : decode cX8_least 4 = .ok (.ifCond .ne 9, 3) := by decide +kernel
theorem dX8_least_7 : decode cX8_least 7 = .ok (.aload_n 0, 1) := by decide +kernel
theorem dX8_least_8 : decode cX8_least 8 = .ok (.iconst (-1), 1) := by decide +kernel
theorem dX8_least_9 : decode cX8_least 9 = .ok (.invokevirtual 74, 3) := by decide +kernel
theorem dX8_least_12 : decode cX8_least 12 = .ok (.ireturn, 1) := by decide +kernel
theorem dX8_least_13 : decode cX8_least 13 = .ok (.iload_n 2, 1) := by decide +kernel
theorem dX8_least_14 : decode cX8_least 14 = .ok (.iconst (-1), 1) := by decide +kernel
theorem dX8_least_15 : decode cX8_least 15 = .ok (.if_icmp .ge 10, 3) := by decide +kernel
theorem dX8_least_18 : decode cX8_least 18 = .ok (.aload_n 0, 1) := by decide +kernel
theorem dX8_least_19 : decode cX8_least 19 = .ok (.bipush (-4), 2) := by decide +kernel
theorem dX8_least_21 : decode cX8_least 21 = .ok (.invokevirtual 74, 3) := by decide +kernel
theorem dX8_least_24 : decode cX8_least 24 = .ok (.ireturn, 1) := by decide +kernel
theorem dX8_least_25 : decode cX8_least 25 = .ok (.aload_n 0, 1) := by decide +kernel
theorem dX8_least_26 : decode cX8_least 26 = .ok (.invokevirtual 193, 3) := by decide +kernel
theorem dX8_least_29 : decode cX8_least 29 = .ok (.iconst 0, 1) := by decide +kernel
theorem dX8_least_30 : decode cX8_least 30 = .ok (.istore_n 3, 1) := by decide +kernel
theorem dX8_least_31 : decode cX8_least 31 = .ok (.iload_n 3, 1) := by decide +kernel
theorem dX8_least_32 : decode cX8_least 32 = .ok (.aload_n 0, 1) := by decide +kernel
theorem dX8_least_33 : decode cX8_least 33 = .ok (.getfield 159, 3) := by decide +kernel
theorem dX8_least_36 : decode cX8_least 36 = .ok (.if_icmp .ge 57, 3) := by decide +kernel
theorem dX8_least_39 : decode cX8_least 39 = .ok (.aload_n 0, 1) := by decide +kernel
theorem dX8_least_40 : decode cX8_least 40 = .ok (.getfield 51, 3) := by decide +kernel
theorem dX8_least_43 : decode cX8_least 43 = .ok (.iload_n 3, 1) := by decide +kernel
theorem dX8_least_44 : decode cX8_least 44 = .ok (.iaload, 1) := by decide +kernel
theorem dX8_least_45 : decode cX8_least 45 = .ok (.iload_n 1, 1) := by decide +kernel
theorem dX8_least_46 : decode cX8_least 46 = .ok (.if_icmp .ne 41, 3) := by decide +kernel
theorem dX8_least_49 : decode cX8_least 49 = .ok (.iload_n 2, 1) := by decide +kernel
theorem dX8_least_50 : decode cX8_least 50 = .ok (.iconst (-1), 1) := by decide +kernel
theorem dX8_least_51 : decode cX8_least 51 = .ok (.if_icmp .ne 12, 3) := by decide +kernel
theorem dX8_least_54 : decode cX8_least 54 = .ok (.aload_n 0, 1) := by decide +kernel
theorem dX8_least_55 : decode cX8_least 55 = .ok (.getfield 43, 3) := by decide +kernel
theorem dX8_least_58 : decode cX8_least 58 = .ok (.iload_n 3, 1) := by decide +kernel
theorem dX8_least_59 : decode cX8_least 59 = .ok (.iaload, 1) := by decide +kernel
theorem dX8_least_60 : decode cX8_least 60 = .ok (.goto 26, 3) := by decide +kernel
theorem dX8_least_63 : decode cX8_least 63 = .ok (.iload_n 2, 1) := by decide +kernel
theorem dX8_least_64 : decode cX8_least 64 = .ok (.aload_n 0, 1) := by decide +kernel
theorem dX8_least_65 : decode cX8_least 65 = .ok (.getfield 43, 3) := by decide +kernel
theorem dX8_least_68 : decode cX8_least 68 = .ok (.iload_n 3, 1) := by decide +kernel
theorem dX8_least_69 : decode cX8_least 69 = .ok (.iaload, 1) := by decide +kernel
theorem dX8_least_70 : decode cX8_least 70 = .ok (.if_icmp .ge 14, 3) := by decide +kernel
theorem dX8_least_73 : decode cX8_least 73 = .ok (.aload_n 0, 1) := by decide +kernel
theorem dX8_least_74 : decode cX8_least 74 = .ok (.getfield 48, 3) := by decide +kernel
theorem dX8_least_77 : decode cX8_least 77 = .ok (.iload_n 3, 1) := by decide +kernel
theorem dX8_least_78 : decode cX8_least 78 = .ok (.aaload, 1) := by decide +kernel
theorem dX8_least_79 : decode cX8_least 79 = .ok (.iload_n 2, 1) := by decide +kernel
theorem dX8_least_80 : decode cX8_least 80 = .ok (.iaload, 1) := by decide +kernel
theorem dX8_least_81 : decode cX8_least 81 = .ok (.goto 5, 3) := by decide +kernel
theorem dX8_least_84 : decode cX8_least 84 = .ok (.bipush (-9), 2) := by decide +kernel
theorem dX8_least_86 : decode cX8_least 86 = .ok (.ireturn, 1) := by decide +kernel
theorem dX8_least_87 : decode cX8_least 87 = .ok (.iinc 3 1, 3) := by decide +kernel
theorem dX8_least_90 : decode cX8_least 90 = .ok (.goto (-59), 3) := by decide +kernel
theorem dX8_least_93 : decode cX8_least 93 = .ok (.iconst 0, 1) := by decide +kernel
theorem dX8_least_94 : decode cX8_least 94 = .ok (.istore_n 3, 1) := by decide +kernel
theorem dX8_least_95 : decode cX8_least 95 = .ok (.iload_n 3, 1) := by decide +kernel
theorem dX8_least_96 : decode cX8_least 96 = .ok (.iconst 4, 1) := by decide +kernel
theorem dX8_least_97 : decode cX8_least 97 = .ok (.if_icmp .ge 16, 3) := by decide +kernel
theorem dX8_least_100 : decode cX8_least 100 = .ok (.aload_n 0, 1) := by decide +kernel
theorem dX8_least_101 : decode cX8_least 101 = .ok (.getfield 57, 3) := by decide +kernel
theorem dX8_least_104 : decode cX8_least 104 = .ok (.iload_n 3, 1) := by decide +kernel
theorem dX8_least_105 : decode cX8_least 105 = .ok (.iconst 0, 1) := by decide +kernel
theorem dX8_least_106 : decode cX8_least 106 = .ok (.iastore, 1) := by decide +kernel
theorem dX8_least_107 : decode cX8_least 107 = .ok (.iinc 3 1, 3) := by decide +kernel
theorem dX8_least_110 : decode cX8_least 110 = .ok (.goto (-15), 3) := by decide +kernel
theorem dX8_least_113 : decode cX8_least 113 = .ok (.aload_n 0, 1) := by decide +kernel
theorem dX8_least_114 : decode cX8_least 114 = .ok (.getfield 67, 3) := by decide +kernel
theorem dX8_least_117 : decode cX8_least 117 = .ok (.ifCond .le 7, 3) := by decide +kernel
theorem dX8_least_120 : decode cX8_least 120 = .ok (.iconst 1, 1) := by decide +kernel
theorem dX8_least_121 : decode cX8_least 121 = .ok (.goto 4, 3) := by decide +kernel
theorem dX8_least_124 : decode cX8_least 124 = .ok (.iconst 0, 1) := by decide +kernel
theorem dX8_least_125 : decode cX8_least 125 = .ok (.istore_n 3, 1) := by decide +kernel
theorem dX8_least_126 : decode cX8_least 126 = .ok (.iload_n 3, 1) := by decide +kernel
theorem dX8_least_127 : decode cX8_least 127 = .ok (.ifCond .eq 50, 3) := by decide +kernel
theorem dX8_least_130 : decode cX8_least 130 = .ok (.aload_n 0, 1) := by decide +kernel
theorem dX8_least_131 : decode cX8_least 131 = .ok (.aload_n 0, 1) := by decide +kernel
theorem dX8_least_132 : decode cX8_least 132 = .ok (.getfield 57, 3) := by decide +kernel
theorem dX8_least_135 : decode cX8_least 135 = .ok (.iconst 4, 1) := by decide +kernel
theorem dX8_least_136 : decode cX8_least 136 = .ok (.invokevirtual 142, 3) := by decide +kernel
theorem dX8_least_139 : decode cX8_least 139 = .ok (.iload_n 1, 1) := by decide +kernel
theorem dX8_least_140 : decode cX8_least 140 = .ok (.if_icmp .ne 29, 3) := by decide +kernel
theorem dX8_least_143 : decode cX8_least 143 = .ok (.iload_n 2, 1) := by decide +kernel
theorem dX8_least_144 : decode cX8_least 144 = .ok (.iconst (-1), 1) := by decide +kernel
theorem dX8_least_145 : decode cX8_least 145 = .ok (.if_icmp .ne 7, 3) := by decide +kernel
theorem dX8_least_148 : decode cX8_least 148 = .ok (.iconst 4, 1) := by decide +kernel
theorem dX8_least_149 : decode cX8_least 149 = .ok (.goto 19, 3) := by decide +kernel
theorem dX8_least_152 : decode cX8_least 152 = .ok (.iload_n 2, 1) := by decide +kernel
theorem dX8_least_153 : decode cX8_least 153 = .ok (.iconst 4, 1) := by decide +kernel
theorem dX8_least_154 : decode cX8_least 154 = .ok (.if_icmp .ge 12, 3) := by decide +kernel
theorem dX8_least_157 : decode cX8_least 157 = .ok (.aload_n 0, 1) := by decide +kernel
theorem dX8_least_158 : decode cX8_least 158 = .ok (.getfield 57, 3) := by decide +kernel
theorem dX8_least_161 : decode cX8_least 161 = .ok (.iload_n 2, 1) := by decide +kernel
theorem dX8_least_162 : decode cX8_least 162 = .ok (.iaload, 1) := by decide +kernel
theorem dX8_least_163 : decode cX8_least 163 = .ok (.goto 5, 3) := by decide +kernel
theorem dX8_least_166 : decode cX8_least 166 = .ok (.bipush (-9), 2) := by decide +kernel
theorem dX8_least_168 : decode cX8_least 168 = .ok (.ireturn, 1) := by decide +kernel
theorem dX8_least_169 : decode cX8_least 169 = .ok (.aload_n 0, 1) := by decide +kernel
theorem dX8_least_170 : decode cX8_least 170 = .ok (.invokevirtual 203, 3) := by decide +kernel
theorem dX8_least_173 : decode cX8_least 173 = .ok (.istore_n 3, 1) := by decide +kernel
theorem dX8_least_174 : decode cX8_least 174 = .ok (.goto (-48), 3) := by decide +kernel
theorem dX8_least_177 : decode cX8_least 177 = .ok (.bipush (-9), 2) := by decide +kernel
theorem dX8_least_179 : decode cX8_least 179 = .ok (.ireturn, 1) := by decide +kernel
theorem dX8_leftOf_0 : decode cX8_leftOf 0 = .ok (.iconst 0, 1) := by decide +kernel
theorem dX8_leftOf_1 : decode cX8_leftOf 1 = .ok (.istore_n 2, 1) := by decide +kernel
theorem dX8_leftOf_2 : decode cX8_leftOf 2 = .ok (.iconst 0, 1) := by decide +kernel
theorem dX8_leftOf_3 : decode cX8_leftOf 3 = .ok (.istore_n 3, 1) := by decide +kernel
theorem dX8_leftOf_4 : decode cX8_leftOf 4 = .ok (.iload_n 3, 1) := by decide +kernel
theorem dX8_leftOf_5 : decode cX8_leftOf 5 = .ok (.bipush 8, 2) := by decide +kernel
theorem dX8_leftOf_7 : decode cX8_leftOf 7 = .ok (.if_icmp .ge 60, 3) := by decide +kernel
theorem dX8_leftOf_10 : decode cX8_leftOf 10 = .ok (.aload_n 0, 1) := by decide +kernel
theorem dX8_leftOf_11 : decode cX8_leftOf 11 = .ok (.getfield 28, 3) := by decide +kernel
theorem dX8_leftOf_14 : decode cX8_leftOf 14 = .ok (.iload_n 3, 1) := by decide +kernel
theorem dX8_leftOf_15 : decode cX8_leftOf 15 = .ok (.iaload, 1) := by decide +kernel
theorem dX8_leftOf_16 : decode cX8_leftOf 16 = .ok (.ifCond .le 45, 3) := by decide +kernel
theorem dX8_leftOf_19 : decode cX8_leftOf 19 = .ok (.aload_n 0, 1) := by decide +kernel
theorem dX8_leftOf_20 : decode cX8_leftOf 20 = .ok (.iload_n 1, 1) := by decide +kernel
theorem dX8_leftOf_21 : decode cX8_leftOf 21 = .ok (.iload_n 3, 1) := by decide +kernel
theorem dX8_leftOf_22 : decode cX8_leftOf 22 = .ok (.invokevirtual 199, 3) := by decide +kernel
theorem dX8_leftOf_25 : decode cX8_leftOf 25 = .ok (.istore 4, 2) := by decide +kernel
theorem dX8_leftOf_27 : decode cX8_leftOf 27 = .ok (.iload_n 2, 1) := by decide +kernel
theorem dX8_leftOf_28 : decode cX8_leftOf 28 = .ok (.aload_n 0, 1) := by decide +kernel
theorem dX8_leftOf_29 : decode cX8_leftOf 29 = .ok (.getfield 28, 3) := by decide +kernel
theorem dX8_leftOf_32 : decode cX8_leftOf 32 = .ok (.iload_n 3, 1) := by decide +kernel
theorem dX8_leftOf_33 : decode cX8_leftOf 33 = .ok (.iaload, 1) := by decide +kernel
theorem dX8_leftOf_34 : decode cX8_leftOf 34 = .ok (.aload_n 0, 1) := by decide +kernel
theorem dX8_leftOf_35 : decode cX8_leftOf 35 = .ok (.iload 4, 2) := by decide +kernel
theorem dX8_leftOf_37 : decode cX8_leftOf 37 = .ok (.bipush (-9), 2) := by decide +kernel
theorem dX8_leftOf_39 : decode cX8_leftOf 39 = .ok (.if_icmp .ne 9, 3) := by decide +kernel
theorem dX8_leftOf_42 : decode cX8_leftOf 42 = .ok (.sipush 255, 3) := by decide +kernel
theorem dX8_leftOf_45 : decode cX8_leftOf 45 = .ok (.goto 10, 3) := by decide +kernel
theorem dX8_leftOf_48 : decode cX8_leftOf 48 = .ok (.aload_n 0, 1) := by decide +kernel
theorem dX8_leftOf_49 : decode cX8_leftOf 49 = .ok (.getfield 51, 3) := by decide +kernel
theorem dX8_leftOf_52 : decode cX8_leftOf 52 = .ok (.iload 4, 2) := by decide +kernel
theorem dX8_leftOf_54 : decode cX8_leftOf 54 = .ok (.iaload, 1) := by decide +kernel
theorem dX8_leftOf_55 : decode cX8_leftOf 55 = .ok (.invokevirtual 181, 3) := by decide +kernel
theorem dX8_leftOf_58 : decode cX8_leftOf 58 = .ok (.imul, 1) := by decide +kernel
theorem dX8_leftOf_59 : decode cX8_leftOf 59 = .ok (.iadd, 1) := by decide +kernel
theorem dX8_leftOf_60 : decode cX8_leftOf 60 = .ok (.istore_n 2, 1) := by decide +kernel
theorem dX8_leftOf_61 : decode cX8_leftOf 61 = .ok (.iinc 3 1, 3) := by decide +kernel
theorem dX8_leftOf_64 : decode cX8_leftOf 64 = .ok (.goto (-60), 3) := by decide +kernel
theorem dX8_leftOf_67 : decode cX8_leftOf 67 = .ok (.iload_n 2, 1) := by decide +kernel
theorem dX8_leftOf_68 : decode cX8_leftOf 68 = .ok (.ireturn, 1) := by decide +kernel
theorem dX8_left_0 : decode cX8_left 0 = .ok (.aload_n 0, 1) := by decide +kernel
theorem dX8_left_1 : decode cX8_left 1 = .ok (.iload_n 1, 1) := by decide +kernel
theorem dX8_left_2 : decode cX8_left 2 = .ok (.invokevirtual 190, 3) := by decide +kernel
theorem dX8_left_5 : decode cX8_left 5 = .ok (.ifCond .ne 9, 3) := by decide +kernel
theorem dX8_left_8 : decode cX8_left 8 = .ok (.aload_n 0, 1) := by decide +kernel
theorem dX8_left_9 : decode cX8_left 9 = .ok (.iconst (-1), 1) := by decide +kernel
theorem dX8_left_10 : decode cX8_left 10 = .ok (.invokevirtual 74, 3) := by decide +kernel
theorem dX8_left_13 : decode cX8_left 13 = .ok (.ireturn, 1) := by decide +kernel
theorem dX8_left_14 : decode cX8_left 14 = .ok (.aload_n 0, 1) := by decide +kernel
theorem dX8_left_15 : decode cX8_left 15 = .ok (.invokevirtual 193, 3) := by decide +kernel
theorem dX8_left_18 : decode cX8_left 18 = .ok (.aload_n 0, 1) := by decide +kernel
theorem dX8_left_19 : decode cX8_left 19 = .ok (.invokevirtual 196, 3) := by decide +kernel
theorem dX8_left_22 : decode cX8_left 22 = .ok (.aload_n 0, 1) := by decide +kernel
theorem dX8_left_23 : decode cX8_left 23 = .ok (.iconst 0, 1) := by decide +kernel
theorem dX8_left_24 : decode cX8_left 24 = .ok (.putfield 139, 3) := by decide +kernel
theorem dX8_left_27 : decode cX8_left 27 = .ok (.aload_n 0, 1) := by decide +kernel
theorem dX8_left_28 : decode cX8_left 28 = .ok (.aload_n 0, 1) := by decide +kernel
theorem dX8_left_29 : decode cX8_left 29 = .ok (.getfield 31, 3) := by decide +kernel
theorem dX8_left_32 : decode cX8_left 32 = .ok (.iload_n 1, 1) := by decide +kernel
theorem dX8_left_33 : decode cX8_left 33 = .ok (.iaload, 1) := by decide +kernel
theorem dX8_left_34 : decode cX8_left 34 = .ok (.invokevirtual 206, 3) := by decide +kernel
theorem dX8_left_37 : decode cX8_left 37 = .ok (.ireturn, 1) := by decide +kernel
theorem dX8_told_0 : decode cX8_told 0 = .ok (.aload_n 0, 1) := by decide +kernel
theorem dX8_told_1 : decode cX8_told 1 = .ok (.iload_n 1, 1) := by decide +kernel
theorem dX8_told_2 : decode cX8_told 2 = .ok (.invokevirtual 130, 3) := by decide +kernel
theorem dX8_told_5 : decode cX8_told 5 = .ok (.ifCond .ne 9, 3) := by decide +kernel
theorem dX8_told_8 : decode cX8_told 8 = .ok (.aload_n 0, 1) := by decide +kernel
theorem dX8_told_9 : decode cX8_told 9 = .ok (.iconst (-1), 1) := by decide +kernel
theorem dX8_told_10 : decode cX8_told 10 = .ok (.invokevirtual 74, 3) := by decide +kernel
theorem dX8_told_13 : decode cX8_told 13 = .ok (.ireturn, 1) := by decide +kernel
theorem dX8_told_14 : decode cX8_told 14 = .ok (.aload_n 0, 1) := by decide +kernel
theorem dX8_told_15 : decode cX8_told 15 = .ok (.getfield 218, 3) := by decide +kernel
theorem dX8_told_18 : decode cX8_told 18 = .ok (.bipush 6, 2) := by decide +kernel
theorem dX8_told_20 : decode cX8_told 20 = .ok (.if_icmp .ne 10, 3) := by decide +kernel
theorem dX8_told_23 : decode cX8_told 23 = .ok (.aload_n 0, 1) := by decide +kernel
theorem dX8_told_24 : decode cX8_told 24 = .ok (.bipush (-6), 2) := by decide +kernel
theorem dX8_told_26 : decode cX8_told 26 = .ok (.invokevirtual 74, 3) := by decide +kernel
theorem dX8_told_29 : decode cX8_told 29 = .ok (.ireturn, 1) := by decide +kernel
theorem dX8_told_30 : decode cX8_told 30 = .ok (.aload_n 0, 1) := by decide +kernel
theorem dX8_told_31 : decode cX8_told 31 = .ok (.getfield 16, 3) := by decide +kernel
theorem dX8_told_34 : decode cX8_told 34 = .ok (.aload_n 0, 1) := by decide +kernel
theorem dX8_told_35 : decode cX8_told 35 = .ok (.dup, 1) := by decide +kernel
theorem dX8_told_36 : decode cX8_told 36 = .ok (.getfield 218, 3) := by decide +kernel
theorem dX8_told_39 : decode cX8_told 39 = .ok (.dup_x1, 1) := by decide +kernel
theorem dX8_told_40 : decode cX8_told 40 = .ok (.iconst 1, 1) := by decide +kernel
theorem dX8_told_41 : decode cX8_told 41 = .ok (.iadd, 1) := by decide +kernel
theorem dX8_told_42 : decode cX8_told 42 = .ok (.putfield 218, 3) := by decide +kernel
theorem dX8_told_45 : decode cX8_told 45 = .ok (.iload_n 1, 1) := by decide +kernel
theorem dX8_told_46 : decode cX8_told 46 = .ok (.iastore, 1) := by decide +kernel
theorem dX8_told_47 : decode cX8_told 47 = .ok (.aload_n 0, 1) := by decide +kernel
theorem dX8_told_48 : decode cX8_told 48 = .ok (.getfield 218, 3) := by decide +kernel
theorem dX8_told_51 : decode cX8_told 51 = .ok (.ireturn, 1) := by decide +kernel
theorem dX8_meant_0 : decode cX8_meant 0 = .ok (.aload_n 0, 1) := by decide +kernel
theorem dX8_meant_1 : decode cX8_meant 1 = .ok (.iload_n 1, 1) := by decide +kernel
theorem dX8_meant_2 : decode cX8_meant 2 = .ok (.invokevirtual 190, 3) := by decide +kernel
theorem dX8_meant_5 : decode cX8_meant 5 = .ok (.ifCond .ne 9, 3) := by decide +kernel
theorem dX8_meant_8 : decode cX8_meant 8 = .ok (.aload_n 0, 1) := by decide +kernel
theorem dX8_meant_9 : decode cX8_meant 9 = .ok (.iconst (-1), 1) := by decide +kernel
theorem dX8_meant_10 : decode cX8_meant 10 = .ok (.invokevirtual 74, 3) := by decide +kernel
theorem dX8_meant_13 : decode cX8_meant 13 = .ok (.ireturn, 1) := by decide +kernel
theorem dX8_meant_14 : decode cX8_meant 14 = .ok (.aload_n 0, 1) := by decide +kernel
theorem dX8_meant_15 : decode cX8_meant 15 = .ok (.invokevirtual 193, 3) := by decide +kernel
theorem dX8_meant_18 : decode cX8_meant 18 = .ok (.aload_n 0, 1) := by decide +kernel
theorem dX8_meant_19 : decode cX8_meant 19 = .ok (.invokevirtual 196, 3) := by decide +kernel
theorem dX8_meant_22 : decode cX8_meant 22 = .ok (.aload_n 0, 1) := by decide +kernel
theorem dX8_meant_23 : decode cX8_meant 23 = .ok (.iconst 0, 1) := by decide +kernel
theorem dX8_meant_24 : decode cX8_meant 24 = .ok (.putfield 221, 3) := by decide +kernel
theorem dX8_meant_27 : decode cX8_meant 27 = .ok (.iconst 0, 1) := by decide +kernel
theorem dX8_meant_28 : decode cX8_meant 28 = .ok (.istore_n 2, 1) := by decide +kernel
theorem dX8_meant_29 : decode cX8_meant 29 = .ok (.iload_n 2, 1) := by decide +kernel
theorem dX8_meant_30 : decode cX8_meant 30 = .ok (.bipush 8, 2) := by decide +kernel
theorem dX8_meant_32 : decode cX8_meant 32 = .ok (.if_icmp .ge 51, 3) := by decide +kernel
theorem dX8_meant_35 : decode cX8_meant 35 = .ok (.aload_n 0, 1) := by decide +kernel
theorem dX8_meant_36 : decode cX8_meant 36 = .ok (.aload_n 0, 1) := by decide +kernel
theorem dX8_meant_37 : decode cX8_meant 37 = .ok (.getfield 31, 3) := by decide +kernel
theorem dX8_meant_40 : decode cX8_meant 40 = .ok (.iload_n 1, 1) := by decide +kernel
theorem dX8_meant_41 : decode cX8_meant 41 = .ok (.iaload, 1) := by decide +kernel
theorem dX8_meant_42 : decode cX8_meant 42 = .ok (.iload_n 2, 1) := by decide +kernel
theorem dX8_meant_43 : decode cX8_meant 43 = .ok (.invokevirtual 199, 3) := by decide +kernel
theorem dX8_meant_46 : decode cX8_meant 46 = .ok (.istore_n 3, 1) := by decide +kernel
theorem dX8_meant_47 : decode cX8_meant 47 = .ok (.aload_n 0, 1) := by decide +kernel
theorem dX8_meant_48 : decode cX8_meant 48 = .ok (.dup, 1) := by decide +kernel
theorem dX8_meant_49 : decode cX8_meant 49 = .ok (.getfield 221, 3) := by decide +kernel
theorem dX8_meant_52 : decode cX8_meant 52 = .ok (.iload_n 3, 1) := by decide +kernel
theorem dX8_meant_53 : decode cX8_meant 53 = .ok (.bipush (-9), 2) := by decide +kernel
theorem dX8_meant_55 : decode cX8_meant 55 = .ok (.if_icmp .eq 17, 3) := by decide +kernel
theorem dX8_meant_58 : decode cX8_meant 58 = .ok (.aload_n 0, 1) := by decide +kernel
theorem dX8_meant_59 : decode cX8_meant 59 = .ok (.iload_n 3, 1) := by decide +kernel
theorem dX8_meant_60 : decode cX8_meant 60 = .ok (.invokevirtual 224, 3) := by decide +kernel
theorem dX8_meant_63 : decode cX8_meant 63 = .ok (.ifCond .eq 9, 3) := by decide +kernel
theorem dX8_meant_66 : decode cX8_meant 66 = .ok (.iconst 1, 1) := by decide +kernel
theorem dX8_meant_67 : decode cX8_meant 67 = .ok (.iload_n 2, 1) := by decide +kernel
theorem dX8_meant_68 : decode cX8_meant 68 = .ok (.ishl, 1) := by decide +kernel
theorem dX8_meant_69 : decode cX8_meant 69 = .ok (.goto 4, 3) := by decide +kernel
theorem dX8_meant_72 : decode cX8_meant 72 = .ok (.iconst 0, 1) := by decide +kernel
theorem dX8_meant_73 : decode cX8_meant 73 = .ok (.ior, 1) := by decide +kernel
theorem dX8_meant_74 : decode cX8_meant 74 = .ok (.putfield 221, 3) := by decide +kernel
theorem dX8_meant_77 : decode cX8_meant 77 = .ok (.iinc 2 1, 3) := by decide +kernel
theorem dX8_meant_80 : decode cX8_meant 80 = .ok (.goto (-51), 3) := by decide +kernel
theorem dX8_meant_83 : decode cX8_meant 83 = .ok (.aload_n 0, 1) := by decide +kernel
theorem dX8_meant_84 : decode cX8_meant 84 = .ok (.iconst 0, 1) := by decide +kernel
theorem dX8_meant_85 : decode cX8_meant 85 = .ok (.putfield 139, 3) := by decide +kernel
theorem dX8_meant_88 : decode cX8_meant 88 = .ok (.aload_n 0, 1) := by decide +kernel
theorem dX8_meant_89 : decode cX8_meant 89 = .ok (.iconst 0, 1) := by decide +kernel
theorem dX8_meant_90 : decode cX8_meant 90 = .ok (.putfield 218, 3) := by decide +kernel
theorem dX8_meant_93 : decode cX8_meant 93 = .ok (.aload_n 0, 1) := by decide +kernel
theorem dX8_meant_94 : decode cX8_meant 94 = .ok (.getfield 221, 3) := by decide +kernel
theorem dX8_meant_97 : decode cX8_meant 97 = .ok (.ireturn, 1) := by decide +kernel
theorem dX8_say_0 : decode cX8_say 0 = .ok (.aload_n 0, 1) := by decide +kernel
theorem dX8_say_1 : decode cX8_say 1 = .ok (.aload_n 0, 1) := by decide +kernel
theorem dX8_say_2 : decode cX8_say 2 = .ok (.getfield 13, 3) := by decide +kernel
theorem dX8_say_5 : decode cX8_say 5 = .ok (.aload_n 0, 1) := by decide +kernel
theorem dX8_say_6 : decode cX8_say 6 = .ok (.getfield 139, 3) := by decide +kernel
theorem dX8_say_9 : decode cX8_say 9 = .ok (.invokevirtual 146, 3) := by decide +kernel
theorem dX8_say_12 : decode cX8_say 12 = .ok (.istore_n 1, 1) := by decide +kernel
theorem dX8_say_13 : decode cX8_say 13 = .ok (.aload_n 0, 1) := by decide +kernel
theorem dX8_say_14 : decode cX8_say 14 = .ok (.getfield 230, 3) := by decide +kernel
theorem dX8_say_17 : decode cX8_say 17 = .ok (.iconst 1, 1) := by decide +kernel
theorem dX8_say_18 : decode cX8_say 18 = .ok (.isub, 1) := by decide +kernel
theorem dX8_say_19 : decode cX8_say 19 = .ok (.istore_n 2, 1) := by decide +kernel
theorem dX8_say_20 : decode cX8_say 20 = .ok (.aload_n 0, 1) := by decide +kernel
theorem dX8_say_21 : decode cX8_say 21 = .ok (.getfield 230, 3) := by decide +kernel
theorem dX8_say_24 : decode cX8_say 24 = .ok (.ifCond .le 37, 3) := by decide +kernel
theorem dX8_say_27 : decode cX8_say 27 = .ok (.aload_n 0, 1) := by decide +kernel
theorem dX8_say_28 : decode cX8_say 28 = .ok (.getfield 111, 3) := by decide +kernel
theorem dX8_say_31 : decode cX8_say 31 = .ok (.aload_n 0, 1) := by decide +kernel
theorem dX8_say_32 : decode cX8_say 32 = .ok (.getfield 139, 3) := by decide +kernel
theorem dX8_say_35 : decode cX8_say 35 = .ok (.iload_n 1, 1) := by decide +kernel
theorem dX8_say_36 : decode cX8_say 36 = .ok (.aload_n 0, 1) := by decide +kernel
theorem dX8_say_37 : decode cX8_say 37 = .ok (.getfield 34, 3) := by decide +kernel
theorem dX8_say_40 : decode cX8_say 40 = .ok (.iload_n 2, 1) := by decide +kernel
theorem dX8_say_41 : decode cX8_say 41 = .ok (.iaload, 1) := by decide +kernel
theorem dX8_say_42 : decode cX8_say 42 = .ok (.aload_n 0, 1) := by decide +kernel
theorem dX8_say_43 : decode cX8_say 43 = .ok (.getfield 40, 3) := by decide +kernel
theorem dX8_say_46 : decode cX8_say 46 = .ok (.iload_n 2, 1) := by decide +kernel
theorem dX8_say_47 : decode cX8_say 47 = .ok (.iaload, 1) := by decide +kernel
theorem dX8_say_48 : decode cX8_say 48 = .ok (.invokestatic 149, 3) := by decide +kernel
theorem dX8_say_51 : decode cX8_say 51 = .ok (.ifCond .ne 10, 3) := by decide +kernel
theorem dX8_say_54 : decode cX8_say 54 = .ok (.aload_n 0, 1) := by decide +kernel
theorem dX8_say_55 : decode cX8_say 55 = .ok (.bipush (-3), 2) := by decide +kernel
theorem dX8_say_57 : decode cX8_say 57 = .ok (.invokevirtual 74, 3) := by decide +kernel
theorem dX8_say_60 : decode cX8_say 60 = .ok (.ireturn, 1) := by decide +kernel
theorem dX8_say_61 : decode cX8_say 61 = .ok (.aload_n 0, 1) := by decide +kernel
theorem dX8_say_62 : decode cX8_say 62 = .ok (.getfield 230, 3) := by decide +kernel
theorem dX8_say_65 : decode cX8_say 65 = .ok (.bipush 12, 2) := by decide +kernel
theorem dX8_say_67 : decode cX8_say 67 = .ok (.if_icmp .ne 10, 3) := by decide +kernel
theorem dX8_say_70 : decode cX8_say 70 = .ok (.aload_n 0, 1) := by decide +kernel
theorem dX8_say_71 : decode cX8_say 71 = .ok (.bipush (-6), 2) := by decide +kernel
theorem dX8_say_73 : decode cX8_say 73 = .ok (.invokevirtual 74, 3) := by decide +kernel
theorem dX8_say_76 : decode cX8_say 76 = .ok (.ireturn, 1) := by decide +kernel
theorem dX8_say_77 : decode cX8_say 77 = .ok (.aload_n 0, 1) := by decide +kernel
theorem dX8_say_78 : decode cX8_say 78 = .ok (.getfield 34, 3) := by decide +kernel
theorem dX8_say_81 : decode cX8_say 81 = .ok (.aload_n 0, 1) := by decide +kernel
theorem dX8_say_82 : decode cX8_say 82 = .ok (.getfield 230, 3) := by decide +kernel
theorem dX8_say_85 : decode cX8_say 85 = .ok (.aload_n 0, 1) := by decide +kernel
theorem dX8_say_86 : decode cX8_say 86 = .ok (.getfield 139, 3) := by decide +kernel
theorem dX8_say_89 : decode cX8_say 89 = .ok (.iastore, 1) := by decide +kernel
theorem dX8_say_90 : decode cX8_say 90 = .ok (.aload_n 0, 1) := by decide +kernel
theorem dX8_say_91 : decode cX8_say 91 = .ok (.getfield 37, 3) := by decide +kernel
theorem dX8_say_94 : decode cX8_say 94 = .ok (.aload_n 0, 1) := by decide +kernel
theorem dX8_say_95 : decode cX8_say 95 = .ok (.getfield 230, 3) := by decide +kernel
theorem dX8_say_98 : decode cX8_say 98 = .ok (.aload_n 0, 1) := by decide +kernel
theorem dX8_say_99 : decode cX8_say 99 = .ok (.aload_n 0, 1) := by decide +kernel
theorem dX8_say_100 : decode cX8_say 100 = .ok (.getfield 13, 3) := by decide +kernel
theorem dX8_say_103 : decode cX8_say 103 = .ok (.aload_n 0, 1) := by decide +kernel
theorem dX8_say_104 : decode cX8_say 104 = .ok (.getfield 139, 3) := by decide +kernel
theorem dX8_say_107 : decode cX8_say 107 = .ok (.invokevirtual 142, 3) := by decide +kernel
theorem dX8_say_110 : decode cX8_say 110 = .ok (.iastore, 1) := by decide +kernel
theorem dX8_say_111 : decode cX8_say 111 = .ok (.aload_n 0, 1) := by decide +kernel
theorem dX8_say_112 : decode cX8_say 112 = .ok (.getfield 40, 3) := by decide +kernel
theorem dX8_say_115 : decode cX8_say 115 = .ok (.aload_n 0, 1) := by decide +kernel
theorem dX8_say_116 : decode cX8_say 116 = .ok (.dup, 1) := by decide +kernel
theorem dX8_say_117 : decode cX8_say 117 = .ok (.getfield 230, 3) := by decide +kernel
theorem dX8_say_120 : decode cX8_say 120 = .ok (.dup_x1, 1) := by decide +kernel
theorem dX8_say_121 : decode cX8_say 121 = .ok (.iconst 1, 1) := by decide +kernel
theorem dX8_say_122 : decode cX8_say 122 = .ok (.iadd, 1) := by decide +kernel
theorem dX8_say_123 : decode cX8_say 123 = .ok (.putfield 230, 3) := by decide +kernel
theorem dX8_say_126 : decode cX8_say 126 = .ok (.iload_n 1, 1) := by decide +kernel
theorem dX8_say_127 : decode cX8_say 127 = .ok (.iastore, 1) := by decide +kernel
theorem dX8_say_128 : decode cX8_say 128 = .ok (.aload_n 0, 1) := by decide +kernel
theorem dX8_say_129 : decode cX8_say 129 = .ok (.iconst 0, 1) := by decide +kernel
theorem dX8_say_130 : decode cX8_say 130 = .ok (.putfield 139, 3) := by decide +kernel
theorem dX8_say_133 : decode cX8_say 133 = .ok (.aload_n 0, 1) := by decide +kernel
theorem dX8_say_134 : decode cX8_say 134 = .ok (.getfield 230, 3) := by decide +kernel
theorem dX8_say_137 : decode cX8_say 137 = .ok (.ireturn, 1) := by decide +kernel
theorem dX8_saying_0 : decode cX8_saying 0 = .ok (.iload_n 1, 1) := by decide +kernel
theorem dX8_saying_1 : decode cX8_saying 1 = .ok (.iconst 0, 1) := by decide +kernel
theorem dX8_saying_2 : decode cX8_saying 2 = .ok (.aload_n 0, 1) := by decide +kernel
theorem dX8_saying_3 : decode cX8_saying 3 = .ok (.getfield 230, 3) := by decide +kernel
theorem dX8_saying_6 : decode cX8_saying 6 = .ok (.iconst 1, 1) := by decide +kernel
theorem dX8_saying_7 : decode cX8_saying 7 = .ok (.isub, 1) := by decide +kernel
theorem dX8_saying_8 : decode cX8_saying 8 = .ok (.invokestatic 63, 3) := by decide +kernel
theorem dX8_saying_11 : decode cX8_saying 11 = .ok (.ifCond .ne 9, 3) := by decide +kernel
theorem dX8_saying_14 : decode cX8_saying 14 = .ok (.aload_n 0, 1) := by decide +kernel
theorem dX8_saying_15 : decode cX8_saying 15 = .ok (.iconst (-1), 1) := by decide +kernel
theorem dX8_saying_16 : decode cX8_saying 16 = .ok (.invokevirtual 74, 3) := by decide +kernel
theorem dX8_saying_19 : decode cX8_saying 19 = .ok (.ireturn, 1) := by decide +kernel
theorem dX8_saying_20 : decode cX8_saying 20 = .ok (.iload_n 2, 1) := by decide +kernel
theorem dX8_saying_21 : decode cX8_saying 21 = .ok (.iconst 0, 1) := by decide +kernel
theorem dX8_saying_22 : decode cX8_saying 22 = .ok (.iconst 2, 1) := by decide +kernel
theorem dX8_saying_23 : decode cX8_saying 23 = .ok (.invokestatic 63, 3) := by decide +kernel
theorem dX8_saying_26 : decode cX8_saying 26 = .ok (.ifCond .ne 10, 3) := by decide +kernel
theorem dX8_saying_29 : decode cX8_saying 29 = .ok (.aload_n 0, 1) := by decide +kernel
theorem dX8_saying_30 : decode cX8_saying 30 = .ok (.bipush (-2), 2) := by decide +kernel
theorem dX8_saying_32 : decode cX8_saying 32 = .ok (.invokevirtual 74, 3) := by decide +kernel
theorem dX8_saying_35 : decode cX8_saying 35 = .ok (.ireturn, 1) := by decide +kernel
theorem dX8_saying_36 : decode cX8_saying 36 = .ok (.iload_n 2, 1) := by decide +kernel
theorem dX8_saying_37 : decode cX8_saying 37 = .ok (.ifCond .ne 12, 3) := by decide +kernel
theorem dX8_saying_40 : decode cX8_saying 40 = .ok (.aload_n 0, 1) := by decide +kernel
theorem dX8_saying_41 : decode cX8_saying 41 = .ok (.getfield 34, 3) := by decide +kernel
theorem dX8_saying_44 : decode cX8_saying 44 = .ok (.iload_n 1, 1) := by decide +kernel
theorem dX8_saying_45 : decode cX8_saying 45 = .ok (.iaload, 1) := by decide +kernel
theorem dX8_saying_46 : decode cX8_saying 46 = .ok (.goto 23, 3) := by decide +kernel
theorem dX8_saying_49 : decode cX8_saying 49 = .ok (.iload_n 2, 1) := by decide +kernel
theorem dX8_saying_50 : decode cX8_saying 50 = .ok (.iconst 1, 1) := by decide +kernel
theorem dX8_saying_51 : decode cX8_saying 51 = .ok (.if_icmp .ne 12, 3) := by decide +kernel
theorem dX8_saying_54 : decode cX8_saying 54 = .ok (.aload_n 0, 1) := by decide +kernel
theorem dX8_saying_55 : decode cX8_saying 55 = .ok (.getfield 37, 3) := by decide +kernel
theorem dX8_saying_58 : decode cX8_saying 58 = .ok (.iload_n 1, 1) := by decide +kernel
theorem dX8_saying_59 : decode cX8_saying 59 = .ok (.iaload, 1) := by decide +kernel
theorem dX8_saying_60 : decode cX8_saying 60 = .ok (.goto 9, 3) := by decide +kernel
theorem dX8_saying_63 : decode cX8_saying 63 = .ok (.aload_n 0, 1) := by decide +kernel
theorem dX8_saying_64 : decode cX8_saying 64 = .ok (.getfield 40, 3) := by decide +kernel
theorem dX8_saying_67 : decode cX8_saying 67 = .ok (.iload_n 1, 1) := by decide +kernel
theorem dX8_saying_68 : decode cX8_saying 68 = .ok (.iaload, 1) := by decide +kernel
theorem dX8_saying_69 : decode cX8_saying 69 = .ok (.ireturn, 1) := by decide +kernel
theorem dX8_known_0 : decode cX8_known 0 = .ok (.sipush 255, 3) := by decide +kernel
theorem dX8_known_3 : decode cX8_known 3 = .ok (.istore_n 1, 1) := by decide +kernel
theorem dX8_known_4 : decode cX8_known 4 = .ok (.iconst 1, 1) := by decide +kernel
theorem dX8_known_5 : decode cX8_known 5 = .ok (.istore_n 2, 1) := by decide +kernel
theorem dX8_known_6 : decode cX8_known 6 = .ok (.iload_n 2, 1) := by decide +kernel
theorem dX8_known_7 : decode cX8_known 7 = .ok (.aload_n 0, 1) := by decide +kernel
theorem dX8_known_8 : decode cX8_known 8 = .ok (.getfield 230, 3) := by decide +kernel
theorem dX8_known_11 : decode cX8_known 11 = .ok (.if_icmp .ge 18, 3) := by decide +kernel
theorem dX8_known_14 : decode cX8_known 14 = .ok (.iload_n 1, 1) := by decide +kernel
theorem dX8_known_15 : decode cX8_known 15 = .ok (.aload_n 0, 1) := by decide +kernel
theorem dX8_known_16 : decode cX8_known 16 = .ok (.getfield 37, 3) := by decide +kernel
theorem dX8_known_19 : decode cX8_known 19 = .ok (.iload_n 2, 1) := by decide +kernel
theorem dX8_known_20 : decode cX8_known 20 = .ok (.iaload, 1) := by decide +kernel
theorem dX8_known_21 : decode cX8_known 21 = .ok (.iand, 1) := by decide +kernel
theorem dX8_known_22 : decode cX8_known 22 = .ok (.istore_n 1, 1) := by decide +kernel
theorem dX8_known_23 : decode cX8_known 23 = .ok (.iinc 2 2, 3) := by decide +kernel
theorem dX8_known_26 : decode cX8_known 26 = .ok (.goto (-20), 3) := by decide +kernel
theorem dX8_known_29 : decode cX8_known 29 = .ok (.iload_n 1, 1) := by decide +kernel
theorem dX8_known_30 : decode cX8_known 30 = .ok (.ireturn, 1) := by decide +kernel
theorem dX8_silence_0 : decode cX8_silence 0 = .ok (.aload_n 0, 1) := by decide +kernel
theorem dX8_silence_1 : decode cX8_silence 1 = .ok (.getfield 230, 3) := by decide +kernel
theorem dX8_silence_4 : decode cX8_silence 4 = .ok (.istore_n 1, 1) := by decide +kernel
theorem dX8_silence_5 : decode cX8_silence 5 = .ok (.aload_n 0, 1) := by decide +kernel
theorem dX8_silence_6 : decode cX8_silence 6 = .ok (.iconst 0, 1) := by decide +kernel
theorem dX8_silence_7 : decode cX8_silence 7 = .ok (.putfield 230, 3) := by decide +kernel
theorem dX8_silence_10 : decode cX8_silence 10 = .ok (.iload_n 1, 1) := by decide +kernel
theorem dX8_silence_11 : decode cX8_silence 11 = .ok (.ireturn, 1) := by decide +kernel
theorem dX8_longest_0 : decode cX8_longest 0 = .ok (.iload_n 1, 1) := by decide +kernel
theorem dX8_longest_1 : decode cX8_longest 1 = .ok (.iconst 1, 1) := by decide +kernel
theorem dX8_longest_2 : decode cX8_longest 2 = .ok (.if_icmp .ge 10, 3) := by decide +kernel
theorem dX8_longest_5 : decode cX8_longest 5 = .ok (.aload_n 0, 1) := by decide +kernel
theorem dX8_longest_6 : decode cX8_longest 6 = .ok (.bipush (-4), 2) := by decide +kernel
theorem dX8_longest_8 : decode cX8_longest 8 = .ok (.invokevirtual 74, 3) := by decide +kernel
theorem dX8_longest_11 : decode cX8_longest 11 = .ok (.ireturn, 1) := by decide +kernel
theorem dX8_longest_12 : decode cX8_longest 12 = .ok (.iload_n 1, 1) := by decide +kernel
theorem dX8_longest_13 : decode cX8_longest 13 = .ok (.bipush 6, 2) := by decide +kernel
theorem dX8_longest_15 : decode cX8_longest 15 = .ok (.if_icmp .le 10, 3) := by decide +kernel
theorem dX8_longest_18 : decode cX8_longest 18 = .ok (.aload_n 0, 1) := by decide +kernel
theorem dX8_longest_19 : decode cX8_longest 19 = .ok (.bipush (-6), 2) := by decide +kernel
theorem dX8_longest_21 : decode cX8_longest 21 = .ok (.invokevirtual 74, 3) := by decide +kernel
theorem dX8_longest_24 : decode cX8_longest 24 = .ok (.ireturn, 1) := by decide +kernel
theorem dX8_longest_25 : decode cX8_longest 25 = .ok (.aload_n 0, 1) := by decide +kernel
theorem dX8_longest_26 : decode cX8_longest 26 = .ok (.getfield 111, 3) := by decide +kernel
theorem dX8_longest_29 : decode cX8_longest 29 = .ok (.tableswitch 38 0 3 #[31, 38, 31, 33], 31) := by decide +kernel
theorem dX8_longest_60 : decode cX8_longest 60 = .ok (.iload_n 1, 1) := by decide +kernel
theorem dX8_longest_61 : decode cX8_longest 61 = .ok (.ireturn, 1) := by decide +kernel
theorem dX8_longest_62 : decode cX8_longest 62 = .ok (.bipush 7, 2) := by decide +kernel
theorem dX8_longest_64 : decode cX8_longest 64 = .ok (.iload_n 1, 1) := by decide +kernel
theorem dX8_longest_65 : decode cX8_longest 65 = .ok (.isub, 1) := by decide +kernel
theorem dX8_longest_66 : decode cX8_longest 66 = .ok (.ireturn, 1) := by decide +kernel
theorem dX8_longest_67 : decode cX8_longest 67 = .ok (.bipush (-9), 2) := by decide +kernel
theorem dX8_longest_69 : decode cX8_longest 69 = .ok (.ireturn, 1) := by decide +kernel
theorem dX8_last_0 : decode cX8_last 0 = .ok (.iload_n 1, 1) := by decide +kernel
theorem dX8_last_1 : decode cX8_last 1 = .ok (.iconst 1, 1) := by decide +kernel
theorem dX8_last_2 : decode cX8_last 2 = .ok (.if_icmp .ge 10, 3) := by decide +kernel
theorem dX8_last_5 : decode cX8_last 5 = .ok (.aload_n 0, 1) := by decide +kernel
theorem dX8_last_6 : decode cX8_last 6 = .ok (.bipush (-4), 2) := by decide +kernel
theorem dX8_last_8 : decode cX8_last 8 = .ok (.invokevirtual 74, 3) := by decide +kernel
theorem dX8_last_11 : decode cX8_last 11 = .ok (.ireturn, 1) := by decide +kernel
theorem dX8_last_12 : decode cX8_last 12 = .ok (.iload_n 1, 1) := by decide +kernel
theorem dX8_last_13 : decode cX8_last 13 = .ok (.bipush 6, 2) := by decide +kernel
theorem dX8_last_15 : decode cX8_last 15 = .ok (.if_icmp .le 10, 3) := by decide +kernel
theorem dX8_last_18 : decode cX8_last 18 = .ok (.aload_n 0, 1) := by decide +kernel
theorem dX8_last_19 : decode cX8_last 19 = .ok (.bipush (-6), 2) := by decide +kernel
theorem dX8_last_21 : decode cX8_last 21 = .ok (.invokevirtual 74, 3) := by decide +kernel
theorem dX8_last_24 : decode cX8_last 24 = .ok (.ireturn, 1) := by decide +kernel
theorem dX8_last_25 : decode cX8_last 25 = .ok (.aload_n 0, 1) := by decide +kernel
theorem dX8_last_26 : decode cX8_last 26 = .ok (.getfield 111, 3) := by decide +kernel
theorem dX8_last_29 : decode cX8_last 29 = .ok (.tableswitch 49 0 3 #[31, 49, 31, 42], 31) := by decide +kernel
theorem dX8_last_60 : decode cX8_last 60 = .ok (.iload_n 1, 1) := by decide +kernel
theorem dX8_last_61 : decode cX8_last 61 = .ok (.iconst 1, 1) := by decide +kernel
theorem dX8_last_62 : decode cX8_last 62 = .ok (.if_icmp .ne 7, 3) := by decide +kernel
theorem dX8_last_65 : decode cX8_last 65 = .ok (.iconst 1, 1) := by decide +kernel
theorem dX8_last_66 : decode cX8_last 66 = .ok (.goto 4, 3) := by decide +kernel
theorem dX8_last_69 : decode cX8_last 69 = .ok (.iconst 0, 1) := by decide +kernel
theorem dX8_last_70 : decode cX8_last 70 = .ok (.ireturn, 1) := by decide +kernel
theorem dX8_last_71 : decode cX8_last 71 = .ok (.bipush 7, 2) := by decide +kernel
theorem dX8_last_73 : decode cX8_last 73 = .ok (.iload_n 1, 1) := by decide +kernel
theorem dX8_last_74 : decode cX8_last 74 = .ok (.isub, 1) := by decide +kernel
theorem dX8_last_75 : decode cX8_last 75 = .ok (.iconst 2, 1) := by decide +kernel
theorem dX8_last_76 : decode cX8_last 76 = .ok (.irem, 1) := by decide +kernel
theorem dX8_last_77 : decode cX8_last 77 = .ok (.ireturn, 1) := by decide +kernel
theorem dX8_last_78 : decode cX8_last 78 = .ok (.bipush (-9), 2) := by decide +kernel
theorem dX8_last_80 : decode cX8_last 80 = .ok (.ireturn, 1) := by decide +kernel
theorem dX8_under_0 : decode cX8_under 0 = .ok (.aload_n 0, 1) := by decide +kernel
theorem dX8_under_1 : decode cX8_under 1 = .ok (.iload_n 1, 1) := by decide +kernel
theorem dX8_under_2 : decode cX8_under 2 = .ok (.invokevirtual 190, 3) := by decide +kernel
theorem dX8_under_5 : decode cX8_under 5 = .ok (.ifCond .ne 9, 3) := by decide +kernel
theorem dX8_under_8 : decode cX8_under 8 = .ok (.aload_n 0, 1) := by decide +kernel
theorem dX8_under_9 : decode cX8_under 9 = .ok (.iconst (-1), 1) := by decide +kernel
theorem dX8_under_10 : decode cX8_under 10 = .ok (.invokevirtual 74, 3) := by decide +kernel
theorem dX8_under_13 : decode cX8_under 13 = .ok (.ireturn, 1) := by decide +kernel
theorem dX8_under_14 : decode cX8_under 14 = .ok (.iload_n 2, 1) := by decide +kernel
theorem dX8_under_15 : decode cX8_under 15 = .ok (.iconst 0, 1) := by decide +kernel
theorem dX8_under_16 : decode cX8_under 16 = .ok (.iconst 4, 1) := by decide +kernel
theorem dX8_under_17 : decode cX8_under 17 = .ok (.invokestatic 63, 3) := by decide +kernel
theorem dX8_under_20 : decode cX8_under 20 = .ok (.ifCond .ne 10, 3) := by decide +kernel
theorem dX8_under_23 : decode cX8_under 23 = .ok (.aload_n 0, 1) := by decide +kernel
theorem dX8_under_24 : decode cX8_under 24 = .ok (.bipush (-2), 2) := by decide +kernel
theorem dX8_under_26 : decode cX8_under 26 = .ok (.invokevirtual 74, 3) := by decide +kernel
theorem dX8_under_29 : decode cX8_under 29 = .ok (.ireturn, 1) := by decide +kernel
theorem dX8_under_30 : decode cX8_under 30 = .ok (.aload_n 0, 1) := by decide +kernel
theorem dX8_under_31 : decode cX8_under 31 = .ok (.aload_n 0, 1) := by decide +kernel
theorem dX8_under_32 : decode cX8_under 32 = .ok (.getfield 31, 3) := by decide +kernel
theorem dX8_under_35 : decode cX8_under 35 = .ok (.iload_n 1, 1) := by decide +kernel
theorem dX8_under_36 : decode cX8_under 36 = .ok (.iaload, 1) := by decide +kernel
theorem dX8_under_37 : decode cX8_under 37 = .ok (.iload_n 2, 1) := by decide +kernel
theorem dX8_under_38 : decode cX8_under 38 = .ok (.invokevirtual 212, 3) := by decide +kernel
theorem dX8_under_41 : decode cX8_under 41 = .ok (.bipush (-9), 2) := by decide +kernel
theorem dX8_under_43 : decode cX8_under 43 = .ok (.if_icmp .ne 8, 3) := by decide +kernel
theorem dX8_under_46 : decode cX8_under 46 = .ok (.bipush (-9), 2) := by decide +kernel
theorem dX8_under_48 : decode cX8_under 48 = .ok (.goto 7, 3) := by decide +kernel
theorem dX8_under_51 : decode cX8_under 51 = .ok (.aload_n 0, 1) := by decide +kernel
theorem dX8_under_52 : decode cX8_under 52 = .ok (.getfield 209, 3) := by decide +kernel
theorem dX8_under_55 : decode cX8_under 55 = .ok (.ireturn, 1) := by decide +kernel
theorem dX8_lots_0 : decode cX8_lots 0 = .ok (.aload_n 0, 1) := by decide +kernel
theorem dX8_lots_1 : decode cX8_lots 1 = .ok (.iload_n 1, 1) := by decide +kernel
theorem dX8_lots_2 : decode cX8_lots 2 = .ok (.invokevirtual 190, 3) := by decide +kernel
theorem dX8_lots_5 : decode cX8_lots 5 = .ok (.ifCond .ne 9, 3) := by decide +kernel
theorem dX8_lots_8 : decode cX8_lots 8 = .ok (.aload_n 0, 1) := by decide +kernel
theorem dX8_lots_9 : decode cX8_lots 9 = .ok (.iconst (-1), 1) := by decide +kernel
theorem dX8_lots_10 : decode cX8_lots 10 = .ok (.invokevirtual 74, 3) := by decide +kernel
theorem dX8_lots_13 : decode cX8_lots 13 = .ok (.ireturn, 1) := by decide +kernel
theorem dX8_lots_14 : decode cX8_lots 14 = .ok (.iload_n 2, 1) := by decide +kernel
theorem dX8_lots_15 : decode cX8_lots 15 = .ok (.iconst 1, 1) := by decide +kernel
theorem dX8_lots_16 : decode cX8_lots 16 = .ok (.if_icmp .ge 10, 3) := by decide +kernel
theorem dX8_lots_19 : decode cX8_lots 19 = .ok (.aload_n 0, 1) := by decide +kernel
theorem dX8_lots_20 : decode cX8_lots 20 = .ok (.bipush (-4), 2) := by decide +kernel
theorem dX8_lots_22 : decode cX8_lots 22 = .ok (.invokevirtual 74, 3) := by decide +kernel
theorem dX8_lots_25 : decode cX8_lots 25 = .ok (.ireturn, 1) := by decide +kernel
theorem dX8_lots_26 : decode cX8_lots 26 = .ok (.iload_n 2, 1) := by decide +kernel
theorem dX8_lots_27 : decode cX8_lots 27 = .ok (.bipush 30, 2) := by decide +kernel
theorem dX8_lots_29 : decode cX8_lots 29 = .ok (.if_icmp .le 10, 3) := by decide +kernel
theorem dX8_lots_32 : decode cX8_lots 32 = .ok (.aload_n 0, 1) := by decide +kernel
theorem dX8_lots_33 : decode cX8_lots 33 = .ok (.bipush (-6), 2) := by decide +kernel
theorem dX8_lots_35 : decode cX8_lots 35 = .ok (.invokevirtual 74, 3) := by decide +kernel
theorem dX8_lots_38 : decode cX8_lots 38 = .ok (.ireturn, 1) := by decide +kernel
theorem dX8_lots_39 : decode cX8_lots 39 = .ok (.aload_n 0, 1) := by decide +kernel
theorem dX8_lots_40 : decode cX8_lots 40 = .ok (.getfield 67, 3) := by decide +kernel
theorem dX8_lots_43 : decode cX8_lots 43 = .ok (.ifCond .ne 10, 3) := by decide +kernel
theorem dX8_lots_46 : decode cX8_lots 46 = .ok (.aload_n 0, 1) := by decide +kernel
theorem dX8_lots_47 : decode cX8_lots 47 = .ok (.bipush (-3), 2) := by decide +kernel
theorem dX8_lots_49 : decode cX8_lots 49 = .ok (.invokevirtual 74, 3) := by decide +kernel
theorem dX8_lots_52 : decode cX8_lots 52 = .ok (.ireturn, 1) := by decide +kernel
theorem dX8_lots_53 : decode cX8_lots 53 = .ok (.aload_n 0, 1) := by decide +kernel
theorem dX8_lots_54 : decode cX8_lots 54 = .ok (.invokevirtual 193, 3) := by decide +kernel
theorem dX8_lots_57 : decode cX8_lots 57 = .ok (.aload_n 0, 1) := by decide +kernel
theorem dX8_lots_58 : decode cX8_lots 58 = .ok (.iload_n 3, 1) := by decide +kernel
theorem dX8_lots_59 : decode cX8_lots 59 = .ok (.putfield 234, 3) := by decide +kernel
theorem dX8_lots_62 : decode cX8_lots 62 = .ok (.sipush 255, 3) := by decide +kernel
theorem dX8_lots_65 : decode cX8_lots 65 = .ok (.istore 4, 2) := by decide +kernel
theorem dX8_lots_67 : decode cX8_lots 67 = .ok (.iconst 0, 1) := by decide +kernel
theorem dX8_lots_68 : decode cX8_lots 68 = .ok (.istore 5, 2) := by decide +kernel
theorem dX8_lots_70 : decode cX8_lots 70 = .ok (.iload 5, 2) := by decide +kernel
theorem dX8_lots_72 : decode cX8_lots 72 = .ok (.iload_n 2, 1) := by decide +kernel
theorem dX8_lots_73 : decode cX8_lots 73 = .ok (.if_icmp .ge 120, 3) := by decide +kernel
theorem dX8_lots_76 : decode cX8_lots 76 = .ok (.aload_n 0, 1) := by decide +kernel
theorem dX8_lots_77 : decode cX8_lots 77 = .ok (.iconst 3, 1) := by decide +kernel
theorem dX8_lots_78 : decode cX8_lots 78 = .ok (.invokevirtual 240, 3) := by decide +kernel
theorem dX8_lots_81 : decode cX8_lots 81 = .ok (.iconst 1, 1) := by decide +kernel
theorem dX8_lots_82 : decode cX8_lots 82 = .ok (.iadd, 1) := by decide +kernel
theorem dX8_lots_83 : decode cX8_lots 83 = .ok (.istore 6, 2) := by decide +kernel
theorem dX8_lots_85 : decode cX8_lots 85 = .ok (.iconst 0, 1) := by decide +kernel
theorem dX8_lots_86 : decode cX8_lots 86 = .ok (.istore 7, 2) := by decide +kernel
theorem dX8_lots_88 : decode cX8_lots 88 = .ok (.iload 7, 2) := by decide +kernel
theorem dX8_lots_90 : decode cX8_lots 90 = .ok (.iload 6, 2) := by decide +kernel
theorem dX8_lots_92 : decode cX8_lots 92 = .ok (.if_icmp .ge 24, 3) := by decide +kernel
theorem dX8_lots_95 : decode cX8_lots 95 = .ok (.aload_n 0, 1) := by decide +kernel
theorem dX8_lots_96 : decode cX8_lots 96 = .ok (.getfield 60, 3) := by decide +kernel
theorem dX8_lots_99 : decode cX8_lots 99 = .ok (.iload 7, 2) := by decide +kernel
theorem dX8_lots_101 : decode cX8_lots 101 = .ok (.aload_n 0, 1) := by decide +kernel
theorem dX8_lots_102 : decode cX8_lots 102 = .ok (.aload_n 0, 1) := by decide +kernel
theorem dX8_lots_103 : decode cX8_lots 103 = .ok (.getfield 67, 3) := by decide +kernel
theorem dX8_lots_106 : decode cX8_lots 106 = .ok (.invokevirtual 240, 3) := by decide +kernel
theorem dX8_lots_109 : decode cX8_lots 109 = .ok (.iastore, 1) := by decide +kernel
theorem dX8_lots_110 : decode cX8_lots 110 = .ok (.iinc 7 1, 3) := by decide +kernel
theorem dX8_lots_113 : decode cX8_lots 113 = .ok (.goto (-25), 3) := by decide +kernel
theorem dX8_lots_116 : decode cX8_lots 116 = .ok (.aload_n 0, 1) := by decide +kernel
theorem dX8_lots_117 : decode cX8_lots 117 = .ok (.iload 6, 2) := by decide +kernel
theorem dX8_lots_119 : decode cX8_lots 119 = .ok (.aload_n 0, 1) := by decide +kernel
theorem dX8_lots_120 : decode cX8_lots 120 = .ok (.aload_n 0, 1) := by decide +kernel
theorem dX8_lots_121 : decode cX8_lots 121 = .ok (.getfield 60, 3) := by decide +kernel
theorem dX8_lots_124 : decode cX8_lots 124 = .ok (.iload 6, 2) := by decide +kernel
theorem dX8_lots_126 : decode cX8_lots 126 = .ok (.invokevirtual 146, 3) := by decide +kernel
theorem dX8_lots_129 : decode cX8_lots 129 = .ok (.aload_n 0, 1) := by decide +kernel
theorem dX8_lots_130 : decode cX8_lots 130 = .ok (.aload_n 0, 1) := by decide +kernel
theorem dX8_lots_131 : decode cX8_lots 131 = .ok (.getfield 60, 3) := by decide +kernel
theorem dX8_lots_134 : decode cX8_lots 134 = .ok (.iload 6, 2) := by decide +kernel
theorem dX8_lots_136 : decode cX8_lots 136 = .ok (.invokevirtual 142, 3) := by decide +kernel
theorem dX8_lots_139 : decode cX8_lots 139 = .ok (.aload_n 0, 1) := by decide +kernel
theorem dX8_lots_140 : decode cX8_lots 140 = .ok (.getfield 111, 3) := by decide +kernel
theorem dX8_lots_143 : decode cX8_lots 143 = .ok (.invokevirtual 178, 3) := by decide +kernel
theorem dX8_lots_146 : decode cX8_lots 146 = .ok (.aload_n 0, 1) := by decide +kernel
theorem dX8_lots_147 : decode cX8_lots 147 = .ok (.aload_n 0, 1) := by decide +kernel
theorem dX8_lots_148 : decode cX8_lots 148 = .ok (.getfield 31, 3) := by decide +kernel
theorem dX8_lots_151 : decode cX8_lots 151 = .ok (.iload_n 1, 1) := by decide +kernel
theorem dX8_lots_152 : decode cX8_lots 152 = .ok (.iaload, 1) := by decide +kernel
theorem dX8_lots_153 : decode cX8_lots 153 = .ok (.aload_n 0, 1) := by decide +kernel
theorem dX8_lots_154 : decode cX8_lots 154 = .ok (.getfield 136, 3) := by decide +kernel
theorem dX8_lots_157 : decode cX8_lots 157 = .ok (.invokevirtual 199, 3) := by decide +kernel
theorem dX8_lots_160 : decode cX8_lots 160 = .ok (.istore 7, 2) := by decide +kernel
theorem dX8_lots_162 : decode cX8_lots 162 = .ok (.iload 4, 2) := by decide +kernel
theorem dX8_lots_164 : decode cX8_lots 164 = .ok (.iload 7, 2) := by decide +kernel
theorem dX8_lots_166 : decode cX8_lots 166 = .ok (.bipush (-9), 2) := by decide +kernel
theorem dX8_lots_168 : decode cX8_lots 168 = .ok (.if_icmp .ne 9, 3) := by decide +kernel
theorem dX8_lots_171 : decode cX8_lots 171 = .ok (.sipush 255, 3) := by decide +kernel
theorem dX8_lots_174 : decode cX8_lots 174 = .ok (.goto 10, 3) := by decide +kernel
theorem dX8_lots_177 : decode cX8_lots 177 = .ok (.aload_n 0, 1) := by decide +kernel
theorem dX8_lots_178 : decode cX8_lots 178 = .ok (.getfield 51, 3) := by decide +kernel
theorem dX8_lots_181 : decode cX8_lots 181 = .ok (.iload 7, 2) := by decide +kernel
theorem dX8_lots_183 : decode cX8_lots 183 = .ok (.iaload, 1) := by decide +kernel
theorem dX8_lots_184 : decode cX8_lots 184 = .ok (.iand, 1) := by decide +kernel
theorem dX8_lots_185 : decode cX8_lots 185 = .ok (.istore 4, 2) := by decide +kernel
theorem dX8_lots_187 : decode cX8_lots 187 = .ok (.iinc 5 1, 3) := by decide +kernel
theorem dX8_lots_190 : decode cX8_lots 190 = .ok (.goto (-120), 3) := by decide +kernel
theorem dX8_lots_193 : decode cX8_lots 193 = .ok (.aload_n 0, 1) := by decide +kernel
theorem dX8_lots_194 : decode cX8_lots 194 = .ok (.iload 4, 2) := by decide +kernel
theorem dX8_lots_196 : decode cX8_lots 196 = .ok (.invokevirtual 181, 3) := by decide +kernel
theorem dX8_lots_199 : decode cX8_lots 199 = .ok (.ireturn, 1) := by decide +kernel
theorem dX8_over_0 : decode cX8_over 0 = .ok (.iconst 0, 1) := by decide +kernel
theorem dX8_over_1 : decode cX8_over 1 = .ok (.istore_n 2, 1) := by decide +kernel
theorem dX8_over_2 : decode cX8_over 2 = .ok (.iload_n 2, 1) := by decide +kernel
theorem dX8_over_3 : decode cX8_over 3 = .ok (.aload_n 0, 1) := by decide +kernel
theorem dX8_over_4 : decode cX8_over 4 = .ok (.arraylength, 1) := by decide +kernel
theorem dX8_over_5 : decode cX8_over 5 = .ok (.if_icmp .ge 15, 3) := by decide +kernel
theorem dX8_over_8 : decode cX8_over 8 = .ok (.aload_n 1, 1) := by decide +kernel
theorem dX8_over_9 : decode cX8_over 9 = .ok (.iload_n 2, 1) := by decide +kernel
theorem dX8_over_10 : decode cX8_over 10 = .ok (.aload_n 0, 1) := by decide +kernel
theorem dX8_over_11 : decode cX8_over 11 = .ok (.iload_n 2, 1) := by decide +kernel
theorem dX8_over_12 : decode cX8_over 12 = .ok (.iaload, 1) := by decide +kernel
theorem dX8_over_13 : decode cX8_over 13 = .ok (.iastore, 1) := by decide +kernel
theorem dX8_over_14 : decode cX8_over 14 = .ok (.iinc 2 1, 3) := by decide +kernel
theorem dX8_over_17 : decode cX8_over 17 = .ok (.goto (-15), 3) := by decide +kernel
theorem dX8_over_20 : decode cX8_over 20 = .ok (.return_, 1) := by decide +kernel
theorem dX8_takeFrom_0 : decode cX8_takeFrom 0 = .ok (.aload_n 0, 1) := by decide +kernel
theorem dX8_takeFrom_1 : decode cX8_takeFrom 1 = .ok (.aload_n 1, 1) := by decide +kernel
theorem dX8_takeFrom_2 : decode cX8_takeFrom 2 = .ok (.getfield 67, 3) := by decide +kernel
theorem dX8_takeFrom_5 : decode cX8_takeFrom 5 = .ok (.putfield 67, 3) := by decide +kernel
theorem dX8_takeFrom_8 : decode cX8_takeFrom 8 = .ok (.aload_n 1, 1) := by decide +kernel
theorem dX8_takeFrom_9 : decode cX8_takeFrom 9 = .ok (.getfield 22, 3) := by decide +kernel
theorem dX8_takeFrom_12 : decode cX8_takeFrom 12 = .ok (.aload_n 0, 1) := by decide +kernel
theorem dX8_takeFrom_13 : decode cX8_takeFrom 13 = .ok (.getfield 22, 3) := by decide +kernel
theorem dX8_takeFrom_16 : decode cX8_takeFrom 16 = .ok (.invokestatic 243, 3) := by decide +kernel
theorem dX8_takeFrom_19 : decode cX8_takeFrom 19 = .ok (.aload_n 1, 1) := by decide +kernel
theorem dX8_takeFrom_20 : decode cX8_takeFrom 20 = .ok (.getfield 25, 3) := by decide +kernel
theorem dX8_takeFrom_23 : decode cX8_takeFrom 23 = .ok (.aload_n 0, 1) := by decide +kernel
theorem dX8_takeFrom_24 : decode cX8_takeFrom 24 = .ok (.getfield 25, 3) := by decide +kernel
theorem dX8_takeFrom_27 : decode cX8_takeFrom 27 = .ok (.invokestatic 243, 3) := by decide +kernel
theorem dX8_takeFrom_30 : decode cX8_takeFrom 30 = .ok (.aload_n 1, 1) := by decide +kernel
theorem dX8_takeFrom_31 : decode cX8_takeFrom 31 = .ok (.getfield 28, 3) := by decide +kernel
theorem dX8_takeFrom_34 : decode cX8_takeFrom 34 = .ok (.aload_n 0, 1) := by decide +kernel
theorem dX8_takeFrom_35 : decode cX8_takeFrom 35 = .ok (.getfield 28, 3) := by decide +kernel
theorem dX8_takeFrom_38 : decode cX8_takeFrom 38 = .ok (.invokestatic 243, 3) := by decide +kernel
theorem dX8_takeFrom_41 : decode cX8_takeFrom 41 = .ok (.aload_n 0, 1) := by decide +kernel
theorem dX8_takeFrom_42 : decode cX8_takeFrom 42 = .ok (.aload_n 1, 1) := by decide +kernel
theorem dX8_takeFrom_43 : decode cX8_takeFrom 43 = .ok (.getfield 71, 3) := by decide +kernel
theorem dX8_takeFrom_46 : decode cX8_takeFrom 46 = .ok (.putfield 71, 3) := by decide +kernel
theorem dX8_takeFrom_49 : decode cX8_takeFrom 49 = .ok (.aload_n 1, 1) := by decide +kernel
theorem dX8_takeFrom_50 : decode cX8_takeFrom 50 = .ok (.getfield 31, 3) := by decide +kernel
theorem dX8_takeFrom_53 : decode cX8_takeFrom 53 = .ok (.aload_n 0, 1) := by decide +kernel
theorem dX8_takeFrom_54 : decode cX8_takeFrom 54 = .ok (.getfield 31, 3) := by decide +kernel
theorem dX8_takeFrom_57 : decode cX8_takeFrom 57 = .ok (.invokestatic 243, 3) := by decide +kernel
theorem dX8_takeFrom_60 : decode cX8_takeFrom 60 = .ok (.aload_n 0, 1) := by decide +kernel
theorem dX8_takeFrom_61 : decode cX8_takeFrom 61 = .ok (.aload_n 1, 1) := by decide +kernel
theorem dX8_takeFrom_62 : decode cX8_takeFrom 62 = .ok (.getfield 111, 3) := by decide +kernel
theorem dX8_takeFrom_65 : decode cX8_takeFrom 65 = .ok (.putfield 111, 3) := by decide +kernel
theorem dX8_takeFrom_68 : decode cX8_takeFrom 68 = .ok (.aload_n 0, 1) := by decide +kernel
theorem dX8_takeFrom_69 : decode cX8_takeFrom 69 = .ok (.aload_n 1, 1) := by decide +kernel
theorem dX8_takeFrom_70 : decode cX8_takeFrom 70 = .ok (.getfield 136, 3) := by decide +kernel
theorem dX8_takeFrom_73 : decode cX8_takeFrom 73 = .ok (.putfield 136, 3) := by decide +kernel
theorem dX8_takeFrom_76 : decode cX8_takeFrom 76 = .ok (.aload_n 0, 1) := by decide +kernel
theorem dX8_takeFrom_77 : decode cX8_takeFrom 77 = .ok (.aload_n 1, 1) := by decide +kernel
theorem dX8_takeFrom_78 : decode cX8_takeFrom 78 = .ok (.getfield 230, 3) := by decide +kernel
theorem dX8_takeFrom_81 : decode cX8_takeFrom 81 = .ok (.putfield 230, 3) := by decide +kernel
theorem dX8_takeFrom_84 : decode cX8_takeFrom 84 = .ok (.aload_n 1, 1) := by decide +kernel
theorem dX8_takeFrom_85 : decode cX8_takeFrom 85 = .ok (.getfield 34, 3) := by decide +kernel
theorem dX8_takeFrom_88 : decode cX8_takeFrom 88 = .ok (.aload_n 0, 1) := by decide +kernel
theorem dX8_takeFrom_89 : decode cX8_takeFrom 89 = .ok (.getfield 34, 3) := by decide +kernel
theorem dX8_takeFrom_92 : decode cX8_takeFrom 92 = .ok (.invokestatic 243, 3) := by decide +kernel
theorem dX8_takeFrom_95 : decode cX8_takeFrom 95 = .ok (.aload_n 1, 1) := by decide +kernel
theorem dX8_takeFrom_96 : decode cX8_takeFrom 96 = .ok (.getfield 37, 3) := by decide +kernel
theorem dX8_takeFrom_99 : decode cX8_takeFrom 99 = .ok (.aload_n 0, 1) := by decide +kernel
theorem dX8_takeFrom_100 : decode cX8_takeFrom 100 = .ok (.getfield 37, 3) := by decide +kernel
theorem dX8_takeFrom_103 : decode cX8_takeFrom 103 = .ok (.invokestatic 243, 3) := by decide +kernel
theorem dX8_takeFrom_106 : decode cX8_takeFrom 106 = .ok (.aload_n 1, 1) := by decide +kernel
theorem dX8_takeFrom_107 : decode cX8_takeFrom 107 = .ok (.getfield 40, 3) := by decide +kernel
theorem dX8_takeFrom_110 : decode cX8_takeFrom 110 = .ok (.aload_n 0, 1) := by decide +kernel
theorem dX8_takeFrom_111 : decode cX8_takeFrom 111 = .ok (.getfield 40, 3) := by decide +kernel
theorem dX8_takeFrom_114 : decode cX8_takeFrom 114 = .ok (.invokestatic 243, 3) := by decide +kernel
theorem dX8_takeFrom_117 : decode cX8_takeFrom 117 = .ok (.aload_n 0, 1) := by decide +kernel
theorem dX8_takeFrom_118 : decode cX8_takeFrom 118 = .ok (.aload_n 1, 1) := by decide +kernel
theorem dX8_takeFrom_119 : decode cX8_takeFrom 119 = .ok (.getfield 221, 3) := by decide +kernel
theorem dX8_takeFrom_122 : decode cX8_takeFrom 122 = .ok (.putfield 221, 3) := by decide +kernel
theorem dX8_takeFrom_125 : decode cX8_takeFrom 125 = .ok (.return_, 1) := by decide +kernel
theorem dX8_on_0 : decode cX8_on 0 = .ok (.aload_n 0, 1) := by decide +kernel
theorem dX8_on_1 : decode cX8_on 1 = .ok (.getfield 247, 3) := by decide +kernel
theorem dX8_on_4 : decode cX8_on 4 = .ok (.ifnonnull 10, 3) := by decide +kernel
theorem dX8_on_7 : decode cX8_on 7 = .ok (.aload_n 0, 1) := by decide +kernel
theorem dX8_on_8 : decode cX8_on 8 = .ok (.bipush (-3), 2) := by decide +kernel
theorem dX8_on_10 : decode cX8_on 10 = .ok (.invokevirtual 74, 3) := by decide +kernel
theorem dX8_on_13 : decode cX8_on 13 = .ok (.ireturn, 1) := by decide +kernel
theorem dX8_on_14 : decode cX8_on 14 = .ok (.aload_n 0, 1) := by decide +kernel
theorem dX8_on_15 : decode cX8_on 15 = .ok (.aload_n 0, 1) := by decide +kernel
theorem dX8_on_16 : decode cX8_on 16 = .ok (.getfield 247, 3) := by decide +kernel
theorem dX8_on_19 : decode cX8_on 19 = .ok (.invokevirtual 123, 3) := by decide +kernel
theorem dX8_on_22 : decode cX8_on 22 = .ok (.aload_n 0, 1) := by decide +kernel
theorem dX8_on_23 : decode cX8_on 23 = .ok (.iconst 0, 1) := by decide +kernel
theorem dX8_on_24 : decode cX8_on 24 = .ok (.putfield 139, 3) := by decide +kernel
theorem dX8_on_27 : decode cX8_on 27 = .ok (.aload_n 0, 1) := by decide +kernel
theorem dX8_on_28 : decode cX8_on 28 = .ok (.iconst 0, 1) := by decide +kernel
theorem dX8_on_29 : decode cX8_on 29 = .ok (.putfield 218, 3) := by decide +kernel
theorem dX8_on_32 : decode cX8_on 32 = .ok (.aload_n 0, 1) := by decide +kernel
theorem dX8_on_33 : decode cX8_on 33 = .ok (.getfield 67, 3) := by decide +kernel
theorem dX8_on_36 : decode cX8_on 36 = .ok (.ireturn, 1) := by decide +kernel
